/-! every method of the table meets its contract -/
theorem jwarm_nc (C T : String) : jwarms (.not (.castable C T)) := by
  intro s U hW h
  obtain ⟨c, t, h1, h2, h3⟩ := va_Nc.moved hW.alike (va_Nc.of (args := #[]) h)
  show (Cond.not (.castable C T)).before #[] U = true
  simp [Cond.before, Cond.holds, Cond.value, h1, h2, h3]
abbrev jnames : List String := ["java/lang/RuntimeException", "java/lang/Exception"]
def jAtA (Ts NW : List Cond) (own : String) (ic e : Nat) : Prop := ∀ w ∈ vx_atS own ic (jexn e) jnames, w ∈ Ts ∨ (w ∈ NW ∧ w.onTables = true)
def jAtB (Ts NW : List Cond) (own : String) (ic e : Nat) : Prop := ∃ (ix : Nat) (rx : ByteArray), decode rx 0 = .ok (.aload_n 0, 1) ∧ decode rx 1 = .ok (.aload_n 1, 1) ∧ decode rx 2 = .ok (.invokespecial ix, 3) ∧ decode rx 5 = .ok (.return_, 1) ∧ ∀ w ∈ jx_at own ic (jexn e) ix rx jnames, w ∈ Ts ∨ (w ∈ NW ∧ w.onTables = true)
def jThrOk (Ts NW : List Cond) (SR : List (String × Nat × String)) (own : String) (by9 : ByteArray) (pc e : Nat) : Prop :=
  ∃ (ik is ic : Nat) (text : String), decode by9 pc = .ok (.new ik, 3) ∧ decode by9 (pc + 3) = .ok (.dup, 1) ∧ ((decode by9 (pc + 4) = .ok (.ldc is, 2) ∧ decode by9 (pc + 6) = .ok (.invokespecial ic, 3) ∧ decode by9 (pc + 9) = .ok (.athrow, 1)) ∨ (decode by9 (pc + 4) = .ok (.ldc_w is, 3) ∧ decode by9 (pc + 7) = .ok (.invokespecial ic, 3) ∧ decode by9 (pc + 10) = .ok (.athrow, 1))) ∧
    Cond.classLink own ik (jexn e) ∈ Ts ∧ Cond.initialized (jexn e) ∈ Ts ∧ (own, is, text) ∈ SR ∧ (jAtA Ts NW own ic e ∨ (jAtB Ts NW own ic e ∧ decode by9 (pc + 4) = .ok (.ldc is, 2))) ∧ Bundle.fit (jexn e) = true
def jHok (Ts NW : List Cond) (own : String) (hh : List (Nat × Nat × Nat × Nat)) (hs : List (Nat × Nat)) (pcs : Nat → Option Nat) (pc : Nat) : Prop :=
  ∀ e t, jfind hs e = some t → ∃ (pre : List ExceptionTableEntry) (x : ExceptionTableEntry) (suf : List ExceptionTableEntry) (name : String), tableOf hh = pre ++ x :: suf ∧ pcs t = some x.handlerPc ∧ covers x pc = true ∧ x.catchType ≠ 0 ∧ Cond.classLink own x.catchType name ∈ Ts ∧ Cond.castable (jexn e) name ∈ NW ∧
    ∀ z ∈ pre, covers z pc = false ∨ (z.catchType ≠ 0 ∧ ∃ nm, Cond.classLink own z.catchType nm ∈ Ts ∧ Cond.not (.castable (jexn e) nm) ∈ NW)
def jMok (mt : List jM) (Ts NW : List Cond) (SR : List (String × Nat × String)) (M : jM) : Prop :=
  ∃ (pcs : Nat → Option Nat) (Cov : Nat → Prop) (Thr : Nat → Nat → Prop), plainName (jM_nm M).cls = true ∧ pcs 0 = some 0 ∧
    (∀ t bl, (jM_bl M)[t]? = some bl → ∃ pc0, pcs t = some pc0 ∧ jDec (jP mt Ts NW (jM_nm M).cls ((jM_nm M).name = "<init>") M pcs Cov Thr) pc0 bl) ∧
    (∀ pc e, Thr pc e → jM_hh M = [] ∧ jThrOk Ts NW SR (jM_nm M).cls (jM_by M) pc e) ∧
    (jM_hh M = [] → jM_hs M = []) ∧ (∀ pc, Cov pc → jHok Ts NW (jM_nm M).cls (jM_hh M) (jM_hs M) pcs pc)
theorem jLR_args {sb : Option Nat} {ads : List Nat} : ∀ {as asc : List Value} (_ : jS sb ads as asc) (n : Nat), jLR sb ads (lv_args n as) (lv_args n asc)
  | [], [], _, _ => trivial
  | v :: r, v' :: r', h, n => ⟨⟨rfl, h.1⟩, by rw [jV_cat h.1]; exact jLR_args h.2 _⟩
theorem jsl_len : ∀ (vs : List Value), (lg_sl vs).length = jcat vs
  | [] => rfl
  | v :: r => by
    have h := jsl_len r
    simp only [lg_sl, jcat, List.flatMap_cons, List.length_append, List.map_cons, List.sum_cons] at h ⊢
    rw [h]
    rcases lv_cat v with e | e <;> simp [e]
section JCN
variable {l : Launch} {D : va_G} {Ts NW : List Cond} {SR : List (String × Nat × String)} {dA : Nat → ClassId} {mt : List jM}
set_option maxHeartbeats 4000000 in
theorem jcon (hl : l.stackTraces = false) (hgood : ∀ w ∈ Ts, goodWord w = true) (hwarm : ∀ w ∈ NW, jwarms w) (hmt : ∀ (a : Nat) (N : jM), mt[a]? = some N → jMok mt Ts NW SR N) (hcode : ∀ (a : Nat) (N : jM), mt[a]? = some N → jcode N ∈ Ts) :
    ∀ n, jConS mt l Ts NW SR D dA n := by
  intro n
  induction n using Nat.strongRecOn with
  | ind n ih =>
    intro a N hN sb as hcat w x r w' x' hrun ads wsc sz asc hWR has
    obtain ⟨pcs, Cov, Thr, hplain, hp0, hbl, hthr, hnoh, hcov⟩ := hmt a N hN
    have hg := jgo_grow (jrun_grow mt n none) N 0 _ _ w x _ hrun
    dsimp only at hg
    unfold jgo at hrun
    split at hrun
    · next bl0 ebl =>
      obtain ⟨pc0, e1, hDec⟩ := hbl 0 bl0 ebl
      rw [hp0] at e1
      cases e1
      have main : ∀ (p : Program) (e : Env) (s : State) (m : MethodId) (args : Array Value) (below : List Frame) (meth : Method) (c : Code) (s₁ : State), BodyLoose p l (jM_nm N) (headSpec (jcode N :: Ts) (jrm N w w' x x')) (jM_by N) (jM_nl N) (jM_rt N) e s m args below meth c s₁ → c.maxLocals = jM_nl N → va_Pc asc (jPre D dA NW SR wsc sz) args s → (c.exceptionTable.toList = tableOf (jM_hh N)) →
          W p l e (jrm N w w' x x') s m args below meth c s.heap [] 0 0 (vx_MQ below (jQ sb dA D ads wsc sz r w') (jX sb dA D ads wsc sz r w') args s ((w'.length + x') - (w.length + x)) ((jsl w' + 6 * x') - (jsl w + 6 * x)) (va_A wsc sz)) (entryFrame m args (jM_nl N)) := by
        intro p e s m args below meth c s₁ B hml hv htab
        obtain ⟨rfl, hsz, hP, hK, hD0, hNW, hSR, hZ⟩ := hv
        subst hsz
        have hx := B.exec
        have hb := B.bytes
        have hr := B.returns
        have hlocks := B.notSynchronized
        have hown : s.vm.findClass (jM_nm N).cls = some m.cls := findClass_of_methodNamed B.named
        have hname : meth.name = (jM_nm N).name := (name_of_methodNamed B.named B.method).1
        have hts0 := atoms_spec (ws := jcode N :: Ts) B.pre
        have hts : ∀ w ∈ Ts, w.before asc.toArray s = true := fun w hw => hts0 w (List.mem_cons_of_mem _ hw)
        have hD : va_D (va_A wsc s.heap.size) wsc := hD0.self
        have hS : va_S (va_A wsc s.heap.size) s.heap s.heap [] := va_S.rf
        have hAA : ∀ q, s.heap.size ≤ q → va_A wsc s.heap.size q := fun q h => Or.inr h
        have E : jEnv p Ts NW SR D dA N (va_A wsc s.heap.size) (jrm N w w' x x') s m asc.toArray c := ⟨hx, hb, hml, hown, hts, hgood, hwarm, Nat.le_refl _, Nat.le_refl _, hK, hNW, hSR, hZ, hAA⟩
        have hcasc : jcat asc = jcat as := jS_cat has
        have hl9 := lv_entry asc (n := jM_nl N) (by rw [jsl_len, hcasc]; exact hcat)
        rw [lg_entry_eq]
        have hH : jH sb ads ((lg_sl asc ++ List.replicate (jM_nl N - (lg_sl asc).length) Slot.unset).toArray) (jM_nl N) (lv_args 0 as) := ⟨_, hl9, jLR_args has 0⟩
        rw [← hname] at hbl hDec
        refine jwalk E hbl (scr := none) (fun q hq => by cases hq) ?_ n ih bl0 _ [] w x r w' x' hrun 0 _ [] ads wsc s.heap [] 0 0 hDec hH trivial ⟨hWR, hP, hD, hS⟩ (by have : (jrm N w w' x x').cells = (w'.length + x') - (w.length + x) := rfl; omega) (by have : (jrm N w w' x x').slots = (jsl w' + 6 * x') - (jsl w + 6 * x) := rfl; omega) ?_ ?_
        · intro pc9 x9 t hC hf
          obtain ⟨pre, xe, suf, name, h1, h2, h3, h4, h5, h6, h7⟩ := hcov pc9 hC x9 t hf
          refine ⟨_, h2, fun H9 locs9 cells9 slots9 ls9 rest9 ce q9 g1 g2 g3 g4 => ?_⟩
          exact vx_catch hown pre xe suf (by rw [htab]; exact h1) (fun z hz => by
            rcases h7 z hz with h | ⟨i1, nm, i2, i3⟩
            · exact Or.inl h
            · exact Or.inr ⟨i1, nm, hts _ i2, va_Nc.of (args := #[]) (hNW _ i3)⟩) h3 h4 (hts _ h5) (va_Nw.use rfl (hNW _ h6)) g1 g2 g3 g4
        · intro v hv pc9 i9 st9 stc9 l9 ls9 wsc9 H9 locs9 cells9 slots9 a1 a2 a3 a4 a5 a6 a7
          subst hv
          obtain ⟨b1, b2, b3, b4⟩ := a5
          have ec : cells9 = (w'.length + x') - (w.length + x) := by omega
          have es : slots9 = (jsl w' + 6 * x') - (jsl w + 6 * x) := by omega
          subst ec
          subst es
          have fin : ∀ v' : Option Value, jO sb (ads ++ l9) v v' → ∀ t : State, t.heap = H9 → s.WarmedH t.vm → jQ sb dA D ads wsc s.heap.size (.inl v) w' asc.toArray s (.returned v') t := fun v' hO t ht _ => ⟨⟨v', l9, wsc9, rfl, hO, b1, by rw [ht]; exact b2, b3⟩, b4.F ht⟩
          apply vx_ret
          cases hrt : jM_rt N with
          | none =>
            rw [hrt] at a3 hr
            simp only [jretI, hrt] at a2
            cases st9 with
            | nil =>
              cases a3
              have := jS_nil a4
              subst this
              cases i9 <;> first | (cases a2; done) | exact W.vret hx hb hr (fin none rfl) b4.2.2 a1
            | cons y ys => cases a3
          | some ty =>
            rw [hrt] at a3 hr
            simp only [jretI, hrt] at a2
            cases st9 with
            | nil => cases ty <;> cases a3
            | cons y ys =>
              cases ys with
              | cons z zs => cases ty <;> cases y <;> cases a3
              | nil =>
                cases ty <;> cases y <;> (try (cases a3; done)) <;> (try (cases i9 <;> first | (cases a2; done) | skip))
                all_goals first
                  | (cases a3; obtain ⟨r9, rfl, hn9⟩ := jS_double a4; have := jS_nil hn9; subst this; exact W.dret hx hb hr (fin (some (.double _)) ⟨_, rfl, rfl⟩) b4.2.2 a1)
                  | (cases a3; obtain ⟨r9, rfl, hn9⟩ := jS_float a4; have := jS_nil hn9; subst this; exact W.fret hx hb hr (fin (some (.float _)) ⟨_, rfl, rfl⟩) b4.2.2 a1)
                  | (cases a3; obtain ⟨r9, rfl, hn9⟩ := jS_long a4; have := jS_nil hn9; subst this; exact W.lret hx hb hr (fin (some (.long _)) ⟨_, rfl, rfl⟩) b4.2.2 a1)
                  | (cases a3; obtain ⟨r9, rfl, hn9⟩ := jS_int a4; have := jS_nil hn9; subst this; exact W.iret hx hb hr (fin (some (.int _)) ⟨_, rfl, rfl⟩) b4.2.2 a1)
                  | (simp only [jret, Bool.cond_eq_ite] at a3
                     split at a3
                     · next hb1 =>
                       cases a3
                       obtain ⟨r9, rfl, hn9⟩ := jS_int a4
                       have := jS_nil hn9
                       subst this
                       exact W.zret hx hb hr (by rcases of_decide_eq_true hb1 with rfl | rfl <;> decide) (fin (some (.int _)) ⟨_, rfl, rfl⟩) b4.2.2 a1
                     · cases a3)
        · intro x9 hx9 pc9 st9 stc9 l9 ls9 wsc9 H9 locs9 cells9 slots9 a1 a2 a3 a8 a4 a5 a6 a7
          subst hx9
          obtain ⟨b1, b2, b3, b4⟩ := a5
          obtain ⟨c1, ik, is, ic, text, d0, d3, dd, w1, w2, w3, w4, w5⟩ := hthr pc9 x9 a1
          obtain ⟨sa, hstr⟩ := hSR _ w3
          have hgt : ∀ w ∈ Ts, vx_ot w = true := fun w hw => by simp [vx_ot, hgood w hw]
          have hbf : ∀ L : List Cond, (∀ w ∈ L, w ∈ Ts ∨ (w ∈ NW ∧ w.onTables = true)) → ∀ w ∈ L, w.before asc.toArray s = true := fun L hL w hw => by
            rcases hL w hw with h9 | ⟨h9, h8⟩
            · exact hts w h9
            · exact va_Nw.use h8 (hNW w h9)
          have hgb : ∀ L : List Cond, (∀ w ∈ L, w ∈ Ts ∨ (w ∈ NW ∧ w.onTables = true)) → ∀ w ∈ Cond.classLink (jM_nm N).cls ik (jexn x9) :: Cond.initialized (jexn x9) :: L, vx_ot w = true := fun L hL w hw => by
            rcases List.mem_cons.mp hw with rfl | hw
            · exact hgt _ w1
            · rcases List.mem_cons.mp hw with rfl | hw
              · exact hgt _ w2
              · rcases hL w hw with h9 | ⟨h9, h8⟩
                · exact hgt w h9
                · simp [vx_ot, h8]
          have hcs : (stc9.map fun v => v.category).sum = jcat st9 := jS_cat a4
          have q1 : (jrm N w w' x x').frames = jM_fr N := rfl
          have q2 : (jrm N w w' x x').locals = jM_lo N := rfl
          have q3 : (jrm N w w' x x').cells = (w'.length + x') - (w.length + x) := rfl
          have q4 : (jrm N w w' x x').slots = (jsl w' + 6 * x') - (jsl w + 6 * x) := rfl
          have q5 : jnames.length = 2 := rfl
          have hout : ∀ (n9 : Nat), ∀ z ∈ c.exceptionTable.toList, covers z n9 = false := fun n9 z hz => by
            rw [htab, c1] at hz
            cases hz
          have hxx : ∀ t : State, s.vm.Alike t.vm → H9.size ≤ t.heap.size → (∀ q : Nat, q < H9.size → t.heap[q]? = H9[q]?) → jX sb dA D ads wsc s.heap.size (.inr x9) w' (jexn x9) s t := fun t ht1 ht2 ht3 =>
            ⟨rfl, ⟨l9, wsc9, b1, b2.kept (fun k q hk => ht3 _ ((b2 k q hk).lt)), b3⟩, Nat.le_trans b4.1 ht2, fun q h1 h2 => (ht3 q (Nat.lt_of_lt_of_le h1 b4.1)).trans (b4.2.1 q h1 h2)⟩
          rcases w4 with w4 | ⟨⟨ix, rx, x0, x1, x2, x5, w4⟩, d4'⟩
          · rcases dd with ⟨d4, d6, d9⟩ | ⟨d4, d6, d9⟩
            · exact vx_throwS hx hb hl (names := jnames) hown w5 (by decide +kernel) (hts _ w1) (hts _ w2) hstr (hbf _ w4) (hgb _ w4) hZ.1 hZ.2 b4 (by rw [hml]; exact a8) d0 d3 d4 d6 d9 (hout _) (by rw [q1, q5]; omega) (by rw [q2, q5, hcs]; omega) (by rw [q3]; omega) (by rw [q4]; omega) hlocks hxx b4.2.2 (by omega) (by omega)
            · exact vx_throwSW hx hb hl (names := jnames) hown w5 (by decide +kernel) (hts _ w1) (hts _ w2) hstr (hbf _ w4) (hgb _ w4) hZ.1 hZ.2 b4 (by rw [hml]; exact a8) d0 d3 d4 d6 d9 (hout _) (by rw [q1, q5]; omega) (by rw [q2, q5, hcs]; omega) (by rw [q3]; omega) (by rw [q4]; omega) hlocks hxx b4.2.2 (by omega) (by omega)
          · rcases dd with ⟨d4, d6, d9⟩ | ⟨d4, d6, d9⟩
            · exact jx_throwX hx hb hl x0 x1 x2 x5 (names := jnames) hown w5 (by decide +kernel) (hts _ w1) (hts _ w2) hstr (hbf _ w4) (hgb _ w4) hZ.1 hZ.2 b4 (by rw [hml]; exact a8) d0 d3 d4 d6 d9 (hout _) (by rw [q1, q5]; omega) (by rw [q2, q5, hcs]; omega) (by rw [q3]; omega) (by rw [q4]; omega) hlocks hxx b4.2.2 (by omega) (by omega)
            · rw [d4] at d4'; cases d4'
      cases hh : jM_hh N with
      | nil =>
        have hj : jcode N = .code (jM_nm N) (jM_by N) (jM_nl N) (jM_rt N) := by unfold jcode; rw [hh]
        refine vx_ofW (cc := jM_by N) (maxL := jM_nl N) (ret := jM_rt N) hplain (ws' := Ts) (by rw [hj]) ?_
        intro p e s m args below meth c s₁ B hml hno hv
        refine main p e s m args below meth c s₁ B hml hv ?_
        rw [hh]
        cases ht : c.exceptionTable.toList with
        | nil => rfl
        | cons z zs => exact (hno z (by rw [ht]; exact List.mem_cons_self)).elim
      | cons h0 t0 =>
        have hj : jcode N = .codeWith (jM_nm N) (jM_by N) (jM_nl N) (jM_rt N) (h0 :: t0) := by unfold jcode; rw [hh]
        refine vx_ofWH (cc := jM_by N) (maxL := jM_nl N) (ret := jM_rt N) (hh := h0 :: t0) hplain (ws' := Ts) (by rw [hj]) ?_
        intro p e s m args below meth c s₁ B hml hv
        refine main p e s m args below meth c s₁ B hml hv ?_
        rw [hh]
        have hts0 := atoms_spec (ws := jcode N :: Ts) B.pre
        have := hts0 _ List.mem_cons_self
        rw [hj] at this
        exact vx_table (x := jM_nm N) B this
    · cases hrun
end JCN
