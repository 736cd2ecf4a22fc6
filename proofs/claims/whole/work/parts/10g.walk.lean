section JW1
variable {p : Program} {l : Launch} {e : Env} {R : Room} {s : State} {m : MethodId} {args : Array Value} {below : List Frame} {meth : Method} {c : Code} {H : Heap} {locs : List Loc} {cells slots : Nat} {Q : State → Prop}
variable {pc : Nat} {ls : Array Slot} {D : va_G} {A : Nat → Prop} {Ts NW : List Cond} {SR : List (String × Nat × String)} {own : String} {sb : Option Nat} {dA : Nat → ClassId} {ads : List Nat} {stc : List Value} {wsc : va_W} {M N : jM} {st : List Value} {w w' : jW} {r : Option Value ⊕ Nat} {x x' b idx : Nat}
/-- what every call needs beside the callee's words -/
def jEnv (p : Program) (Ts NW : List Cond) (SR : List (String × Nat × String)) (D : va_G) (dA : Nat → ClassId) (M : jM) (A : Nat → Prop) (R : Room) (s : State) (m : MethodId) (args : Array Value) (c : Code) : Prop :=
  p.tables.exec = Jvm.exec ∧ c.code = jM_by M ∧ c.maxLocals = jM_nl M ∧ s.vm.findClass (jM_nm M).cls = some m.cls ∧ (∀ w ∈ Ts, w.before args s = true) ∧ (∀ w ∈ Ts, goodWord w = true) ∧ (∀ w ∈ NW, jwarms w) ∧ jM_fr M ≤ R.frames ∧ jM_lo M ≤ R.locals ∧ va_K D vwCl (jtl dA) s ∧ jNW NW s ∧ jSR SR s ∧ jZ A s s.heap ∧ (∀ q, s.heap.size ≤ q → A q)
theorem jrunV (E : jEnv p Ts NW SR D dA M A R s m args c) (hA : jAt sb dA D A s.heap ads w wsc H locs) (hS : jS sb ads st stc) (hn : ls.size = jM_nl M)
    (hok : jVok Ts (jM_nm M).cls idx b N) (hmay : jmay M N b true false st w = true) (hd : decode (jM_by M) pc = .ok (.invokevirtual idx, 3))
    (hcon : ∀ asc, jS sb ads (st.take b).reverse asc → vx_Met l (jM_nm N) (jcode N :: Ts) (jrm N w w' x x') (va_Pc asc (jPre D dA NW SR wsc H.size)) (jQ sb dA D ads wsc H.size r w') (jX sb dA D ads wsc H.size r w') ((w'.length + x') - (w.length + x)) ((jsl w' + 6 * x') - (jsl w + 6 * x)) (va_A wsc H.size))
    (hf : cells + ((w'.length + x') - (w.length + x)) ≤ R.cells ∧ slots + ((jsl w' + 6 * x') - (jsl w + 6 * x)) ≤ R.slots) :
    ∃ a, vx_Run p l e R s m args below meth c H locs cells slots ((w'.length + x') - (w.length + x)) ((jsl w' + 6 * x') - (jsl w + 6 * x)) (F0 m pc ls stc) (stc.drop b) (jQ sb dA D ads wsc H.size r w' a) (jX sb dA D ads wsc H.size r w') (va_A wsc H.size) := by
  obtain ⟨hx, hb, hml, hown, hts, hgood, hwarm, hfr, hlo, hK, hNW, hSR, hZ, hAA⟩ := E
  obtain ⟨hW, hP, hD, hS0⟩ := hA
  obtain ⟨⟨k1, -⟩, k2, k3, k4, k5, -⟩ := jmay_of hmay
  obtain ⟨g1, ⟨g2, g3, g4⟩, g5, g6, g7, g8, g9, r5, g10, g11⟩ := hok
  have has := jS_rev (jS_take b hS)
  have hrec := k5 rfl
  have hlen : ((st.take b).reverse).length = b := by simp; omega
  generalize hv : (st.take b).reverse = as at has hrec hlen hcon
  cases as with
  | nil => cases hrec
  | cons v0 As0 =>
    cases v0 with
    | ref q0 =>
      obtain ⟨a0, As, e1, ha0, hAs⟩ := jS_ref has
      have hst : stc = As.reverse ++ .ref a0 :: stc.drop b := by
        have h1 : (stc.take b) = As.reverse ++ [.ref a0] := by
          have := congrArg List.reverse e1
          rw [List.reverse_reverse, List.reverse_cons] at this
          exact this
        have h2 := List.take_append_drop b stc
        rw [h1, List.append_assoc] at h2
        exact h2.symm
      simp only [jrecv] at hrec
      split at hrec
      · next o1 e2 =>
        have e3 := Nat.eq_of_beq_eq_true hrec
        obtain ⟨e9, h1, h2⟩ := jWR_get hW e2 ha0
        obtain ⟨fs9, rfl, -⟩ := h2
        rw [e3] at h1
        have hj : jcode N = .code (jM_nm N) (jM_by N) (jM_nl N) (jM_rt N) := by unfold jcode; rw [g1]
        have hlA : As.length = b - 1 := by
          have := jS_len hAs
          simp only [List.length_cons] at hlen
          omega
        refine ⟨_, vx_runV (C := (jM_nm N).cls) (b := a0) (As := As) (rest := stc.drop b) (n := b - 1) (ret := jM_rt N) (bytes := jM_by N) (maxL := jM_nl N) (nL := jM_nl M) ⟨hx, hb, hml, hown, hts⟩ (hcon _ has) ⟨⟨rfl, rfl, by have : (jrm N w w' x x').frames = jM_fr N := rfl; omega, by have : (jrm N w w' x x').locals = jM_lo N := rfl; omega, jgood_ws hgood hts g2, by rw [hj]; exact List.mem_cons_self, by rw [← hj]; exact hts _ g2, hts _ g3, g4, fun sig h => ?_, hts _ g7⟩, hts _ g8, hts _ g9⟩ ⟨jPre_blind hwarm _, by have := va_recv hK hP g10 h1; rw [g11] at this; exact this, fun U hU hWU => ⟨by rw [e1], jPre_of hwarm hK hNW hSR hZ hP hD hS0 hAA hU hWU⟩⟩ rfl hlA hn hst ?_ hd hf⟩
        · have h2 := g6
          unfold jpar at h2
          rw [h] at h2
          exact (Option.some.inj h2).symm
        · have := jS_cat (jS_drop b hS)
          exact lv_room (by rw [this]; exact k2)
      · cases hrec
    | _ => cases hrec
theorem jrunI (E : jEnv p Ts NW SR D dA M A R s m args c) (hA : jAt sb dA D A s.heap ads w wsc H locs) (hS : jS sb ads st stc) (hn : ls.size = jM_nl M)
    (hok : jIok Ts (jM_nm M).cls idx b N) (hmay : jmay M N b false true st w = true) (hd : decode (jM_by M) pc = .ok (.invokespecial idx, 3))
    (hcon : ∀ asc, jS sb ads (st.take b).reverse asc → vx_Met l (jM_nm N) (jcode N :: Ts) (jrm N w w' x x') (va_Pc asc (jPre D dA NW SR wsc H.size)) (jQ sb dA D ads wsc H.size r w') (jX sb dA D ads wsc H.size r w') ((w'.length + x') - (w.length + x)) ((jsl w' + 6 * x') - (jsl w + 6 * x)) (va_A wsc H.size))
    (hf : cells + ((w'.length + x') - (w.length + x)) ≤ R.cells ∧ slots + ((jsl w' + 6 * x') - (jsl w + 6 * x)) ≤ R.slots) :
    ∃ a, vx_Run p l e R s m args below meth c H locs cells slots ((w'.length + x') - (w.length + x)) ((jsl w' + 6 * x') - (jsl w + 6 * x)) (F0 m pc ls stc) (stc.drop b) (jQ sb dA D ads wsc H.size r w' a) (jX sb dA D ads wsc H.size r w') (va_A wsc H.size) := by
  obtain ⟨hx, hb, hml, hown, hts, hgood, hwarm, hfr, hlo, hK, hNW, hSR, hZ, hAA⟩ := E
  obtain ⟨hW, hP, hD, hS0⟩ := hA
  obtain ⟨⟨k1, -⟩, k2, k3, k4, -, k5⟩ := jmay_of hmay
  obtain ⟨g1, g0, ⟨g2, g3, g4⟩, g5, g6, g7, g8, g9⟩ := hok
  have has := jS_rev (jS_take b hS)
  have hrec := k5 rfl
  have hlen : ((st.take b).reverse).length = b := by simp; omega
  generalize hv : (st.take b).reverse = as at has hrec hlen hcon
  cases as with
  | nil => cases hrec
  | cons v0 As0 =>
    cases v0 with
    | ref q0 =>
      obtain ⟨a0, As, e1, ha0, hAs⟩ := jS_ref has
      have hst : stc = As.reverse ++ .ref a0 :: stc.drop b := by
        have h1 : (stc.take b) = As.reverse ++ [.ref a0] := by
          have := congrArg List.reverse e1
          rw [List.reverse_reverse, List.reverse_cons] at this
          exact this
        have h2 := List.take_append_drop b stc
        rw [h1, List.append_assoc] at h2
        exact h2.symm
      have hj : jcode N = .code (jM_nm N) (jM_by N) (jM_nl N) none := by unfold jcode; rw [g1, g0]
      have hlA : As.length = b - 1 := by
        have := jS_len hAs
        simp only [List.length_cons] at hlen
        omega
      refine ⟨_, vx_runI (b := a0) (As := As) (rest := stc.drop b) (n := b - 1) (bytes := jM_by N) (maxL := jM_nl N) (nL := jM_nl M) ⟨hx, hb, hml, hown, hts⟩ (hcon _ has) ⟨⟨rfl, rfl, by have : (jrm N w w' x x').frames = jM_fr N := rfl; omega, by have : (jrm N w w' x x').locals = jM_lo N := rfl; omega, jgood_ws hgood hts g2, by rw [hj]; exact List.mem_cons_self, by rw [← hj]; exact hts _ g2, hts _ g3, g4, fun sig h => ?_, hts _ g7⟩, g9, hts _ g8⟩ ⟨jPre_blind hwarm _, fun U hU hWU => ⟨by rw [e1], jPre_of hwarm hK hNW hSR hZ hP hD hS0 hAA hU hWU⟩⟩ rfl hlA hn hst ?_ hd hf⟩
      · have h2 := g6
        unfold jpar at h2
        rw [h] at h2
        exact (Option.some.inj h2).symm
      · have := jS_cat (jS_drop b hS)
        exact lv_room (by rw [this]; exact k2)
    | _ => cases hrec
theorem jrunS (E : jEnv p Ts NW SR D dA M A R s m args c) (hA : jAt sb dA D A s.heap ads w wsc H locs) (hS : jS sb ads st stc) (hn : ls.size = jM_nl M)
    (hok : jSok Ts NW (jM_nm M).cls idx b N) (hmay : jmay M N b false false st w = true) (hd : decode (jM_by M) pc = .ok (.invokestatic idx, 3))
    (hcon : ∀ asc, jS sb ads (st.take b).reverse asc → vx_Met l (jM_nm N) (jcode N :: Ts) (jrm N w w' x x') (va_Pc asc (jPre D dA NW SR wsc H.size)) (jQ sb dA D ads wsc H.size r w') (jX sb dA D ads wsc H.size r w') ((w'.length + x') - (w.length + x)) ((jsl w' + 6 * x') - (jsl w + 6 * x)) (va_A wsc H.size))
    (hf : cells + ((w'.length + x') - (w.length + x)) ≤ R.cells ∧ slots + ((jsl w' + 6 * x') - (jsl w + 6 * x)) ≤ R.slots) :
    ∃ a, vx_Run p l e R s m args below meth c H locs cells slots ((w'.length + x') - (w.length + x)) ((jsl w' + 6 * x') - (jsl w + 6 * x)) (F0 m pc ls stc) (stc.drop b) (jQ sb dA D ads wsc H.size r w' a) (jX sb dA D ads wsc H.size r w') (va_A wsc H.size) := by
  obtain ⟨hx, hb, hml, hown, hts, hgood, hwarm, hfr, hlo, hK, hNW, hSR, hZ, hAA⟩ := E
  obtain ⟨hW, hP, hD, hS0⟩ := hA
  obtain ⟨⟨k1, -⟩, k2, k3, k4, -, -⟩ := jmay_of hmay
  obtain ⟨⟨g2, g3, g4⟩, g5, g6, g7⟩ := hok
  have has := jS_rev (jS_take b hS)
  have hlen : ((stc.take b).reverse).length = b := by have := jS_len hS; simp; omega
  have hst : stc = ((stc.take b).reverse).reverse ++ stc.drop b := by
    rw [List.reverse_reverse, List.take_append_drop]
  have hWr : 2 * (F0 m pc ls stc).monitorRoom + ((stc.drop b).map fun v => v.category).sum ≤ 8 := by
    have := jS_cat (jS_drop b hS)
    exact lv_room (by rw [this]; exact k2)
  have hpre : PreS s H (va_Pc ((stc.take b).reverse) (jPre D dA NW SR wsc H.size)) ((stc.take b).reverse) := ⟨jPre_blind hwarm _, fun U hU hWU => ⟨rfl, jPre_of hwarm hK hNW hSR hZ hP hD hS0 hAA hU hWU⟩⟩
  have hp2 : ∀ sig, parseMethodDescriptor (jM_nm N).desc = some sig → b = sig.parameters.length := fun sig h => by
    have h2 := g5
    unfold jpar at h2
    rw [h] at h2
    exact (Option.some.inj h2).symm
  have hf1 : (jrm N w w' x x').frames + 1 ≤ R.frames := by have : (jrm N w w' x x').frames = jM_fr N := rfl; omega
  have hf2 : 8 + (jM_nl N + 11) + (jrm N w w' x x').locals ≤ R.locals := by have : (jrm N w w' x x').locals = jM_lo N := rfl; omega
  cases hh : jM_hh N with
  | nil =>
    have hj : jcode N = .code (jM_nm N) (jM_by N) (jM_nl N) (jM_rt N) := by unfold jcode; rw [hh]
    rcases g7 with g7 | ⟨-, host, g7⟩
    · exact ⟨_, vx_runS (As := (stc.take b).reverse) (rest := stc.drop b) (n := b) (ret := jM_rt N) (bytes := jM_by N) (maxL := jM_nl N) (nL := jM_nl M) ⟨hx, hb, hml, hown, hts⟩ (hcon _ has) ⟨⟨rfl, rfl, hf1, hf2, jgood_ws hgood hts g2, by rw [hj]; exact List.mem_cons_self, by rw [← hj]; exact hts _ g2, hts _ g3, g4, hp2, hts _ g7⟩, hts _ g6⟩ hpre rfl hlen hn hst hWr hd hf⟩
    · exact ⟨_, vx_runSN (host := host) (As := (stc.take b).reverse) (rest := stc.drop b) (n := b) (ret := jM_rt N) (bytes := jM_by N) (maxL := jM_nl N) (nL := jM_nl M) ⟨hx, hb, hml, hown, hts⟩ (hcon _ has) ⟨⟨⟨rfl, rfl, hf1, hf2, jgood_ws hgood hts g2, by rw [hj]; exact List.mem_cons_self⟩, by rw [← hj]; exact hts _ g2, hts _ g3, g4, hp2, va_Nw.use rfl (hNW _ g7)⟩, hts _ g6, trivial⟩ hpre rfl hlen hn hst hWr hd hf⟩
  | cons h0 t0 =>
    have hj : jcode N = .codeWith (jM_nm N) (jM_by N) (jM_nl N) (jM_rt N) (h0 :: t0) := by unfold jcode; rw [hh]
    rcases g7 with g7 | ⟨g7, -⟩
    · exact ⟨_, vx_runSX (hh := h0 :: t0) (As := (stc.take b).reverse) (rest := stc.drop b) (n := b) (ret := jM_rt N) (bytes := jM_by N) (maxL := jM_nl N) (nL := jM_nl M) ⟨hx, hb, hml, hown, hts⟩ (hcon _ has) ⟨⟨rfl, rfl, hf1, hf2, jgood_ws hgood hts g2, by rw [hj]; exact List.mem_cons_self⟩, by rw [← hj]; exact hts _ g2, hts _ g3, g4, hp2, hts _ g7, hts _ g6⟩ hpre rfl hlen hn hst hWr hd hf⟩
    · rw [hh] at g7; cases g7
end JW1
