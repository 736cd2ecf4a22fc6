/-! THE CLAIM OUT OF ONE WALK OF THE LAW'S BODY. Your part is whole_start (and what it stands on); all else here is the same for every law, but numbers. -/
def R_law : String := "SlidingtrayLaw"
def lw_P (b : Addr) (xs : List Int32) (args : Array Value) (s : State) : Prop := args = #[.ref b] ∧ s.IntsAt b xs ∧ xs.length ≤ 2048 ∧ (Jvm.Cond.and given_1 narrow_1).before args s = true
/-- what a walk over the start with the record d0 says of its end, said of the start itself -/
theorem lw_closed {s t : State} {o : Outcome} {d0 : Drawn} {L : List Loc} {k n : Nat} (hd0 : s.drawn.sameBut d0 lw_cs) (hv : ∃ v, o = .returned v) (hW : (s.setDrawn d0).WarmedH t.vm) (hs : (s.setDrawn d0).sameButNew ({ t with vm := s.vm } : State) L k n) : State.butDraws s t lw_cs (fun t1 => Framed s o t1 L k n) := by
  have h2 : t.drawn = d0 := congrArg State.drawn hs.1
  refine ⟨⟨hv, hW, State.sameButNew.setDrawn hs s.drawn⟩, ?_, by decide⟩
  rw [h2]
  exact hd0
def lw_Q (_ : Array Value) (s : State) (o : Outcome) (t : State) : Prop := o = .returned (some (.int 1)) ∧ State.butDraws s t lw_cs (fun t1 => Framed s o t1 [] 601024 7293034)
def lw_Z (below : List Frame) (a : Array Value) (s : State) : State → Prop := fun t => ∃ o, t.status = .running ∧ Ended t below o ∧ lw_Q a s o t
/-- the law's own end, with 1 on the stack, nothing written that was there before, its room as the claim has it; d0: the record of draws at this point (at the entry s.drawn: begin with 'refine W.base ?_' and 'have hd0 := Drawn.sameBut.refl s.drawn lw_cs') -/
theorem lw_ret {p : Program} {l : Launch} {e : Env} {s : State} {m : MethodId} {below : List Frame} {meth : Method} {c : Code} {b : Nat} {d0 : Drawn} (hd0 : s.drawn.sameBut d0 lw_cs) (hx : p.tables.exec = Jvm.exec) (hb : c.code = code) (hr : meth.sig.returnType = ret) (hlocks : meth.locks = false) {pc : Nat} {H : Heap} {ls : Array Slot} (hdg : decode code pc = .ok (.ireturn, 1)) : W p l e room_1 (s.setDrawn d0) m #[Value.ref b] below meth c H [] 601024 7293034 (lw_Z below #[Value.ref b] s) (F0 m pc ls [.int 1]) := by
  intro T hT X
  obtain ⟨fs, hret, hrun, hended, hW, hframe⟩ := X.leave (v := some (.int 1)) (hlocks := hlocks) (fun h => by rw [hr] at h; cases h)
  have hmeth' : T.vm.method? m = some meth := X.method'
  refine ⟨T.setFrames fs, ?_, .returned (some (.int 1)), hrun, hended, rfl, lw_closed hd0 ⟨_, rfl⟩ hW hframe⟩
  jvm_step X.here [X.here.top, hx, hb, hdg, hmeth', hr, ret, narrow_b1]
  (try refine ⟨rfl, ?_⟩); (try refine ⟨rfl, ?_⟩)
  first | (intro acts; rw [hret _ acts rfl rfl rfl]) | rw [hret _ _ rfl rfl rfl]
  exact Steps.refl _
/-- what holds at the law's entry: the machine, the code, the tables' words (any of lw_tbl by 'hts w (by decide +kernel)'), the script of L ints xs at the cell b, what the Statement gives of the start (any of its parts by flat_of_before) -/
def lw_At (p : Program) (s : State) (m : MethodId) (meth : Method) (c : Code) (b L : Nat) (xs : Nat → Int32) : Prop :=
  p.tables.exec = Jvm.exec ∧ c.code = code ∧ meth.sig.returnType = ret ∧ c.maxLocals = 9 ∧ s.vm.findClass R_law = some m.cls ∧ (∀ w ∈ lw_tbl, w.before #[Value.ref b] s = true) ∧ va_X b L xs s s.heap ∧ b < s.heap.size ∧ meth.locks = false ∧ (Jvm.Cond.and given_1 narrow_1).before #[Value.ref b] s = true
/-- what is left of the claim: the pure machine's run of the law, on every script -/
def jRunsOk : Prop := ∀ (L : Nat) (xs : Nat → Int32), L ≤ 2048 → ∃ (n : Nat) (w' : jW) (x' : Nat), jgo (jrun jT n (some (L, xs))) jmL 0 [(0, .retAddr 0)] [] [] 0 = some (.inl (some (.int 1)), w', x') ∧ w'.length + x' ≤ 601024 ∧ jsl w' + 6 * x' ≤ 7293034
set_option maxHeartbeats 4000000 in
theorem whole_start_open (hR : jRunsOk) {p : Program} {e : Env} {s : State} {m : MethodId} {below : List Frame} {meth : Method} {c : Code} (l : Launch) (hflags : l.flags = flags0) {b L : Nat} {xs : Nat → Int32} (hL : L ≤ 2048) (C0 : lw_At p s m meth c b L xs) : W p l e room_1 s m #[Value.ref b] below meth c s.heap [] 0 0 (lw_Z below #[Value.ref b] s) (entryFrame m ([Value.ref b] : List Value).toArray 9) := by
  obtain ⟨hx, hb, hr, hml, hown, hts0, hX, hbl, hlocks, hgv0⟩ := C0
  have hl : l.stackTraces = false := by unfold Launch.stackTraces; rw [hflags]; decide +kernel
  have hd0 := Drawn.sameBut.refl s.drawn lw_cs
  refine W.base ?_
  have hts := dr_words hts0 s.drawn
  have hgv : (Jvm.Cond.and given_1 narrow_1).before #[Value.ref b] (s.setDrawn s.drawn) = true := (Cond.before_setDrawn _ _ _ _).trans hgv0
  have htT : ∀ w ∈ jTs, w.before #[Value.ref b] (s.setDrawn s.drawn) = true := fun w hw => hts w (List.mem_filter.mp hw).1
  have hcl : ∀ ci : Nat, ∃ q : ClassId × (Nat → Nat), ∀ r : vw_C, vwCl[ci]? = some r → u_Kn (s.setDrawn s.drawn) r.1 r.2.1 r.2.2 q.1 q.2 := by
    intro ci
    cases hc : vwCl[ci]? with
    | none => exact ⟨(0, fun _ => 0), fun r h => by cases h⟩
    | some r =>
      obtain ⟨h1, h2⟩ := jcl_ok ci r hc
      obtain ⟨cC, iS, h3⟩ := u_known htT h1 (htT _ h2)
      exact ⟨(cC, iS), fun r' h => by cases h; exact h3⟩
  have har : ∀ t : Nat, ∃ cA : ClassId, ∀ ty, jaty[t]? = some ty → ArrOfT (s.setDrawn s.drawn) cA ty ∧ va_RA (s.setDrawn s.drawn) cA ty := by
    intro t
    cases ht : jaty[t]? with
    | none => exact ⟨0, fun ty h => by cases h⟩
    | some ty =>
      obtain ⟨cA, h1⟩ := jarr_all hts t ty ht
      exact ⟨cA, fun ty' h => by cases h; exact h1⟩
  obtain ⟨fC, hfC⟩ := Classical.axiomOfChoice hcl
  obtain ⟨dA, hdA⟩ := Classical.axiomOfChoice har
  have hK : va_K ((fun ci => (fC ci).1), (fun ci => (fC ci).2)) vwCl (jtl dA) (s.setDrawn s.drawn) := by
    refine ⟨fun ci r h => hfC ci r h, fun k q hk => ?_⟩
    have hty : ∃ ty, jaty[k]? = some ty ∧ q = (dA k, ty) := by
      match k, hk with
      | 0, h => cases (Option.some.inj h); exact ⟨_, rfl, rfl⟩
      | 1, h => cases (Option.some.inj h); exact ⟨_, rfl, rfl⟩
      | 2, h => cases (Option.some.inj h); exact ⟨_, rfl, rfl⟩
      | 3, h => cases (Option.some.inj h); exact ⟨_, rfl, rfl⟩
      | 4, h => cases (Option.some.inj h); exact ⟨_, rfl, rfl⟩
      | 5, h => cases (Option.some.inj h); exact ⟨_, rfl, rfl⟩
      | 6, h => cases (Option.some.inj h); exact ⟨_, rfl, rfl⟩
      | n + 7, h => simp at h
    obtain ⟨ty, h1, rfl⟩ := hty
    exact hdA k ty h1
  have hcurS : ∃ cur, (s.setDrawn s.drawn).vm.findClass "Slidingtray" = some cur := ⟨_, (hfC 11 _ rfl).2.1⟩
  obtain ⟨cur, hcur⟩ := hcurS
  have hNW := jNW_all hts hgv
  have hSR := jSR_all hts hcur
  have hZ := jZ_all hts hgv
  obtain ⟨n, w', x', hrun, hc, hs⟩ := hR L xs hL
  have hAA : ∀ q, (s.setDrawn s.drawn).heap.size ≤ q → (fun q : Nat => (s.setDrawn s.drawn).heap.size ≤ q) q := fun q h => h
  have E : jEnv p jTs jNWl jSRl ((fun ci => (fC ci).1), (fun ci => (fC ci).2)) dA jmL (fun q : Nat => (s.setDrawn s.drawn).heap.size ≤ q) room_1 (s.setDrawn s.drawn) m #[Value.ref b] c :=
    ⟨hx, hb, hml, hown, htT, jTs_good, jNW_warms, Nat.le_of_ble_eq_true rfl, Nat.le_of_ble_eq_true rfl, hK, hNW, hSR, hZ, hAA⟩
  have hbl0 := fun t bl h => jchkB_ok (inip := meth.name = "<init>") (Thrp := fun pc e => jthrb jTT15 (jM_by jmL) pc e = true) tok15 jcasts (fun h => by cases h) (fun _ _ h => h) jarr ckL t bl h
  unfold jgo at hrun
  split at hrun
  · next bl0 ebl =>
    obtain ⟨pc0, e1, hDec⟩ := hbl0 0 bl0 ebl
    cases (Option.some.inj (show some 0 = some pc0 from e1))
    have hl9 := lv_entry ([Value.ref b]) (n := 9) (Nat.le_of_ble_eq_true rfl)
    rw [lg_entry_eq]
    refine jwalk (sb := some b) E hbl0 (scr := some (L, xs)) (fun q hq => by cases hq; exact ⟨b, rfl, hX, hbl, Nat.not_le.mpr hbl⟩) (fun pc9 x9 t hC hf => by cases hf) n (fun k _ => jT_con hl k) bl0 [(0, .retAddr 0)] [] [] 0 _ w' x' hrun 0 _ [] [] [] _ [] 0 0 hDec ⟨_, hl9, ⟨rfl, ⟨b, rfl, rfl⟩⟩, trivial⟩ trivial ⟨⟨rfl, rfl, fun k c h => by simp at h⟩, fun k q h => by simp at h, ⟨fun i j p q h => by simp at h, fun k q h => by simp at h⟩, va_S.rf⟩ (by show 0 + _ ≤ 601024 + _; omega) (by show 0 + _ ≤ 7293034 + _; omega) ?_ (fun x9 h => by cases h)
    intro v hv pc9 i9 st9 stc9 l9 ls9 wsc9 H9 locs9 cells9 slots9 a1 a2 a3 a4 a5 a6 a7
    cases hv
    obtain ⟨b1, b2, b3, b4⟩ := a5
    have hrt : jM_rt jmL = some .boolean := rfl
    rw [hrt] at a3
    simp only [jretI, hrt] at a2
    cases st9 with
    | nil => cases a3
    | cons y ys =>
      cases ys with
      | cons z zs => cases y <;> cases a3
      | nil =>
        cases y <;> (try (cases a3; done))
        simp only [jret, Bool.cond_eq_ite] at a3
        split at a3
        · cases a3
          obtain ⟨r9, rfl, hn9⟩ := jS_int a4
          have := jS_nil hn9
          subst this
          cases i9 <;> (try (cases a2; done))
          refine va_forget (fun q hq => b4.2.2 q hq) ?_
          refine W.widen (k := 601024) (n := 7293034) (by have e1 : ([] : jW).length = 0 := rfl; rw [e1] at a6; omega) (by have e1 : jsl ([] : jW) = 0 := rfl; rw [e1] at a7; omega) ?_
          exact lw_ret hd0 hx hb hr hlocks a1
        · cases a3
  · cases hrun
