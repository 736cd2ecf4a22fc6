section JW2
variable {p : Program} {l : Launch} {e : Env} {R : Room} {s : State} {m : MethodId} {args : Array Value} {below : List Frame} {meth : Method} {c : Code} {Q : State → Prop}
variable {D : va_G} {A : Nat → Prop} {Ts NW : List Cond} {SR : List (String × Nat × String)} {sb : Option Nat} {dA : Nat → ClassId} {M : jM}
def jRet (p : Program) (l : Launch) (e : Env) (R : Room) (s : State) (m : MethodId) (args : Array Value) (below : List Frame) (meth : Method) (c : Code) (Q : State → Prop) (D : va_G) (A : Nat → Prop) (sb : Option Nat) (dA : Nat → ClassId) (M : jM) (r : Option Value ⊕ Nat) (w' : jW) (x' : Nat) (ads : List Nat) (w : jW) (x cells slots : Nat) : Prop :=
  ∀ v, r = .inl v → ∀ (pc9 : Nat) (i9 : Instr) (st9 stc9 : List Value) (l9 : List Nat) (ls9 : Array Slot) (wsc9 : va_W) (H9 : Heap) (locs9 : List Loc) (cells9 slots9 : Nat), decode (jM_by M) pc9 = .ok (i9, 1) → jretI M i9 = true → jret (jM_rt M) st9 = some v → jS sb (ads ++ l9) st9 stc9 → jAt sb dA D A s.heap (ads ++ l9) w' wsc9 H9 locs9 →
    cells9 + (w.length + x) = cells + (w'.length + x') → slots9 + (jsl w + 6 * x) = slots + (jsl w' + 6 * x') → W p l e R s m args below meth c H9 locs9 cells9 slots9 Q (F0 m pc9 ls9 stc9)
def jThr (p : Program) (l : Launch) (e : Env) (R : Room) (s : State) (m : MethodId) (args : Array Value) (below : List Frame) (meth : Method) (c : Code) (Q : State → Prop) (D : va_G) (A : Nat → Prop) (sb : Option Nat) (dA : Nat → ClassId) (M : jM) (Thr : Nat → Nat → Prop) (r : Option Value ⊕ Nat) (w' : jW) (x' : Nat) (ads : List Nat) (w : jW) (x cells slots : Nat) : Prop :=
  ∀ x9, r = .inr x9 → ∀ (pc9 : Nat) (st9 stc9 : List Value) (l9 : List Nat) (ls9 : Array Slot) (wsc9 : va_W) (H9 : Heap) (locs9 : List Loc) (cells9 slots9 : Nat), Thr pc9 x9 → jcat st9 + 82 ≤ jM_lo M → 5 < jM_fr M → ls9.size = jM_nl M → jS sb (ads ++ l9) st9 stc9 → jAt sb dA D A s.heap (ads ++ l9) w' wsc9 H9 locs9 →
    cells9 + 1 + (w.length + x) = cells + (w'.length + x') → slots9 + 6 + (jsl w + 6 * x) = slots + (jsl w' + 6 * x') → W p l e R s m args below meth c H9 locs9 cells9 slots9 Q (F0 m pc9 ls9 stc9)
theorem jRet_step {r : Option Value ⊕ Nat} {w' : jW} {x' : Nat} {ads l1 : List Nat} {w w1 : jW} {x x1 cells slots cells1 slots1 : Nat} (h : jRet p l e R s m args below meth c Q D A sb dA M r w' x' ads w x cells slots) (h1 : cells1 + (w.length + x) = cells + (w1.length + x1)) (h2 : slots1 + (jsl w + 6 * x) = slots + (jsl w1 + 6 * x1)) : jRet p l e R s m args below meth c Q D A sb dA M r w' x' (ads ++ l1) w1 x1 cells1 slots1 := by
  intro v hv pc9 i9 st9 stc9 l9 ls9 wsc9 H9 locs9 cells9 slots9 a1 a2 a3 a4 a5 a6 a7
  rw [List.append_assoc] at a4 a5
  exact h v hv pc9 i9 st9 stc9 (l1 ++ l9) ls9 wsc9 H9 locs9 cells9 slots9 a1 a2 a3 a4 a5 (by omega) (by omega)
theorem jThr_step {Thr : Nat → Nat → Prop} {r : Option Value ⊕ Nat} {w' : jW} {x' : Nat} {ads l1 : List Nat} {w w1 : jW} {x x1 cells slots cells1 slots1 : Nat} (h : jThr p l e R s m args below meth c Q D A sb dA M Thr r w' x' ads w x cells slots) (h1 : cells1 + (w.length + x) = cells + (w1.length + x1)) (h2 : slots1 + (jsl w + 6 * x) = slots + (jsl w1 + 6 * x1)) : jThr p l e R s m args below meth c Q D A sb dA M Thr r w' x' (ads ++ l1) w1 x1 cells1 slots1 := by
  intro v hv pc9 st9 stc9 l9 ls9 wsc9 H9 locs9 cells9 slots9 a1 a2 a3 a8 a4 a5 a6 a7
  rw [List.append_assoc] at a4 a5
  exact h v hv pc9 st9 stc9 (l1 ++ l9) ls9 wsc9 H9 locs9 cells9 slots9 a1 a2 a3 a8 a4 a5 (by omega) (by omega)
theorem jif_ok {cc : ByteArray} {H : Heap} {locs : List Loc} {cells slots pc : Nat} {ls : Array Slot} {k : ClassFile.Cond} {y : Int32} {off : Int} {tgt : Nat} {rest : List Value} (hx : p.tables.exec = Jvm.exec) (hb : c.code = cc) (hd : decode cc pc = .ok (.ifCond k off, 3)) (ht : (pc : Int) + off = (tgt : Int))
    (kt : jcb k y 0 = true → W p l e R s m args below meth c H locs cells slots Q (F0 m tgt ls rest)) (kf : jcb k y 0 = false → W p l e R s m args below meth c H locs cells slots Q (F0 m (pc + 3) ls rest)) : W p l e R s m args below meth c H locs cells slots Q (F0 m pc ls (.int y :: rest)) := by
  cases k with
  | eq => exact lv_if_eq hx hb hd ht (fun h => kt (decide_eq_true h)) (fun h => kf (decide_eq_false h))
  | ne => exact lv_if_ne hx hb hd ht (fun h => kt (by simp [jcb, h])) (fun h => kf (by simp [jcb, h]))
  | lt => exact lv_if_lt hx hb hd ht (fun h => kt (decide_eq_true h)) (fun h => kf (decide_eq_false h))
  | ge => exact lv_if_ge hx hb hd ht (fun h => kt (decide_eq_true h)) (fun h => kf (decide_eq_false h))
  | gt => exact lv_if_gt hx hb hd ht (fun h => kt (decide_eq_true h)) (fun h => kf (decide_eq_false h))
  | le => exact lv_if_le hx hb hd ht (fun h => kt (decide_eq_true h)) (fun h => kf (decide_eq_false h))
theorem jicmp_ok {cc : ByteArray} {H : Heap} {locs : List Loc} {cells slots pc : Nat} {ls : Array Slot} {k : ClassFile.Cond} {y z : Int32} {off : Int} {tgt : Nat} {rest : List Value} (hx : p.tables.exec = Jvm.exec) (hb : c.code = cc) (hd : decode cc pc = .ok (.if_icmp k off, 3)) (ht : (pc : Int) + off = (tgt : Int))
    (kt : jcb k y z = true → W p l e R s m args below meth c H locs cells slots Q (F0 m tgt ls rest)) (kf : jcb k y z = false → W p l e R s m args below meth c H locs cells slots Q (F0 m (pc + 3) ls rest)) : W p l e R s m args below meth c H locs cells slots Q (F0 m pc ls (.int z :: .int y :: rest)) := by
  cases k with
  | eq => exact lv_icmp_eq hx hb hd ht (fun h => kt (decide_eq_true h)) (fun h => kf (decide_eq_false h))
  | ne => exact lv_icmp_ne hx hb hd ht (fun h => kt (by simp [jcb, h])) (fun h => kf (by simp [jcb, h]))
  | lt => exact lv_icmp_lt hx hb hd ht (fun h => kt (decide_eq_true h)) (fun h => kf (decide_eq_false h))
  | ge => exact lv_icmp_ge hx hb hd ht (fun h => kt (decide_eq_true h)) (fun h => kf (decide_eq_false h))
  | gt => exact lv_icmp_gt hx hb hd ht (fun h => kt (decide_eq_true h)) (fun h => kf (decide_eq_false h))
  | le => exact lv_icmp_le hx hb hd ht (fun h => kt (decide_eq_true h)) (fun h => kf (decide_eq_false h))
theorem jhas {sb : Option Nat} {ads : List Nat} {lv : jL} {ls : Array Slot} {nl k : Nat} {q : Nat} {lc : jL} (h2 : jLR sb ads lv lc) (h : lv_has ls nl ((k, .ref q) :: lc.filter (fun q => !(q.1 == k) && !(q.1 + 1 == k && q.2.category == 2)))) : jH sb ads ls nl (jdrop lv k) :=
  ⟨_, lv_has_tl h, jLR_filter _ (fun j u u' hu => by simp only [hu]) h2⟩
set_option maxHeartbeats 4000000 in
theorem jwalk {mt : List jM} {pcs : Nat → Option Nat} {Cov : Nat → Prop} {Thr : Nat → Nat → Prop} (E : jEnv p Ts NW SR D dA M A R s m args c)
    (hbl : ∀ t bl, (jM_bl M)[t]? = some bl → ∃ pc0, pcs t = some pc0 ∧ jDec (jP mt Ts NW (jM_nm M).cls (meth.name = "<init>") M pcs Cov Thr) pc0 bl)
    {scr : Option (Nat × (Nat → Int32))} (hX : ∀ q, scr = some q → ∃ b0, sb = some b0 ∧ va_X b0 q.1 q.2 s s.heap ∧ b0 < s.heap.size ∧ ¬ A b0)
    (hcat : ∀ pc9 x9 t, Cov pc9 → jfind (jM_hs M) x9 = some t → ∃ t0, pcs t = some t0 ∧ ∀ (H9 : Heap) (locs9 : List Loc) (cells9 slots9 : Nat) (ls9 : Array Slot) (rest9 : List Value) (ce : Cell) (q9 : Addr), H9[q9]? = some ce → ce.vm = .none → s.vm.findClass (jexn x9) = some ce.cls → W p l e R s m args below meth c H9 locs9 cells9 slots9 Q (F0 m t0 ls9 [.ref q9]) → vx_W p l e R s m args below meth c H9 locs9 cells9 slots9 Q (F0 m pc9 ls9 rest9) q9) :
    ∀ n : Nat, (∀ k, k < n → jConS mt l Ts NW SR D dA k) → ∀ (is : List jI) (lv : jL) (st : List Value) (w : jW) (x : Nat) (r : Option Value ⊕ Nat) (w' : jW) (x' : Nat), jrun mt n scr M is lv st w x = some (r, w', x') →
    ∀ (pc : Nat) (ls : Array Slot) (stc : List Value) (ads : List Nat) (wsc : va_W) (H : Heap) (locs : List Loc) (cells slots : Nat), jDec (jP mt Ts NW (jM_nm M).cls (meth.name = "<init>") M pcs Cov Thr) pc is → jH sb ads ls (jM_nl M) lv → jS sb ads st stc → jAt sb dA D A s.heap ads w wsc H locs →
    cells + (w'.length + x') ≤ R.cells + (w.length + x) → slots + (jsl w' + 6 * x') ≤ R.slots + (jsl w + 6 * x) → jRet p l e R s m args below meth c Q D A sb dA M r w' x' ads w x cells slots → jThr p l e R s m args below meth c Q D A sb dA M Thr r w' x' ads w x cells slots →
    W p l e R s m args below meth c H locs cells slots Q (F0 m pc ls stc) := by
  intro n
  induction n with
  | zero =>
    intro _ is lv st w x r w' x' h
    cases h
  | succ n ih0 =>
    intro hcon is lv st w x r w' x' h pc ls stc ads wsc H locs cells slots hDec hH hS hA hc hs hret hthr
    have ih := ih0 (fun k hk => hcon k (Nat.lt_succ_of_lt hk))
    have hconn := hcon n (Nat.lt_succ_self n)
    clear ih0 hcon
    change jbody mt scr (jrun mt n none) (jrun mt n scr) M is lv st w x = _ at h
    have go : ∀ (is1 : List jI) (lv1 : jL) (st1 : List Value) (w1 : jW) (x1 : Nat), jrun mt n scr M is1 lv1 st1 w1 x1 = some (r, w', x') → ∀ (pc1 : Nat) (ls1 : Array Slot) (stc1 : List Value) (l1 : List Nat) (wsc1 : va_W) (H1 : Heap) (locs1 : List Loc) (cells1 slots1 : Nat), jDec (jP mt Ts NW (jM_nm M).cls (meth.name = "<init>") M pcs Cov Thr) pc1 is1 → jH sb (ads ++ l1) ls1 (jM_nl M) lv1 → jS sb (ads ++ l1) st1 stc1 → jAt sb dA D A s.heap (ads ++ l1) w1 wsc1 H1 locs1 → cells1 + (w.length + x) = cells + (w1.length + x1) → slots1 + (jsl w + 6 * x) = slots + (jsl w1 + 6 * x1) → W p l e R s m args below meth c H1 locs1 cells1 slots1 Q (F0 m pc1 ls1 stc1) := by
      intro is1 lv1 st1 w1 x1 e1 pc1 ls1 stc1 l1 wsc1 H1 locs1 cells1 slots1 b1 b2 b3 b4 b5 b6
      exact ih is1 lv1 st1 w1 x1 r w' x' e1 pc1 ls1 stc1 (ads ++ l1) wsc1 H1 locs1 cells1 slots1 b1 b2 b3 b4 (by omega) (by omega) (jRet_step hret b5 b6) (jThr_step hthr b5 b6)
    have goJ : ∀ (t : Nat) (st1 : List Value) (off : Int), jgo (jrun mt n scr) M t lv st1 w x = some (r, w', x') → jtarget pcs pc off t → ∀ (stc1 : List Value), jS sb ads st1 stc1 → ∃ t0 : Nat, (pc : Int) + off = (t0 : Int) ∧ W p l e R s m args below meth c H locs cells slots Q (F0 m t0 ls stc1) := by
      intro t st1 off e1 e2 stc1 b3
      unfold jgo at e1
      split at e1
      · next bl e3 =>
        obtain ⟨pc0, e4, e5⟩ := hbl t bl e3
        obtain ⟨t0, e6, e7⟩ := e2
        rw [e4] at e6
        cases e6
        exact ⟨pc0, e7, go bl lv st1 w x e1 pc0 ls stc1 [] wsc H locs cells slots e5 (jH_mono [] hH) (jS_mono [] b3) (by rw [List.append_nil]; exact hA) rfl rfl⟩
      · cases e1
    cases is with
    | nil => cases h
    | cons x0 is' =>
      obtain ⟨i, len, a, b⟩ := x0
      obtain ⟨hPx, hDec'⟩ := hDec
      have hx : p.tables.exec = Jvm.exec := E.1
      have hb : c.code = jM_by M := E.2.1
      have hml : c.maxLocals = jM_nl M := E.2.2.1
      have hls : ls.size = jM_nl M := by obtain ⟨_, h1, -⟩ := hH; exact h1.1
      have hA1 : ∀ q, va_A wsc H.size q → A q := fun q hq => by
        obtain ⟨-, -, hD, hS0⟩ := hA
        rcases hq with ⟨k, e9, h9⟩ | h9
        · exact hD.2 k (q, e9) h9
        · exact E.2.2.2.2.2.2.2.2.2.2.2.2.2 q (Nat.le_trans hS0.1 h9)
      have plain : jplain scr (jrun mt n scr) M is' i a b lv st w x = some (r, w', x') → decode (jM_by M) pc = .ok (i, len) → len = jlen i → jok Ts NW (jM_nm M).cls (meth.name = "<init>") i a b → W p l e R s m args below meth c H locs cells slots Q (F0 m pc ls stc) := by
        intro h1 hd hlen hok
        unfold jplain at h1
        split at h1
        · next lv1 st1 w1 e1 =>
          have g1 := jstep_grow scr (jM_nl M) i a b lv st w _ e1
          have g2 := jrun_grow mt n scr M is' lv1 st1 w1 x _ h1
          dsimp only at g1 g2
          obtain ⟨hx, hb, hml, hown, hts, hgood, hwarm, hfr, hlo, hK, hNW, hSR, hZ, hAA⟩ := E
          exact jstep_ok hx hb hown hts hNW hK hX hAA hok hlen hd e1 hH hS hA (by omega) (by omega)
            (fun l9 ls1 stc1 wsc1 H1 locs1 cells1 slots1 b2 b3 b4 b5 b6 => go is' lv1 st1 w1 x h1 _ ls1 stc1 l9 wsc1 H1 locs1 cells1 slots1 hDec' b2 b3 b4 (by omega) (by omega))
        · cases h1
      have call : ∀ (isV isI : Bool), jinv mt (jrun mt n none) (jrun mt n scr) M is' a b isV isI lv st w x = some (r, w', x') → len = 3 → (jM_hs M = [] ∨ Cov pc) →
          (∀ (N : jM) (r1 : Option Value ⊕ Nat) (w1 : jW) (x1 : Nat), mt[a]? = some N → jmay M N b isV isI st w = true → (∀ asc, jS sb ads (st.take b).reverse asc → vx_Met l (jM_nm N) (jcode N :: Ts) (jrm N w w1 x x1) (va_Pc asc (jPre D dA NW SR wsc H.size)) (jQ sb dA D ads wsc H.size r1 w1) (jX sb dA D ads wsc H.size r1 w1) ((w1.length + x1) - (w.length + x)) ((jsl w1 + 6 * x1) - (jsl w + 6 * x)) (va_A wsc H.size)) →
            cells + ((w1.length + x1) - (w.length + x)) ≤ R.cells ∧ slots + ((jsl w1 + 6 * x1) - (jsl w + 6 * x)) ≤ R.slots →
            ∃ a9, vx_Run p l e R s m args below meth c H locs cells slots ((w1.length + x1) - (w.length + x)) ((jsl w1 + 6 * x1) - (jsl w + 6 * x)) (F0 m pc ls stc) (stc.drop b) (jQ sb dA D ads wsc H.size r1 w1 a9) (jX sb dA D ads wsc H.size r1 w1) (va_A wsc H.size)) →
          W p l e R s m args below meth c H locs cells slots Q (F0 m pc ls stc) := by
        intro isV isI h1 hlen hCov hrun
        unfold jinv at h1
        split at h1
        · cases h1
        · next N eN =>
          cases em : jmay M N b isV isI st w with
          | false => rw [em] at h1; cases h1
          | true =>
            rw [em] at h1
            simp only [cond_true] at h1
            unfold jback at h1
            split at h1
            · cases h1
            · next v w1 x1 e1 =>
              have g1 := jgo_grow (jrun_grow mt n none) N 0 _ _ w x _ e1
              have g2 := jrun_grow mt n scr M is' lv _ w1 x1 _ h1
              dsimp only at g1 g2
              obtain ⟨a9, hr⟩ := hrun N _ w1 x1 eN em (fun asc has => hconn a N eN sb _ (jmay_of em).1.2 w x _ w1 x1 e1 ads wsc H.size asc hA.1 has) (by omega)
              refine j_call hr hA.2.2.2 hA1 (fun v9 e9 v' l9 wsc1 H1 locs1 c1 c2 c3 c4 c5 => ?_) (fun z9 e9 => by cases e9)
              cases e9
              subst hlen
              refine go is' lv _ w1 x1 h1 _ ls _ l9 wsc1 H1 locs1 _ _ hDec' (jH_mono l9 hH) ?_ ⟨c2, c3, c4, c5⟩ (by omega) (by omega)
              cases v with
              | none => cases c1; exact jS_mono l9 (jS_drop b hS)
              | some v0 => obtain ⟨u, rfl, c6⟩ := c1; exact ⟨c6, jS_mono l9 (jS_drop b hS)⟩
            · next x9 w1 x1 e1 =>
              unfold jcatch at h1
              split at h1
              · cases h1
              · next t et =>
                have hC : Cov pc := by
                  rcases hCov with h9 | h9
                  · rw [h9] at et; cases et
                  · exact h9
                obtain ⟨t0, ep, hk⟩ := hcat pc x9 t hC et
                have fin : ∀ (k9 : Nat) (bl' : List jI) (i9 : Instr) (len9 a8 b8 : Nat), (jM_bl M)[t]? = some ((i9, len9, a8, b8) :: bl') → k9 < jM_nl M → jrun mt n scr M bl' (jdrop lv k9) [] w1 x1 = some (r, w', x') → jctl i9 = false → (∀ (H8 : Heap) (locs8 : List Loc) (cells8 slots8 : Nat) (q8 : Nat) (ls8 : Array Slot) (lc : jL), lv_has ls8 (jM_nl M) lc → decode (jM_by M) t0 = .ok (i9, len9) → len9 = jlen i9 → (∀ ls7 : Array Slot, lv_has ls7 (jM_nl M) ((k9, .ref q8) :: lc.filter (fun q => !(q.1 == k9) && !(q.1 + 1 == k9 && q.2.category == 2))) → W p l e R s m args below meth c H8 locs8 cells8 slots8 Q (F0 m (t0 + len9) ls7 [])) → W p l e R s m args below meth c H8 locs8 cells8 slots8 Q (F0 m t0 ls8 [.ref q8])) → W p l e R s m args below meth c H locs cells slots Q (F0 m pc ls stc) := by
                  intro k9 bl' i9 len9 a8 b8 e2 e3 e4 e8 hrow
                  have g1 := jgo_grow (jrun_grow mt n none) N 0 _ _ w x _ e1
                  have g2 := jrun_grow mt n scr M bl' _ _ w1 x1 _ e4
                  dsimp only at g1 g2
                  obtain ⟨a9, hr⟩ := hrun N _ w1 x1 eN em (fun asc has => hconn a N eN sb _ (jmay_of em).1.2 w x _ w1 x1 e1 ads wsc H.size asc hA.1 has) (by omega)
                  obtain ⟨pc0, e5, e6, e7⟩ := hbl t _ e2
                  rw [ep] at e5
                  cases e5
                  obtain ⟨f1, f2, -⟩ := jP_plain e8 e6
                  refine j_call hr hA.2.2.2 hA1 (fun z9 e9 => by cases e9) (fun z9 e9 ce q9 l9 wsc1 H1 locs1 c2 c3 c4 c5 c6 c7 c8 => ?_)
                  cases e9
                  refine hk _ _ _ _ _ _ ce q9 c6 c7 c8 ?_
                  obtain ⟨lc, hl1, hl2⟩ := hH
                  exact hrow H1 locs1 _ _ q9 ls lc hl1 f1 f2 (fun ls7 h7 => go bl' _ _ w1 x1 e4 _ ls7 [] l9 wsc1 H1 locs1 _ _ e7 (jH_mono l9 (jhas hl2 h7)) trivial ⟨c2, c3, c4, c5⟩ (by omega) (by omega))
                split at h1
                · next k9 len9 a8 b8 bl' e2 =>
                  cases e3 : Nat.blt k9.val (jM_nl M) with
                  | false => rw [e3] at h1; cases h1
                  | true =>
                    rw [e3] at h1
                    exact fin k9.val bl' _ len9 a8 b8 e2 (Nat.blt_eq.mp e3) h1 rfl (fun H8 locs8 cells8 slots8 q8 ls8 lc y1 y2 y3 y4 => by
                      subst y3
                      exact lv_astore_n hx hb y2 rfl y1 (Nat.blt_eq.mp e3) rfl y4)
                · next k9 len9 a8 b8 bl' e2 =>
                  cases e3 : Nat.blt k9 (jM_nl M) with
                  | false => rw [e3] at h1; cases h1
                  | true =>
                    rw [e3] at h1
                    exact fin k9 bl' _ len9 a8 b8 e2 (Nat.blt_eq.mp e3) h1 rfl (fun H8 locs8 cells8 slots8 q8 ls8 lc y1 y2 y3 y4 => by
                      subst y3
                      exact lv_astore hx hb y2 y1 (Nat.blt_eq.mp e3) rfl y4)
                · cases h1
      have retk : jretn M st w x = some (r, w', x') → jretI M i = true → decode (jM_by M) pc = .ok (i, 1) → W p l e R s m args below meth c H locs cells slots Q (F0 m pc ls stc) := by
        intro h1 h2 h3
        unfold jretn at h1
        split at h1
        · next v e1 =>
          cases h1
          exact hret v rfl pc i st stc [] ls wsc H locs cells slots h3 h2 e1 (jS_mono [] hS) (by rw [List.append_nil]; exact hA) rfl rfl
        · cases h1
      cases hctl : jctl i with
      | false =>
        rw [jbody_plain hctl] at h
        obtain ⟨f1, f2, f3⟩ := jP_plain hctl hPx
        exact plain h f1 f2 f3
      | true =>
        rcases hPx with ⟨hn1, hn2, hn3⟩ | ⟨hn1, hd, hPx⟩
        · dsimp only at hn1 hn2 hn3
          subst hn1
          subst hn2
          obtain ⟨t0, e1, e2⟩ := goJ a st 0 h ⟨pc, hn3, by omega⟩ stc hS
          have : pc = t0 := by omega
          rw [this]; exact e2
        dsimp only at hd hn1
        cases i with
        | nop => exact absurd rfl hn1
        | return_ =>
          have hPx : len = 1 := hPx
          subst hPx
          simp only [jbody] at h
          split at h
          · next e1 => exact retk h (by unfold jretI; rw [e1]) hd
          · cases h
        | ireturn =>
          have hPx : len = 1 := hPx
          subst hPx
          simp only [jbody] at h
          split at h
          · next e1 => exact retk h (by unfold jretI; rw [e1]) hd
          · next e1 => exact retk h (by unfold jretI; rw [e1]) hd
          · cases h
        | lreturn =>
          have hPx : len = 1 := hPx
          subst hPx
          simp only [jbody] at h
          split at h
          · next e1 => exact retk h (by unfold jretI; rw [e1]) hd
          · cases h
        | freturn =>
          have hPx : len = 1 := hPx
          subst hPx
          simp only [jbody] at h
          split at h
          · next e1 => exact retk h (by unfold jretI; rw [e1]) hd
          · cases h
        | dreturn =>
          have hPx : len = 1 := hPx
          subst hPx
          simp only [jbody] at h
          split at h
          · next e1 => exact retk h (by unfold jretI; rw [e1]) hd
          · cases h
        | goto off =>
          obtain ⟨h3, h4⟩ := hPx
          dsimp only at h3 h4
          subst h3
          obtain ⟨t0, e1, e2⟩ := goJ a st off h h4 stc hS
          exact lv_goto hx hb hd e1 e2
        | ifCond k off =>
          obtain ⟨h3, h4⟩ := hPx
          dsimp only at h3 h4
          subst h3
          simp only [jbody] at h
          split at h
          · next y rs =>
            obtain ⟨r9, rfl, hS1⟩ := jS_int hS
            have h5 := h4
            obtain ⟨t0, -, e0⟩ := h4
            refine jif_ok hx hb hd e0 (fun e1 => ?_) (fun e1 => ?_)
            · rw [e1] at h
              obtain ⟨t1, e2, e3⟩ := goJ a rs off h h5 r9 hS1
              have : t0 = t1 := by omega
              rw [this]; exact e3
            · rw [e1] at h
              exact go is' lv rs w x h _ ls r9 [] wsc H locs cells slots hDec' (jH_mono [] hH) (jS_mono [] hS1) (by rw [List.append_nil]; exact hA) rfl rfl
          · cases h
        | if_icmp k off =>
          obtain ⟨h3, h4⟩ := hPx
          dsimp only at h3 h4
          subst h3
          simp only [jbody] at h
          split at h
          · next z y rs =>
            obtain ⟨r8, rfl, hS0⟩ := jS_int hS
            obtain ⟨r9, rfl, hS1⟩ := jS_int hS0
            have h5 := h4
            obtain ⟨t0, -, e0⟩ := h4
            refine jicmp_ok hx hb hd e0 (fun e1 => ?_) (fun e1 => ?_)
            · rw [e1] at h
              obtain ⟨t1, e2, e3⟩ := goJ a rs off h h5 r9 hS1
              have : t0 = t1 := by omega
              rw [this]; exact e3
            · rw [e1] at h
              exact go is' lv rs w x h _ ls r9 [] wsc H locs cells slots hDec' (jH_mono [] hH) (jS_mono [] hS1) (by rw [List.append_nil]; exact hA) rfl rfl
          · cases h
        | tableswitch d lo hi offs =>
          simp only [jbody] at h
          split at h
          · next y rs =>
            obtain ⟨r9, rfl, hS1⟩ := jS_int hS
            split at h
            · next ts ets =>
              obtain ⟨h4, h5⟩ := hPx ts ets
              by_cases hr : y.toInt < lo ∨ hi < y.toInt
              · rw [decide_eq_true hr] at h
                simp only [cond_true] at h
                unfold jgoO at h
                split at h
                · next t et =>
                  obtain ⟨t0, e1, e2⟩ := goJ t rs d h (h4 t et) r9 hS1
                  exact lv_tableOut hx hb hd hr e1 e2
                · cases h
              · rw [decide_eq_false hr] at h
                simp only [cond_false] at h
                unfold jgoO at h
                split at h
                · next t et =>
                  obtain ⟨off, e3, e4⟩ := h5 _ t et
                  obtain ⟨t0, e1, e2⟩ := goJ t rs off h e4 r9 hS1
                  exact lv_tableIn hx hb hd (fun z => hr (Or.inl z)) (fun z => hr (Or.inr z)) e3 e1 e2
                · cases h
            · cases h
          · cases h
        | lookupswitch d ps =>
          simp only [jbody] at h
          split at h
          · next y rs =>
            obtain ⟨r9, rfl, hS1⟩ := jS_int hS
            split at h
            · next d0 ts ets =>
              obtain ⟨h4, h5⟩ := hPx
              obtain ⟨t0, e1, e2⟩ := goJ _ rs _ h (h5 d0 ts ets y.toInt) r9 hS1
              exact lv_lookup hx hb hd h4 rfl e1 e2
            · cases h
          · cases h
        | invokevirtual idx =>
          obtain ⟨h3, h4, h5⟩ := hPx
          dsimp only at h3 h5
          subst h3
          exact call true false h rfl h4 (fun N r1 w1 x1 eN em hM hf => jrunV E hA hS hls (h5 N eN) em hd hM hf)
        | invokespecial idx =>
          obtain ⟨h3, h4, h6, h5⟩ := hPx
          dsimp only at h3 h5 h6
          subst h3
          simp only [jbody] at h
          cases eb : Nat.beq b 778 with
          | true =>
            rw [eb] at h
            simp only [cond_true] at h
            obtain ⟨f1, f2, f3⟩ := h6 (Nat.eq_of_beq_eq_true eb)
            unfold jobj at h
            split at h
            · next q0 rs =>
              cases ec : (Nat.ble 1 (jM_fr M) && Nat.ble (jcat rs + 12) (jM_lo M)) with
              | false => rw [ec] at h; cases h
              | true =>
                rw [ec] at h
                simp only [Bool.and_eq_true, Nat.ble_eq] at ec
                obtain ⟨a0, r9, rfl, ha0, hS1⟩ := jS_ref hS
                have hfr := E.2.2.2.2.2.2.2.1
                have hlo := E.2.2.2.2.2.2.2.2.1
                refine W.objInit hx hb E.2.2.2.1 (E.2.2.2.2.1 _ f1) (E.2.2.2.2.1 _ f2) (E.2.2.2.2.1 _ f3) rfl (by rw [hml]; exact hls) rfl hd (by omega) ?_ ?_
                · have e1 := jS_cat hS1
                  have e2 : (F0 m pc ls (.ref a0 :: r9)).monitorRoom = 0 := rfl
                  rw [e1, e2]
                  omega
                · exact go is' lv rs w x h _ ls r9 [] wsc H locs cells slots hDec' (jH_mono [] hH) (jS_mono [] hS1) (by rw [List.append_nil]; exact hA) rfl rfl
            · cases h
          | false =>
            rw [eb] at h
            simp only [cond_false] at h
            have eb' : ¬ b = 778 := fun z => by rw [z] at eb; cases eb
            exact call false true h rfl h4 (fun N r1 w1 x1 eN em hM hf => jrunI E hA hS hls (h5 eb' N eN) em hd hM hf)
        | invokestatic idx =>
          obtain ⟨h3, h4, h6, h7, h8, h5⟩ := hPx
          dsimp only at h3 h5 h6 h7 h8
          subst h3
          simp only [jbody] at h
          cases eb : Nat.beq b 777 with
          | true =>
            rw [eb] at h
            simp only [cond_true] at h
            obtain ⟨f1, f2, f3, f4⟩ := h6 (Nat.eq_of_beq_eq_true eb)
            unfold jnat at h
            cases ec : (Nat.ble 1 (jM_fr M) && Nat.ble (jcat (st.drop 5) + (nativeFrameWords "java/lang/System" "arraycopy" 5 + 11)) (jM_lo M)) with
            | false => rw [ec] at h; cases h
            | true =>
              rw [ec] at h
              simp only [cond_true] at h
              simp only [Bool.and_eq_true, Nat.ble_eq] at ec
              split at h
              · next rs w1 e1 =>
                have g1 := jcopy_grow _ _ _ _ e1
                unfold jcopy at e1
                split at e1
                · next n9 dp q1 sp q0 rs' =>
                  split at e1
                  · next n0 f n1 g k0 k1 =>
                    simp only [Bool.cond_eq_ite] at e1
                    split at e1
                    · next hcnd =>
                      cases e1
                      simp only [Bool.and_eq_true, decide_eq_true_eq] at hcnd
                      obtain ⟨⟨y1, y2⟩, y3, y4, y5⟩ := hcnd
                      obtain ⟨r5, rfl, hS1⟩ := jS_int hS
                      obtain ⟨r6, rfl, hS2⟩ := jS_int hS1
                      obtain ⟨a1, r7, rfl, ha1, hS3⟩ := jS_ref hS2
                      obtain ⟨r8, rfl, hS4⟩ := jS_int hS3
                      obtain ⟨a0, r9, rfl, ha0, hS5⟩ := jS_ref hS4
                      obtain ⟨hW, hP, hD, hS0⟩ := hA
                      obtain ⟨_, m0, rfl⟩ := jWR_get hW k0 ha0
                      obtain ⟨_, m1, rfl⟩ := jWR_get hW k1 ha1
                      have hK := E.2.2.2.2.2.2.2.2.2.1
                      have hfr := E.2.2.2.2.2.2.2.1
                      have hlo := E.2.2.2.2.2.2.2.2.1
                      refine va_copyi hx hb (by rw [hml]; exact hls.symm) E.2.2.2.1 (E.2.2.2.2.1 _ f1) (E.2.2.2.2.1 _ f2) (E.2.2.2.2.1 _ f3) (E.2.2.2.2.1 _ f4) hK hP hD hS0 q0 q1 0 0 m0 m1 (ty := .int) rfl rfl rfl (jnneg y1) (jnneg y2) (jnneg y3) y4 y5 (fun _ _ => rfl) (by omega) ?_ hd (fun H1 locs1 p1 p2 p3 => ?_)
                      · have e1 := jS_cat hS5
                        have e2 : jcat (List.drop 5 (.int n9 :: .int dp :: .ref q1 :: .int sp :: .ref q0 :: rs)) = jcat rs := rfl
                        rw [e1]
                        omega
                      · exact go is' lv rs _ x h _ ls r9 [] _ H1 locs1 cells slots hDec' (jH_mono [] hH) (jS_mono [] hS5) ⟨by rw [List.append_nil]; exact jWR_set hW ha1 rfl, p1, p2, p3⟩ (by omega) (by omega)
                    · cases e1
                  · cases e1
                · cases e1
              · cases h
          | false =>
            rw [eb] at h
            simp only [cond_false] at h
            have eb' : ¬ b = 777 := fun z => by rw [z] at eb; cases eb
            have hfr := E.2.2.2.2.2.2.2.1
            have hlo := E.2.2.2.2.2.2.2.2.1
            cases eb5 : Nat.beq b 775 with
            | true =>
              rw [eb5] at h
              simp only [cond_true] at h
              obtain ⟨f1, f2, f3, f4⟩ := h7 (Nat.eq_of_beq_eq_true eb5)
              unfold jmn at h
              split at h
              · next z y rs =>
                cases ec : (Nat.ble 1 (jM_fr M) && Nat.ble (jcat rs + 13) (jM_lo M)) with
                | false => rw [ec] at h; cases h
                | true =>
                  rw [ec] at h
                  simp only [Bool.and_eq_true, Nat.ble_eq] at ec
                  have g2 := jrun_grow mt n scr M is' lv _ w x _ h
                  dsimp only at g2
                  obtain ⟨r8, rfl, hS1⟩ := jS_int hS
                  obtain ⟨r9, rfl, hS2⟩ := jS_int hS1
                  refine va_mmin hx hb (by rw [hml]; exact hls.symm) E.2.2.2.1 (E.2.2.2.2.1 _ f1) (E.2.2.2.2.1 _ f2) (E.2.2.2.2.1 _ f3) (E.2.2.2.2.1 _ f4) (by omega) ?_ (by omega) (by omega) hd ?_
                  · have e1 := jS_cat hS2
                    rw [e1]
                    omega
                  · exact go is' lv _ w x h _ ls _ [] wsc H locs cells slots hDec' (jH_mono [] hH) ⟨rfl, jS_mono [] hS2⟩ (by rw [List.append_nil]; exact hA) rfl rfl
              · cases h
            | false =>
              rw [eb5] at h
              simp only [cond_false] at h
              have eb5' : ¬ b = 775 := fun z => by rw [z] at eb5; cases eb5
              cases eb6 : Nat.beq b 776 with
              | true =>
                rw [eb6] at h
                simp only [cond_true] at h
                obtain ⟨f1, f2, f3, f4⟩ := h8 (Nat.eq_of_beq_eq_true eb6)
                unfold jmnl at h
                split at h
                · next z y rs =>
                  cases ec : (Nat.ble 1 (jM_fr M) && Nat.ble (jcat rs + 15) (jM_lo M)) with
                  | false => rw [ec] at h; cases h
                  | true =>
                    rw [ec] at h
                    simp only [Bool.and_eq_true, Nat.ble_eq] at ec
                    have g2 := jrun_grow mt n scr M is' lv _ w x _ h
                    dsimp only at g2
                    obtain ⟨r8, rfl, hS1⟩ := jS_long hS
                    obtain ⟨r9, rfl, hS2⟩ := jS_long hS1
                    refine va_mmin_long hx hb (by rw [hml]; exact hls.symm) E.2.2.2.1 (E.2.2.2.2.1 _ f1) (E.2.2.2.2.1 _ f2) (E.2.2.2.2.1 _ f3) (E.2.2.2.2.1 _ f4) (by omega) ?_ (by omega) (by omega) hd ?_
                    · have e1 := jS_cat hS2
                      rw [e1]
                      omega
                    · exact go is' lv _ w x h _ ls _ [] wsc H locs cells slots hDec' (jH_mono [] hH) ⟨rfl, jS_mono [] hS2⟩ (by rw [List.append_nil]; exact hA) rfl rfl
                · cases h
              | false =>
                rw [eb6] at h
                simp only [cond_false] at h
                have eb6' : ¬ b = 776 := fun z => by rw [z] at eb6; cases eb6
                exact call false false h rfl h4 (fun N r1 w1 x1 eN em hM hf => jrunS E hA hS hls (h5 eb' eb5' eb6' N eN) em hd hM hf)
        | new idx =>
          obtain ⟨h3, h4, h5⟩ := hPx
          dsimp only at h3 h4 h5
          subst h3
          simp only [jbody] at h
          cases eb : Nat.beq b 779 with
          | true =>
            rw [eb] at h
            simp only [cond_true] at h
            cases ec : (Nat.ble (jcat st + 82) (jM_lo M) && Nat.blt 5 (jM_fr M)) with
            | false => rw [ec] at h; cases h
            | true =>
              rw [ec] at h
              cases h
              simp only [Bool.and_eq_true, Nat.ble_eq, Nat.blt_eq] at ec
              exact hthr a rfl pc st stc [] ls wsc H locs cells slots (h4 (Nat.eq_of_beq_eq_true eb)) ec.1 ec.2 hls (jS_mono [] hS) (by rw [List.append_nil]; exact hA) (by omega) (by omega)
          | false =>
            rw [eb] at h
            simp only [cond_false] at h
            have eb' : ¬ b = 779 := fun z => by rw [z] at eb; cases eb
            exact plain h hd rfl (h5 eb')
        | _ => cases hctl
end JW2
