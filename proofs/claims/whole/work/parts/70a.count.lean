/-! weakest preconditions with the count of what was thrown -/
def jwpx (s : Option (Nat × (Nat → Int32))) (M : jM) (Q : (Option Value ⊕ Nat) → jW → Nat → Prop) (is : List jI) (lv : jL) (st : List Value) (w : jW) (d : Nat) : Prop :=
  ∀ lv0, jknow lv0 lv → ∀ x, ∃ (n : Nat) (r : Option Value ⊕ Nat) (w' : jW) (d' : Nat), jrun jT n s M is lv0 st w x = some (r, w', x + d') ∧ Q r w' (d + d')
def jatx (s : Option (Nat × (Nat → Int32))) (M : jM) (Q : (Option Value ⊕ Nat) → jW → Nat → Prop) (t : Nat) (lv : jL) (st : List Value) (w : jW) (d : Nat) : Prop := ∃ bl, (jM_bl M)[t]? = some bl ∧ jwpx s M Q bl lv st w d
def jmwx (N : jM) (as : List Value) (w : jW) (Q : (Option Value ⊕ Nat) → jW → Nat → Prop) : Prop := jatx none N Q 0 (lv_args 0 as) [] w 0
/-- the handler of e -/
def jhx (s : Option (Nat × (Nat → Int32))) (M : jM) (Q : (Option Value ⊕ Nat) → jW → Nat → Prop) (e : Nat) (w : jW) (d : Nat) : Prop := ∃ t i k l a b bl, jfind (jM_hs M) e = some t ∧ (jM_bl M)[t]? = some ((i, l, a, b) :: bl) ∧ (i = .astore k ∨ ∃ q : Fin 4, q.val = k ∧ i = .astore_n q) ∧ k < jM_nl M ∧ jwpx s M Q bl [] [] w d
def jcix (M : jM) (a b : Nat) (isV isI : Bool) (st : List Value) (w : jW) (F : Option Value → jW → Nat → Prop) (G : Nat → jW → Nat → Prop) : Prop :=
  ∃ N, jT[a]? = some N ∧ jmay M N b isV isI st w = true ∧ jmwx N (st.take b).reverse w (fun r w1 d1 => (∃ v, r = .inl v ∧ F v w1 d1) ∨ ∃ e, r = .inr e ∧ G e w1 d1)
def jevx (s : Option (Nat × (Nat → Int32))) (M : jM) (Q : (Option Value ⊕ Nat) → jW → Nat → Prop) : List jI → jL → List Value → jW → Nat → Prop
  | [], _, _, _, _ => False
  | (i, _, a, b) :: is, lv, st, w, d => match i with
    | .nop => jatx s M Q a lv st w d
    | .goto _ => jatx s M Q a lv st w d
    | .ifCond c _ => (match st with | .int y :: r => (jcp c y 0 → jatx s M Q a lv r w d) ∧ (¬ jcp c y 0 → jevx s M Q is lv r w d) | _ => False)
    | .if_icmp c _ => (match st with | .int z :: .int y :: r => (jcp c y z → jatx s M Q a lv r w d) ∧ (¬ jcp c y z → jevx s M Q is lv r w d) | _ => False)
    | .tableswitch _ lo hi _ => (match st with | .int y :: r => ∃ ts, (jM_sw M)[a]? = some ts ∧ ∃ t, (if y.toInt < lo ∨ hi < y.toInt then ts[0]? else ts[1 + (y.toInt - lo).toNat]?) = some t ∧ jatx s M Q t lv r w d | _ => False)
    | .lookupswitch _ _ => False
    | .return_ => False
    | .ireturn => (match st with | [.int y] => (jM_rt M = some .int ∨ (jM_rt M = some .boolean ∧ (y = 0 ∨ y = 1))) ∧ Q (.inl (some (.int y))) w d | _ => False)
    | .lreturn => False
    | .freturn => False
    | .dreturn => False
    | .invokevirtual _ => jcix M a b true false st w (fun v w1 d1 => jevx s M Q is lv (v.toList ++ st.drop b) w1 (d + d1)) (fun e w1 d1 => jhx s M Q e w1 (d + d1))
    | .invokespecial _ => if b = 778 then False else jcix M a b false true st w (fun v w1 d1 => jevx s M Q is lv (v.toList ++ st.drop b) w1 (d + d1)) (fun e w1 d1 => jhx s M Q e w1 (d + d1))
    | .invokestatic _ => if b = 777 then False else if b = 775 then False else if b = 776 then False
        else jcix M a b false false st w (fun v w1 d1 => jevx s M Q is lv (v.toList ++ st.drop b) w1 (d + d1)) (fun e w1 d1 => jhx s M Q e w1 (d + d1))
    | .new idx => if b = 779 then False else jevx s M Q is lv (.ref w.length :: st) (w ++ [.inr (a, jdf a)]) d
    | .iload_n k => (match jlk lv k.val with | some (.int y) => jevx s M Q is lv (.int y :: st) w d | _ => False)
    | .iload k => (match jlk lv k with | some (.int y) => jevx s M Q is lv (.int y :: st) w d | _ => False)
    | .lload_n k => (match jlk lv k.val with | some (.long y) => jevx s M Q is lv (.long y :: st) w d | _ => False)
    | .lload k => (match jlk lv k with | some (.long y) => jevx s M Q is lv (.long y :: st) w d | _ => False)
    | .dload k => (match jlk lv k with | some (.double y) => jevx s M Q is lv (.double y :: st) w d | _ => False)
    | .aload_n k => (match jlk lv k.val with | some (.ref y) => jevx s M Q is lv (.ref y :: st) w d | some (.retAddr y) => jevx s M Q is lv (.retAddr y :: st) w d | _ => False)
    | .aload k => (match jlk lv k with | some (.ref y) => jevx s M Q is lv (.ref y :: st) w d | some (.retAddr y) => jevx s M Q is lv (.retAddr y :: st) w d | _ => False)
    | .istore_n k => (match st with | .int y :: r => k.val < jM_nl M ∧ jevx s M Q is (jup lv k.val (.int y)) r w d | _ => False)
    | .istore k => (match st with | .int y :: r => k < jM_nl M ∧ jevx s M Q is (jup lv k (.int y)) r w d | _ => False)
    | .lstore_n k => (match st with | .long y :: r => k.val + 1 < jM_nl M ∧ jevx s M Q is (jup2 lv k.val (.long y)) r w d | _ => False)
    | .lstore k => (match st with | .long y :: r => k + 1 < jM_nl M ∧ jevx s M Q is (jup2 lv k (.long y)) r w d | _ => False)
    | .dstore k => (match st with | .double y :: r => k + 1 < jM_nl M ∧ jevx s M Q is (jup2 lv k (.double y)) r w d | _ => False)
    | .astore_n k => (match st with | .ref y :: r => k.val < jM_nl M ∧ jevx s M Q is (jup lv k.val (.ref y)) r w d | _ => False)
    | .astore k => (match st with | .ref y :: r => k < jM_nl M ∧ jevx s M Q is (jup lv k (.ref y)) r w d | _ => False)
    | .iinc k n => (match jlk lv k with | some (.int y) => k < jM_nl M ∧ jevx s M Q is (jup lv k (.int (y + Int32.ofInt n))) st w d | _ => False)
    | i => (match jstep s (jM_nl M) i a b [] st w with | some q => jevx s M Q is lv q.2.1 q.2.2 d | none => False)
theorem jevx_plain {s : Option (Nat × (Nat → Int32))} {M : jM} {Q : (Option Value ⊕ Nat) → jW → Nat → Prop} {is : List jI} {i : Instr} {len a b : Nat} {lv : jL} {st : List Value} {w : jW} {d : Nat} (hc : jctl i = false) (hl : jloc i = false) : jevx s M Q ((i, len, a, b) :: is) lv st w d = (match jstep s (jM_nl M) i a b [] st w with | some q => jevx s M Q is lv q.2.1 q.2.2 d | none => False) := by
  cases i <;> first | rfl | (cases hc; done) | (cases hl; done)
set_option maxHeartbeats 4000000 in
theorem jevx_ok {s : Option (Nat × (Nat → Int32))} {M : jM} {Q : (Option Value ⊕ Nat) → jW → Nat → Prop} : ∀ (is : List jI) (lv : jL) (st : List Value) (w : jW) (d : Nat), jevx s M Q is lv st w d → jwpx s M Q is lv st w d := by
  intro is
  induction is with
  | nil => intro lv st w d h; exact h.elim
  | cons x0 is ih =>
    intro lv st w d h lv0 hk x
    obtain ⟨i, len, a, b⟩ := x0
    have go : ∀ (lv1 : jL) (st1 : List Value) (w1 : jW), jwpx s M Q is lv1 st1 w1 d → ∀ lv2, jknow lv2 lv1 → (∀ n, jrun jT (n + 1) s M ((i, len, a, b) :: is) lv0 st w x = jrun jT n s M is lv2 st1 w1 x) → ∃ (n : Nat) (r : Option Value ⊕ Nat) (w' : jW) (d' : Nat), jrun jT n s M ((i, len, a, b) :: is) lv0 st w x = some (r, w', x + d') ∧ Q r w' (d + d') := by
      intro lv1 st1 w1 h1 lv2 h2 h3
      obtain ⟨n, r, w', d', h4, h5⟩ := h1 lv2 h2 x
      exact ⟨n + 1, r, w', d', by rw [h3]; exact h4, h5⟩
    have goJ : ∀ (t : Nat) (st1 : List Value), jatx s M Q t lv st1 w d → (∀ n, jrun jT (n + 1) s M ((i, len, a, b) :: is) lv0 st w x = jgo (jrun jT n s) M t lv0 st1 w x) → ∃ (n : Nat) (r : Option Value ⊕ Nat) (w' : jW) (d' : Nat), jrun jT n s M ((i, len, a, b) :: is) lv0 st w x = some (r, w', x + d') ∧ Q r w' (d + d') := by
      intro t st1 h1 h3
      obtain ⟨bl, h2, h4⟩ := h1
      obtain ⟨n, r, w', d', h5, h6⟩ := h4 lv0 hk x
      refine ⟨n + 1, r, w', d', ?_, h6⟩
      rw [h3]
      unfold jgo
      rw [h2]
      exact h5
    have ret : ∀ (v : Option Value), (∀ n, jrun jT (n + 1) s M ((i, len, a, b) :: is) lv0 st w x = some (.inl v, w, x)) → Q (.inl v) w d → ∃ (n : Nat) (r : Option Value ⊕ Nat) (w' : jW) (d' : Nat), jrun jT n s M ((i, len, a, b) :: is) lv0 st w x = some (r, w', x + d') ∧ Q r w' (d + d') := fun v h1 h2 => ⟨1, .inl v, w, 0, h1 0, h2⟩
    have call : ∀ (isV isI : Bool), jcix M a b isV isI st w (fun v w1 d1 => jevx s M Q is lv (v.toList ++ st.drop b) w1 (d + d1)) (fun e w1 d1 => jhx s M Q e w1 (d + d1)) → (∀ n, jrun jT (n + 1) s M ((i, len, a, b) :: is) lv0 st w x = jinv jT (jrun jT n none) (jrun jT n s) M is a b isV isI lv0 st w x) → ∃ (n : Nat) (r : Option Value ⊕ Nat) (w' : jW) (d' : Nat), jrun jT n s M ((i, len, a, b) :: is) lv0 st w x = some (r, w', x + d') ∧ Q r w' (d + d') := by
      intro isV isI h1 h3
      obtain ⟨N, hN, hm, bl, hb, h2⟩ := h1
      obtain ⟨n1, r1, w1, d1, h4, h5⟩ := h2 _ (jknow_rf (jargs_nd _ 0)) x
      rw [Nat.zero_add] at h5
      have h8 : ∀ n, n1 ≤ n → jgo (jrun jT n none) N 0 (lv_args 0 (st.take b).reverse) [] w x = some (r1, w1, x + d1) := fun n hn => by
        unfold jgo
        rw [hb]
        exact jrun_max hn _ _ _ _ _ _ _ h4
      rcases h5 with ⟨v, rfl, h5⟩ | ⟨e, rfl, t, i', k, l', a', b', bl', e1, e2, ei, e3, h5⟩
      · obtain ⟨n2, r, w', d2, h6, h7⟩ := ih lv _ w1 _ h5 lv0 hk (x + d1)
        refine ⟨max n1 n2 + 1, r, w', d1 + d2, ?_, by rw [← Nat.add_assoc]; exact h7⟩
        rw [h3]
        unfold jinv
        rw [hN]
        simp only [hm, cond_true]
        rw [h8 _ (Nat.le_max_left _ _), ← Nat.add_assoc]
        exact jrun_max (Nat.le_max_right _ _) _ _ _ _ _ _ _ h6
      · obtain ⟨n2, r, w', d2, h6, h7⟩ := h5 (jdrop lv0 k) ⟨⟨jnd_filter _ hk.1.1, rfl⟩, fun i v hi => by cases hi⟩ (x + d1)
        refine ⟨max n1 n2 + 1, r, w', d1 + d2, ?_, by rw [← Nat.add_assoc]; exact h7⟩
        rw [h3]
        unfold jinv
        rw [hN]
        simp only [hm, cond_true]
        rw [h8 _ (Nat.le_max_left _ _), ← Nat.add_assoc]
        show jcatch _ _ _ _ _ _ = _
        unfold jcatch
        rw [e1]
        dsimp only
        rw [e2]
        rcases ei with rfl | ⟨q, rfl, rfl⟩
        · dsimp only
          rw [Nat.blt_eq.mpr e3]
          exact jrun_max (Nat.le_max_right _ _) _ _ _ _ _ _ _ h6
        · dsimp only
          rw [Nat.blt_eq.mpr e3]
          exact jrun_max (Nat.le_max_right _ _) _ _ _ _ _ _ _ h6
    cases hc : jctl i with
    | false =>
      cases hl : jloc i with
      | false =>
        rw [jevx_plain hc hl] at h
        have e0 : ∀ n, jrun jT (n + 1) s M ((i, len, a, b) :: is) lv0 st w x = jplain s (jrun jT n s) M is i a b lv0 st w x := fun n => (jrun_succ _ _ _ _ _ _ _ _).trans (jbody_plain hc)
        have e1 := jstep_loc s (jM_nl M) i a b lv0 st w hl
        split at h
        · next q eq =>
          rw [eq] at e1
          refine go lv q.2.1 q.2.2 (ih _ _ _ _ h) lv0 hk (fun n => ?_)
          rw [e0]
          unfold jplain
          rw [e1]
          rfl
        · exact h.elim
      | true =>
        cases i <;> (try (cases hl; done))
        case iload_n k =>
          simp only [jevx] at h
          split at h
          · next y e =>
            refine go _ _ _ (ih _ _ _ _ h) lv0 hk (fun n => ?_)
            rw [jrun_succ, jbody_plain rfl]
            simp only [jplain, jstep, hk.2 _ _ e]
          · exact h.elim
        case iload k =>
          simp only [jevx] at h
          split at h
          · next y e =>
            refine go _ _ _ (ih _ _ _ _ h) lv0 hk (fun n => ?_)
            rw [jrun_succ, jbody_plain rfl]
            simp only [jplain, jstep, hk.2 _ _ e]
          · exact h.elim
        case lload_n k =>
          simp only [jevx] at h
          split at h
          · next y e =>
            refine go _ _ _ (ih _ _ _ _ h) lv0 hk (fun n => ?_)
            rw [jrun_succ, jbody_plain rfl]
            simp only [jplain, jstep, hk.2 _ _ e]
          · exact h.elim
        case lload k =>
          simp only [jevx] at h
          split at h
          · next y e =>
            refine go _ _ _ (ih _ _ _ _ h) lv0 hk (fun n => ?_)
            rw [jrun_succ, jbody_plain rfl]
            simp only [jplain, jstep, hk.2 _ _ e]
          · exact h.elim
        case dload k =>
          simp only [jevx] at h
          split at h
          · next y e =>
            refine go _ _ _ (ih _ _ _ _ h) lv0 hk (fun n => ?_)
            rw [jrun_succ, jbody_plain rfl]
            simp only [jplain, jstep, hk.2 _ _ e]
          · exact h.elim
        case aload_n k =>
          simp only [jevx] at h
          split at h
          · next y e =>
            refine go _ _ _ (ih _ _ _ _ h) lv0 hk (fun n => ?_)
            rw [jrun_succ, jbody_plain rfl]
            simp only [jplain, jstep, hk.2 _ _ e]
          · next y e =>
            refine go _ _ _ (ih _ _ _ _ h) lv0 hk (fun n => ?_)
            rw [jrun_succ, jbody_plain rfl]
            simp only [jplain, jstep, hk.2 _ _ e]
          · exact h.elim
        case aload k =>
          simp only [jevx] at h
          split at h
          · next y e =>
            refine go _ _ _ (ih _ _ _ _ h) lv0 hk (fun n => ?_)
            rw [jrun_succ, jbody_plain rfl]
            simp only [jplain, jstep, hk.2 _ _ e]
          · next y e =>
            refine go _ _ _ (ih _ _ _ _ h) lv0 hk (fun n => ?_)
            rw [jrun_succ, jbody_plain rfl]
            simp only [jplain, jstep, hk.2 _ _ e]
          · exact h.elim
        case istore_n k =>
          simp only [jevx] at h
          split at h
          · next y r =>
            obtain ⟨h1, h2⟩ := h
            refine go _ _ _ (ih _ _ _ _ h2) _ (jknow_up hk _ _) (fun n => ?_)
            rw [jrun_succ, jbody_plain rfl]
            simp only [jplain, jstep, Nat.blt_eq.mpr h1, cond_true]
          · exact h.elim
        case istore k =>
          simp only [jevx] at h
          split at h
          · next y r =>
            obtain ⟨h1, h2⟩ := h
            refine go _ _ _ (ih _ _ _ _ h2) _ (jknow_up hk _ _) (fun n => ?_)
            rw [jrun_succ, jbody_plain rfl]
            simp only [jplain, jstep, Nat.blt_eq.mpr h1, cond_true]
          · exact h.elim
        case lstore_n k =>
          simp only [jevx] at h
          split at h
          · next y r =>
            obtain ⟨h1, h2⟩ := h
            refine go _ _ _ (ih _ _ _ _ h2) _ (jknow_up2 hk _ _) (fun n => ?_)
            rw [jrun_succ, jbody_plain rfl]
            simp only [jplain, jstep, Nat.blt_eq.mpr h1, cond_true]
          · exact h.elim
        case lstore k =>
          simp only [jevx] at h
          split at h
          · next y r =>
            obtain ⟨h1, h2⟩ := h
            refine go _ _ _ (ih _ _ _ _ h2) _ (jknow_up2 hk _ _) (fun n => ?_)
            rw [jrun_succ, jbody_plain rfl]
            simp only [jplain, jstep, Nat.blt_eq.mpr h1, cond_true]
          · exact h.elim
        case dstore k =>
          simp only [jevx] at h
          split at h
          · next y r =>
            obtain ⟨h1, h2⟩ := h
            refine go _ _ _ (ih _ _ _ _ h2) _ (jknow_up2 hk _ _) (fun n => ?_)
            rw [jrun_succ, jbody_plain rfl]
            simp only [jplain, jstep, Nat.blt_eq.mpr h1, cond_true]
          · exact h.elim
        case astore_n k =>
          simp only [jevx] at h
          split at h
          · next y r =>
            obtain ⟨h1, h2⟩ := h
            refine go _ _ _ (ih _ _ _ _ h2) _ (jknow_up hk _ _) (fun n => ?_)
            rw [jrun_succ, jbody_plain rfl]
            simp only [jplain, jstep, Nat.blt_eq.mpr h1, cond_true]
          · exact h.elim
        case astore k =>
          simp only [jevx] at h
          split at h
          · next y r =>
            obtain ⟨h1, h2⟩ := h
            refine go _ _ _ (ih _ _ _ _ h2) _ (jknow_up hk _ _) (fun n => ?_)
            rw [jrun_succ, jbody_plain rfl]
            simp only [jplain, jstep, Nat.blt_eq.mpr h1, cond_true]
          · exact h.elim
        case iinc k n9 =>
          simp only [jevx] at h
          split at h
          · next y e =>
            obtain ⟨h1, h2⟩ := h
            refine go _ _ _ (ih _ _ _ _ h2) _ (jknow_up hk _ _) (fun n => ?_)
            rw [jrun_succ, jbody_plain rfl]
            simp only [jplain, jstep, hk.2 _ _ e, Nat.blt_eq.mpr h1, cond_true]
          · exact h.elim
    | true =>
      cases i <;> (try (cases hc; done))
      case nop => exact goJ a st h (fun n => rfl)
      case goto off => exact goJ a st h (fun n => rfl)
      case ifCond k off =>
        simp only [jevx] at h
        split at h
        · next y r =>
          cases hb : jcb k y 0 with
          | true => exact goJ a r (h.1 ((jcp_b k y 0).mp hb)) (fun n => by rw [jrun_succ]; show (bif jcb k y 0 then _ else _) = _; rw [hb]; rfl)
          | false => exact go lv r w (ih _ _ _ _ (h.2 (fun z => by rw [(jcp_b k y 0).mpr z] at hb; cases hb))) lv0 hk (fun n => by rw [jrun_succ]; show (bif jcb k y 0 then _ else _) = _; rw [hb]; rfl)
        · exact h.elim
      case if_icmp k off =>
        simp only [jevx] at h
        split at h
        · next z y r =>
          cases hb : jcb k y z with
          | true => exact goJ a r (h.1 ((jcp_b k y z).mp hb)) (fun n => by rw [jrun_succ]; show (bif jcb k y z then _ else _) = _; rw [hb]; rfl)
          | false => exact go lv r w (ih _ _ _ _ (h.2 (fun q => by rw [(jcp_b k y z).mpr q] at hb; cases hb))) lv0 hk (fun n => by rw [jrun_succ]; show (bif jcb k y z then _ else _) = _; rw [hb]; rfl)
        · exact h.elim
      case tableswitch d9 lo hi offs =>
        simp only [jevx] at h
        split at h
        · next y r =>
          obtain ⟨ts, e1, t, e2, h2⟩ := h
          refine goJ t r h2 (fun n => ?_)
          rw [jrun_succ]
          simp only [jbody, e1]
          split at e2
          · next hr => rw [decide_eq_true hr]; simp only [cond_true, jgoO, e2]
          · next hr => rw [decide_eq_false hr]; simp only [cond_false, jgoO, e2]
        · exact h.elim
      case lookupswitch d1 ps => exact h.elim
      case return_ => exact h.elim
      case ireturn =>
        simp only [jevx] at h
        split at h
        · next y =>
          obtain ⟨h1, h2⟩ := h
          refine ret (some (.int y)) (fun n => ?_) h2
          rw [jrun_succ]
          rcases h1 with h1 | ⟨h1, h3⟩
          · simp only [jbody, h1, jretn, jret]
          · simp only [jbody, h1, jretn, jret, decide_eq_true h3, cond_true]
        · exact h.elim
      case lreturn => exact h.elim
      case freturn => exact h.elim
      case dreturn => exact h.elim
      case invokevirtual idx => exact call true false h (fun n => rfl)
      case invokespecial idx =>
        simp only [jevx] at h
        split at h
        · exact h.elim
        · next e =>
          refine call false true h (fun n => ?_)
          rw [jrun_succ]
          show (bif Nat.beq b 778 then _ else _) = _
          rw [show Nat.beq b 778 = false from by cases hb : Nat.beq b 778 with | false => rfl | true => exact absurd (Nat.eq_of_beq_eq_true hb) e]
          rfl
      case invokestatic idx =>
        have nb : ∀ m : Nat, ¬ b = m → Nat.beq b m = false := fun m e => by
          cases hb : Nat.beq b m with
          | false => rfl
          | true => exact absurd (Nat.eq_of_beq_eq_true hb) e
        simp only [jevx] at h
        split at h
        · exact h.elim
        · next e =>
          split at h
          · exact h.elim
          · next e5 =>
            split at h
            · exact h.elim
            · next e6 =>
              refine call false false h (fun n => ?_)
              rw [jrun_succ]
              show (bif Nat.beq b 777 then _ else bif Nat.beq b 775 then _ else bif Nat.beq b 776 then _ else _) = _
              rw [nb _ e, nb _ e5, nb _ e6]
              rfl
      case new idx =>
        simp only [jevx] at h
        split at h
        · exact h.elim
        · next e =>
          refine go lv _ _ (ih _ _ _ _ h) lv0 hk (fun n => ?_)
          rw [jrun_succ]
          show (bif Nat.beq b 779 then _ else _) = _
          rw [show Nat.beq b 779 = false from by cases hb : Nat.beq b 779 with | false => rfl | true => exact absurd (Nat.eq_of_beq_eq_true hb) e]
          rfl
theorem jatx_ev {s : Option (Nat × (Nat → Int32))} {M : jM} {Q : (Option Value ⊕ Nat) → jW → Nat → Prop} {t : Nat} {lv : jL} {st : List Value} {w : jW} {d : Nat} (bl : List jI) (h : (jM_bl M)[t]? = some bl) (he : jevx s M Q bl lv st w d) : jatx s M Q t lv st w d := ⟨bl, h, jevx_ok _ _ _ _ _ he⟩
theorem jatx_less {s : Option (Nat × (Nat → Int32))} {M : jM} {Q : (Option Value ⊕ Nat) → jW → Nat → Prop} {t : Nat} {lv lv' : jL} {st : List Value} {w : jW} {d : Nat} (h : jatx s M Q t lv' st w d) (hl : ∀ q ∈ lv', jlk lv q.1 = some q.2) (hn : jnd lv' = true) : jatx s M Q t lv st w d := by
  obtain ⟨bl, h1, h2⟩ := h
  exact ⟨bl, h1, fun lv0 hk x => h2 lv0 (jknow_less hk hl hn) x⟩
theorem jhx_of {s : Option (Nat × (Nat → Int32))} {M : jM} {Q : (Option Value ⊕ Nat) → jW → Nat → Prop} {e : Nat} {w : jW} {d : Nat} (t k l a b : Nat) (bl : List jI) (h1 : jfind (jM_hs M) e = some t) (h2 : (jM_bl M)[t]? = some ((.astore k, l, a, b) :: bl)) (h3 : Nat.blt k (jM_nl M) = true) (h : jevx s M Q bl [] [] w d) : jhx s M Q e w d := ⟨t, _, k, l, a, b, bl, h1, h2, Or.inl rfl, Nat.blt_eq.mp h3, jevx_ok _ _ _ _ _ h⟩
theorem jhx_on {s : Option (Nat × (Nat → Int32))} {M : jM} {Q : (Option Value ⊕ Nat) → jW → Nat → Prop} {e : Nat} {w : jW} {d : Nat} (t : Nat) (k : Fin 4) (l a b : Nat) (bl : List jI) (h1 : jfind (jM_hs M) e = some t) (h2 : (jM_bl M)[t]? = some ((.astore_n k, l, a, b) :: bl)) (h3 : Nat.blt k.val (jM_nl M) = true) (h : jevx s M Q bl [] [] w d) : jhx s M Q e w d := ⟨t, _, k.val, l, a, b, bl, h1, h2, Or.inr ⟨k, rfl, rfl⟩, Nat.blt_eq.mp h3, jevx_ok _ _ _ _ _ h⟩
theorem jmx_of {N : jM} {as : List Value} {w : jW} {Q : (Option Value ⊕ Nat) → jW → Nat → Prop} (h : jmw N as w (fun r w1 => Q r w1 (jx r))) : jmwx N as w Q := by
  obtain ⟨bl, h1, h2⟩ := h
  refine ⟨bl, h1, fun lv0 hk x => ?_⟩
  obtain ⟨n, r, w', h3, h4⟩ := h2 lv0 hk x
  exact ⟨n, r, w', jx r, h3, by rw [Nat.zero_add]; exact h4⟩
