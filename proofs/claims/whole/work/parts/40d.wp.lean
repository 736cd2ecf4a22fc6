theorem jrun_succ (n : Nat) (s : Option (Nat × (Nat → Int32))) (M : jM) (is : List jI) (lv : jL) (st : List Value) (w : jW) (x : Nat) : jrun jT (n + 1) s M is lv st w x = jbody jT s (jrun jT n none) (jrun jT n s) M is lv st w x := rfl
theorem jev_plain {s : Option (Nat × (Nat → Int32))} {M : jM} {Q : (Option Value ⊕ Nat) → jW → Prop} {is : List jI} {i : Instr} {len a b : Nat} {lv : jL} {st : List Value} {w : jW} (hc : jctl i = false) (hl : jloc i = false) : jev s M Q ((i, len, a, b) :: is) lv st w = (match jstep s (jM_nl M) i a b [] st w with | some q => jev s M Q is lv q.2.1 q.2.2 | none => False) := by
  cases i <;> first | rfl | (cases hc; done) | (cases hl; done)
set_option maxHeartbeats 4000000 in
theorem jev_ok {s : Option (Nat × (Nat → Int32))} {M : jM} {Q : (Option Value ⊕ Nat) → jW → Prop} : ∀ (is : List jI) (lv : jL) (st : List Value) (w : jW), jev s M Q is lv st w → jwp s M Q is lv st w := by
  intro is
  induction is with
  | nil => intro lv st w h; exact h.elim
  | cons x0 is ih =>
    intro lv st w h lv0 hk x
    obtain ⟨i, len, a, b⟩ := x0
    have go : ∀ (lv1 : jL) (st1 : List Value) (w1 : jW), jwp s M Q is lv1 st1 w1 → ∀ lv2, jknow lv2 lv1 → (∀ n, jrun jT (n + 1) s M ((i, len, a, b) :: is) lv0 st w x = jrun jT n s M is lv2 st1 w1 x) → ∃ (n : Nat) (r : Option Value ⊕ Nat) (w' : jW), jrun jT n s M ((i, len, a, b) :: is) lv0 st w x = some (r, w', x + jx r) ∧ Q r w' := by
      intro lv1 st1 w1 h1 lv2 h2 h3
      obtain ⟨n, r, w', h4, h5⟩ := h1 lv2 h2 x
      exact ⟨n + 1, r, w', by rw [h3]; exact h4, h5⟩
    have goJ : ∀ (t : Nat) (st1 : List Value), jat s M Q t lv st1 w → (∀ n, jrun jT (n + 1) s M ((i, len, a, b) :: is) lv0 st w x = jgo (jrun jT n s) M t lv0 st1 w x) → ∃ (n : Nat) (r : Option Value ⊕ Nat) (w' : jW), jrun jT n s M ((i, len, a, b) :: is) lv0 st w x = some (r, w', x + jx r) ∧ Q r w' := by
      intro t st1 h1 h3
      obtain ⟨bl, h2, h4⟩ := h1
      obtain ⟨n, r, w', h5, h6⟩ := h4 lv0 hk x
      refine ⟨n + 1, r, w', ?_, h6⟩
      rw [h3]
      unfold jgo
      rw [h2]
      exact h5
    have ret : ∀ (v : Option Value), (∀ n, jrun jT (n + 1) s M ((i, len, a, b) :: is) lv0 st w x = some (.inl v, w, x)) → Q (.inl v) w → ∃ (n : Nat) (r : Option Value ⊕ Nat) (w' : jW), jrun jT n s M ((i, len, a, b) :: is) lv0 st w x = some (r, w', x + jx r) ∧ Q r w' := fun v h1 h2 => ⟨1, .inl v, w, h1 0, h2⟩
    have call : ∀ (isV isI : Bool), jci M a b isV isI st w (fun v w1 => jev s M Q is lv (v.toList ++ st.drop b) w1) → (∀ n, jrun jT (n + 1) s M ((i, len, a, b) :: is) lv0 st w x = jinv jT (jrun jT n none) (jrun jT n s) M is a b isV isI lv0 st w x) → ∃ (n : Nat) (r : Option Value ⊕ Nat) (w' : jW), jrun jT n s M ((i, len, a, b) :: is) lv0 st w x = some (r, w', x + jx r) ∧ Q r w' := by
      intro isV isI h1 h3
      obtain ⟨N, hN, hm, bl, hb, h2⟩ := h1
      obtain ⟨n1, r1, w1, h4, v, rfl, h5⟩ := h2 _ (jknow_rf (jargs_nd _ 0)) x
      obtain ⟨n2, r, w', h6, h7⟩ := ih lv _ w1 h5 lv0 hk x
      refine ⟨max n1 n2 + 1, r, w', ?_, h7⟩
      rw [h3]
      unfold jinv
      rw [hN]
      simp only [hm, cond_true]
      have h8 : jgo (jrun jT (max n1 n2) none) N 0 (lv_args 0 (st.take b).reverse) [] w x = some (.inl v, w1, x) := by
        unfold jgo
        rw [hb]
        exact jrun_max (Nat.le_max_left _ _) _ _ _ _ _ _ _ h4
      rw [h8]
      exact jrun_max (Nat.le_max_right _ _) _ _ _ _ _ _ _ h6
    cases hc : jctl i with
    | false =>
      cases hl : jloc i with
      | false =>
        rw [jev_plain hc hl] at h
        have e0 : ∀ n, jrun jT (n + 1) s M ((i, len, a, b) :: is) lv0 st w x = jplain s (jrun jT n s) M is i a b lv0 st w x := fun n => (jrun_succ _ _ _ _ _ _ _ _).trans (jbody_plain hc)
        have e1 := jstep_loc s (jM_nl M) i a b lv0 st w hl
        split at h
        · next q eq =>
          rw [eq] at e1
          refine go lv q.2.1 q.2.2 (ih _ _ _ h) lv0 hk (fun n => ?_)
          rw [e0]
          unfold jplain
          rw [e1]
          rfl
        · exact h.elim
      | true =>
        cases i <;> (try (cases hl; done))
        case iload_n k =>
          simp only [jev] at h
          split at h
          · next y e =>
            refine go _ _ _ (ih _ _ _ h) lv0 hk (fun n => ?_)
            rw [jrun_succ, jbody_plain rfl]
            simp only [jplain, jstep, hk.2 _ _ e]
          · exact h.elim
        case iload k =>
          simp only [jev] at h
          split at h
          · next y e =>
            refine go _ _ _ (ih _ _ _ h) lv0 hk (fun n => ?_)
            rw [jrun_succ, jbody_plain rfl]
            simp only [jplain, jstep, hk.2 _ _ e]
          · exact h.elim
        case lload_n k =>
          simp only [jev] at h
          split at h
          · next y e =>
            refine go _ _ _ (ih _ _ _ h) lv0 hk (fun n => ?_)
            rw [jrun_succ, jbody_plain rfl]
            simp only [jplain, jstep, hk.2 _ _ e]
          · exact h.elim
        case lload k =>
          simp only [jev] at h
          split at h
          · next y e =>
            refine go _ _ _ (ih _ _ _ h) lv0 hk (fun n => ?_)
            rw [jrun_succ, jbody_plain rfl]
            simp only [jplain, jstep, hk.2 _ _ e]
          · exact h.elim
        case dload k =>
          simp only [jev] at h
          split at h
          · next y e =>
            refine go _ _ _ (ih _ _ _ h) lv0 hk (fun n => ?_)
            rw [jrun_succ, jbody_plain rfl]
            simp only [jplain, jstep, hk.2 _ _ e]
          · exact h.elim
        case aload_n k =>
          simp only [jev] at h
          split at h
          · next y e =>
            refine go _ _ _ (ih _ _ _ h) lv0 hk (fun n => ?_)
            rw [jrun_succ, jbody_plain rfl]
            simp only [jplain, jstep, hk.2 _ _ e]
          · next y e =>
            refine go _ _ _ (ih _ _ _ h) lv0 hk (fun n => ?_)
            rw [jrun_succ, jbody_plain rfl]
            simp only [jplain, jstep, hk.2 _ _ e]
          · exact h.elim
        case aload k =>
          simp only [jev] at h
          split at h
          · next y e =>
            refine go _ _ _ (ih _ _ _ h) lv0 hk (fun n => ?_)
            rw [jrun_succ, jbody_plain rfl]
            simp only [jplain, jstep, hk.2 _ _ e]
          · next y e =>
            refine go _ _ _ (ih _ _ _ h) lv0 hk (fun n => ?_)
            rw [jrun_succ, jbody_plain rfl]
            simp only [jplain, jstep, hk.2 _ _ e]
          · exact h.elim
        case istore_n k =>
          simp only [jev] at h
          split at h
          · next y r =>
            obtain ⟨h1, h2⟩ := h
            refine go _ _ _ (ih _ _ _ h2) _ (jknow_up hk _ _) (fun n => ?_)
            rw [jrun_succ, jbody_plain rfl]
            simp only [jplain, jstep, Nat.blt_eq.mpr h1, cond_true]
          · exact h.elim
        case istore k =>
          simp only [jev] at h
          split at h
          · next y r =>
            obtain ⟨h1, h2⟩ := h
            refine go _ _ _ (ih _ _ _ h2) _ (jknow_up hk _ _) (fun n => ?_)
            rw [jrun_succ, jbody_plain rfl]
            simp only [jplain, jstep, Nat.blt_eq.mpr h1, cond_true]
          · exact h.elim
        case lstore_n k =>
          simp only [jev] at h
          split at h
          · next y r =>
            obtain ⟨h1, h2⟩ := h
            refine go _ _ _ (ih _ _ _ h2) _ (jknow_up2 hk _ _) (fun n => ?_)
            rw [jrun_succ, jbody_plain rfl]
            simp only [jplain, jstep, Nat.blt_eq.mpr h1, cond_true]
          · exact h.elim
        case lstore k =>
          simp only [jev] at h
          split at h
          · next y r =>
            obtain ⟨h1, h2⟩ := h
            refine go _ _ _ (ih _ _ _ h2) _ (jknow_up2 hk _ _) (fun n => ?_)
            rw [jrun_succ, jbody_plain rfl]
            simp only [jplain, jstep, Nat.blt_eq.mpr h1, cond_true]
          · exact h.elim
        case dstore k =>
          simp only [jev] at h
          split at h
          · next y r =>
            obtain ⟨h1, h2⟩ := h
            refine go _ _ _ (ih _ _ _ h2) _ (jknow_up2 hk _ _) (fun n => ?_)
            rw [jrun_succ, jbody_plain rfl]
            simp only [jplain, jstep, Nat.blt_eq.mpr h1, cond_true]
          · exact h.elim
        case astore_n k =>
          simp only [jev] at h
          split at h
          · next y r =>
            obtain ⟨h1, h2⟩ := h
            refine go _ _ _ (ih _ _ _ h2) _ (jknow_up hk _ _) (fun n => ?_)
            rw [jrun_succ, jbody_plain rfl]
            simp only [jplain, jstep, Nat.blt_eq.mpr h1, cond_true]
          · exact h.elim
        case astore k =>
          simp only [jev] at h
          split at h
          · next y r =>
            obtain ⟨h1, h2⟩ := h
            refine go _ _ _ (ih _ _ _ h2) _ (jknow_up hk _ _) (fun n => ?_)
            rw [jrun_succ, jbody_plain rfl]
            simp only [jplain, jstep, Nat.blt_eq.mpr h1, cond_true]
          · exact h.elim
        case iinc k n9 =>
          simp only [jev] at h
          split at h
          · next y e =>
            obtain ⟨h1, h2⟩ := h
            refine go _ _ _ (ih _ _ _ h2) _ (jknow_up hk _ _) (fun n => ?_)
            rw [jrun_succ, jbody_plain rfl]
            simp only [jplain, jstep, hk.2 _ _ e, Nat.blt_eq.mpr h1, cond_true]
          · exact h.elim
    | true =>
      cases i <;> (try (cases hc; done))
      case nop => exact goJ a st h (fun n => rfl)
      case goto off => exact goJ a st h (fun n => rfl)
      case ifCond k off =>
        simp only [jev] at h
        split at h
        · next y r =>
          cases hb : jcb k y 0 with
          | true => exact goJ a r (h.1 ((jcp_b k y 0).mp hb)) (fun n => by rw [jrun_succ]; show (bif jcb k y 0 then _ else _) = _; rw [hb]; rfl)
          | false => exact go lv r w (ih _ _ _ (h.2 (fun z => by rw [(jcp_b k y 0).mpr z] at hb; cases hb))) lv0 hk (fun n => by rw [jrun_succ]; show (bif jcb k y 0 then _ else _) = _; rw [hb]; rfl)
        · exact h.elim
      case if_icmp k off =>
        simp only [jev] at h
        split at h
        · next z y r =>
          cases hb : jcb k y z with
          | true => exact goJ a r (h.1 ((jcp_b k y z).mp hb)) (fun n => by rw [jrun_succ]; show (bif jcb k y z then _ else _) = _; rw [hb]; rfl)
          | false => exact go lv r w (ih _ _ _ (h.2 (fun q => by rw [(jcp_b k y z).mpr q] at hb; cases hb))) lv0 hk (fun n => by rw [jrun_succ]; show (bif jcb k y z then _ else _) = _; rw [hb]; rfl)
        · exact h.elim
      case tableswitch d lo hi offs =>
        simp only [jev] at h
        split at h
        · next y r =>
          obtain ⟨ts, e1, t, e2, h2⟩ := h
          refine goJ t r h2 (fun n => ?_)
          rw [jrun_succ]
          simp only [jbody, e1]
          split at e2
          · next hr => rw [decide_eq_true hr]; simp only [cond_true, jgoO, e2]
          · next hr => rw [decide_eq_false hr]; simp only [cond_false, jgoO, e2]
        · exact h.elim
      case lookupswitch d ps =>
        simp only [jev] at h
        split at h
        · next y r =>
          obtain ⟨d0, ts, e1, h2⟩ := h
          refine goJ _ r h2 (fun n => ?_)
          rw [jrun_succ]
          simp only [jbody, e1]
        · exact h.elim
      case return_ =>
        obtain ⟨h1, rfl, h2⟩ := h
        exact ret none (fun n => by rw [jrun_succ]; simp only [jbody, h1, jretn, jret]) h2
      case ireturn =>
        simp only [jev] at h
        split at h
        · next y =>
          obtain ⟨h1, h2⟩ := h
          refine ret (some (.int y)) (fun n => ?_) h2
          rw [jrun_succ]
          rcases h1 with h1 | ⟨h1, h3⟩
          · simp only [jbody, h1, jretn, jret]
          · simp only [jbody, h1, jretn, jret, decide_eq_true h3, cond_true]
        · exact h.elim
      case lreturn =>
        simp only [jev] at h
        split at h
        · next y => exact ret (some (.long y)) (fun n => by rw [jrun_succ]; simp only [jbody, h.1, jretn, jret]) h.2
        · exact h.elim
      case freturn =>
        simp only [jev] at h
        split at h
        · next y => exact ret (some (.float y)) (fun n => by rw [jrun_succ]; simp only [jbody, h.1, jretn, jret]) h.2
        · exact h.elim
      case dreturn =>
        simp only [jev] at h
        split at h
        · next y => exact ret (some (.double y)) (fun n => by rw [jrun_succ]; simp only [jbody, h.1, jretn, jret]) h.2
        · exact h.elim
      case invokevirtual idx => exact call true false h (fun n => rfl)
      case invokespecial idx =>
        simp only [jev] at h
        split at h
        · next e =>
          subst e
          split at h
          · next q r =>
            obtain ⟨⟨h1, h2⟩, h3⟩ := h
            refine go lv r w (ih _ _ _ h3) lv0 hk (fun n => ?_)
            rw [jrun_succ]
            simp only [jbody, Nat.beq_refl, cond_true, jobj]
            rw [(Nat.ble_eq).mpr h1, (Nat.ble_eq).mpr h2]
            rfl
          · exact h.elim
        · next e =>
          refine call false true h (fun n => ?_)
          rw [jrun_succ]
          show (bif Nat.beq b 778 then _ else _) = _
          rw [show Nat.beq b 778 = false from by cases hb : Nat.beq b 778 with | false => rfl | true => exact absurd (Nat.eq_of_beq_eq_true hb) e]
          rfl
      case invokestatic idx =>
        have b1 : Nat.beq 775 777 = false := by decide
        have b2 : Nat.beq 776 777 = false := by decide
        have b3 : Nat.beq 776 775 = false := by decide
        have nb : ∀ m : Nat, ¬ b = m → Nat.beq b m = false := fun m e => by
          cases hb : Nat.beq b m with
          | false => rfl
          | true => exact absurd (Nat.eq_of_beq_eq_true hb) e
        simp only [jev] at h
        split at h
        · next e =>
          subst e
          obtain ⟨⟨h1, h2⟩, h3⟩ := h
          split at h3
          · next q eq =>
            refine go lv q.1 q.2 (ih _ _ _ h3) lv0 hk (fun n => ?_)
            rw [jrun_succ]
            simp only [jbody, Nat.beq_refl, cond_true]
            unfold jnat
            rw [(Nat.ble_eq).mpr h1, (Nat.ble_eq).mpr h2, eq]
            rfl
          · exact h3.elim
        · next e =>
          split at h
          · next e5 =>
            subst e5
            split at h
            · next z y r =>
              obtain ⟨⟨h1, h2⟩, h3⟩ := h
              refine go lv _ w (ih _ _ _ h3) lv0 hk (fun n => ?_)
              rw [jrun_succ]
              simp only [jbody, Nat.beq_refl, cond_true, cond_false, jmn, b1]
              rw [(Nat.ble_eq).mpr h1, (Nat.ble_eq).mpr h2]
              rfl
            · exact h.elim
          · next e5 =>
            split at h
            · next e6 =>
              subst e6
              split at h
              · next z y r =>
                obtain ⟨⟨h1, h2⟩, h3⟩ := h
                refine go lv _ w (ih _ _ _ h3) lv0 hk (fun n => ?_)
                rw [jrun_succ]
                simp only [jbody, Nat.beq_refl, cond_true, cond_false, jmnl, b2, b3]
                rw [(Nat.ble_eq).mpr h1, (Nat.ble_eq).mpr h2]
                rfl
              · exact h.elim
            · next e6 =>
              refine call false false h (fun n => ?_)
              rw [jrun_succ]
              show (bif Nat.beq b 777 then _ else bif Nat.beq b 775 then _ else bif Nat.beq b 776 then _ else _) = _
              rw [nb _ e, nb _ e5, nb _ e6]
              rfl
      case new idx =>
        simp only [jev] at h
        split at h
        · next e =>
          subst e
          obtain ⟨⟨h1, h2⟩, h3⟩ := h
          refine ⟨1, .inr a, w, ?_, h3⟩
          rw [jrun_succ]
          simp only [jbody, Nat.beq_refl, cond_true]
          rw [(Nat.ble_eq).mpr h1, (Nat.blt_eq).mpr h2]
          rfl
        · next e =>
          refine go lv _ _ (ih _ _ _ h) lv0 hk (fun n => ?_)
          rw [jrun_succ]
          show (bif Nat.beq b 779 then _ else _) = _
          rw [show Nat.beq b 779 = false from by cases hb : Nat.beq b 779 with | false => rfl | true => exact absurd (Nat.eq_of_beq_eq_true hb) e]
          rfl
theorem jat_ev {s : Option (Nat × (Nat → Int32))} {M : jM} {Q : (Option Value ⊕ Nat) → jW → Prop} {t : Nat} {lv : jL} {st : List Value} {w : jW} (bl : List jI) (h : (jM_bl M)[t]? = some bl) (he : jev s M Q bl lv st w) : jat s M Q t lv st w := ⟨bl, h, jev_ok _ _ _ _ he⟩
theorem jwp_mono {s : Option (Nat × (Nat → Int32))} {M : jM} {Q Q' : (Option Value ⊕ Nat) → jW → Prop} {is : List jI} {lv : jL} {st : List Value} {w : jW} (hq : ∀ r w', Q r w' → Q' r w') (h : jwp s M Q is lv st w) : jwp s M Q' is lv st w := fun lv0 hk x => by
  obtain ⟨n, r, w', h1, h2⟩ := h lv0 hk x
  exact ⟨n, r, w', h1, hq _ _ h2⟩
theorem jat_mono {s : Option (Nat × (Nat → Int32))} {M : jM} {Q Q' : (Option Value ⊕ Nat) → jW → Prop} {t : Nat} {lv : jL} {st : List Value} {w : jW} (hq : ∀ r w', Q r w' → Q' r w') (h : jat s M Q t lv st w) : jat s M Q' t lv st w := by
  obtain ⟨bl, h1, h2⟩ := h
  exact ⟨bl, h1, jwp_mono hq h2⟩
theorem jmw_mono {N : jM} {as : List Value} {w : jW} {Q Q' : (Option Value ⊕ Nat) → jW → Prop} (hq : ∀ r w', Q r w' → Q' r w') (h : jmw N as w Q) : jmw N as w Q' := jat_mono hq h
theorem jat_less {s : Option (Nat × (Nat → Int32))} {M : jM} {Q : (Option Value ⊕ Nat) → jW → Prop} {t : Nat} {lv lv' : jL} {st : List Value} {w : jW} (h : jat s M Q t lv' st w) (hl : ∀ q ∈ lv', jlk lv q.1 = some q.2) (hn : jnd lv' = true) : jat s M Q t lv st w := by
  obtain ⟨bl, h1, h2⟩ := h
  exact ⟨bl, h1, fun lv0 hk x => h2 lv0 (jknow_less hk hl hn) x⟩
