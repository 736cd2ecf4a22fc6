/-! Puzzle: a part is added -/
theorem ptl_cnt (m : Nat) : ∀ n, (ptl m n).1 = cnt m.testBit n
  | 0 => rfl
  | n + 1 => by
    have ih := ptl_cnt m n
    cases e : m.testBit n with
    | true =>
      have e3 : ptl m (n + 1) = ((ptl m n).1 + 1, un (ptl m n).2.1 (ptl m n).1 n, un (ptl m n).2.2 (ptl m n).1 0) := gth_t e
      rw [e3]
      show (ptl m n).1 + 1 = cnt m.testBit n + (if m.testBit n = true then 1 else 0)
      rw [e, ih]; rfl
    | false =>
      have e3 : ptl m (n + 1) = ptl m n := gth_f (by rw [e]; exact Bool.false_ne_true)
      rw [e3, ih]
      show _ = cnt m.testBit n + (if m.testBit n = true then 1 else 0)
      rw [e]; rfl
theorem ptl_at (m : Nat) : ∀ n j, j < (ptl m n).1 → (ptl m n).2.1 j < n ∧ m.testBit ((ptl m n).2.1 j) = true ∧ cnt m.testBit ((ptl m n).2.1 j) = j
  | 0, j, h => absurd h (by exact Nat.not_lt_zero _)
  | n + 1, j, h => by
    have c0 := ptl_cnt m n
    cases e : m.testBit n with
    | true =>
      have e3 : ptl m (n + 1) = ((ptl m n).1 + 1, un (ptl m n).2.1 (ptl m n).1 n, un (ptl m n).2.2 (ptl m n).1 0) := gth_t e
      rw [e3] at h ⊢
      dsimp only at h ⊢
      by_cases z : j = (ptl m n).1
      · rw [z, un_eq]; exact ⟨by omega, e, c0.symm⟩
      · rw [un_ne z]
        have := ptl_at m n j (by omega)
        exact ⟨by omega, this.2⟩
    | false =>
      have e3 : ptl m (n + 1) = ptl m n := gth_f (by rw [e]; exact Bool.false_ne_true)
      rw [e3] at h ⊢
      have := ptl_at m n j h
      exact ⟨by omega, this.2⟩
def prAdd (pr : PR) (m c : Nat) (ts : Nat → Nat) (f : Nat → Int) : PR := (qN pr + 1, un (qB pr) (qN pr) m, un (qC pr) (qN pr) c, (fun p => if p = qN pr then ts else qT pr p), fun p => if p = qN pr then f else qF pr p)
theorem prAdd_old {pr : PR} {m c : Nat} {ts : Nat → Nat} {f : Nat → Int} {p : Nat} (h : ¬ p = qN pr) : qB (prAdd pr m c ts f) p = qB pr p ∧ qC (prAdd pr m c ts f) p = qC pr p ∧ qT (prAdd pr m c ts f) p = qT pr p ∧ qF (prAdd pr m c ts f) p = qF pr p := ⟨un_ne h, un_ne h, if_neg h, if_neg h⟩
theorem prAdd_new {pr : PR} {m c : Nat} {ts : Nat → Nat} {f : Nat → Int} : qB (prAdd pr m c ts f) (qN pr) = m ∧ qC (prAdd pr m c ts f) (qN pr) = c ∧ qT (prAdd pr m c ts f) (qN pr) = ts ∧ qF (prAdd pr m c ts f) (qN pr) = f := ⟨un_eq, un_eq, if_pos rfl, if_pos rfl⟩
abbrev pA1 (p i : Nat) : Prop := i = 1 ∨ (13 ≤ i ∧ i < 18) ∨ (22 + 4 * p ≤ i ∧ i < 26 + 4 * p)
section PA
variable {w : jW} {B : BD} {go we : Nat → Nat} {fb : Nat} {pr : PR} {wt : Nat → Bool} {K S : Nat → Int64}
theorem addPart_ok (h : PzS w B go we fb pr) (hg : Ag w wt K S) {m : Nat} (hm : m < 65536) (hmb : ∀ t, m.testBit t = true → 1 ≤ t ∧ t < bN B ∧ fb.testBit t = false) (hc : (ptl m (bN B)).1 ≤ 3) (hroom : roomP (bN B) pr m) (hgi : ∀ s t, s < bN B → t < bN B → go s = go t → s = t) {Q : (Option Value ⊕ Nat) → jW → Prop}
    (hQ : ∀ w1 ts f K1 S1, frP (pA1 (qN pr)) w w1 → (∀ j, j < (ptl m (bN B)).1 → ts j = (ptl m (bN B)).2.1 j) → PzS w1 B go we fb (prAdd pr m (ptl m (bN B)).1 ts f) → Ag w1 (fun _ => false) K1 S1 → Q (.inl (some (.int (zI (cnt (finB f) 6561 : Int))))) w1) : jmw jm95 [.ref 1, .int (zI (m : Int))] w Q := by
  obtain ⟨hz, hL, hP, hO⟩ := id h
  obtain ⟨h1, hB, hAi, hn, hf, hgo, hwe⟩ := id hz
  obtain ⟨⟨rf, r0, r1, r2⟩, hq2, g4, g5, hgp⟩ := id hP
  obtain ⟨c1, c2, c3⟩ := hroom
  obtain ⟨N, hN⟩ : ∃ N, N = qN pr := ⟨_, rfl⟩
  obtain ⟨a, ha⟩ : ∃ a, a = 22 + 4 * qN pr := ⟨_, rfl⟩
  have ha2 : a = 22 ∨ a = 26 := by omega
  have hrf : rf (qN pr) = some a := by
    rcases (show qN pr = 0 ∨ qN pr = 1 by omega) with e | e
    · rw [e, r1, ha, e]
    · rw [e, r2, ha, e]
  have hraw : RawPart w a := by rcases ha2 with e | e <;> rw [e]; (· exact g4); exact g5
  obtain ⟨b0, n0, s0, k0, ts0, tb0, ps0, q0, q1, q2, q3⟩ := hraw
  have b2 := hB.1
  have m0 : m.testBit 0 = false := by
    cases e : m.testBit 0 with
    | false => rfl
    | true => have := (hmb 0 e).1; omega
  have at1 := ptl_at m (bN B)
  have w1a : (w.set 1 (puzC (qN pr + 1)))[a]? = some (.inr (8, [.int (zI b0), .int (zI n0), .int (zI s0), .int (zI k0), .ref (a + 1), .ref (a + 2), .ref (a + 3)])) := by rw [jset_ne (by omega)]; exact q0
  have w1b : (w.set 1 (puzC (qN pr + 1)))[a + 1]? = some (nA 3 ts0) := by rw [jset_ne (by omega)]; exact q1
  (refine jat_ev _ rfl ?_; simp (disch := omega) only [e_null, e_iconst, e_bipush, e_sipush, e_lconst, e_ldc, e_ldc_w, e_ldc2, e_iload_n, e_iload, e_lload_n, e_lload, e_dload, e_aload_n, e_aload, e_istore_n, e_istore, e_lstore_n, e_lstore, e_dstore, e_astore_n, e_astore, e_iinc, e_iadd, e_isub, e_imul, e_iand, e_ior, e_ixor, e_ishl, e_ishr, e_iushr, e_idiv, e_irem, e_ineg, e_ladd, e_lsub, e_lmul, e_land, e_lor, e_lxor, e_ldiv, e_lrem, e_lshl, e_lushr, e_lcmp, e_i2l, e_l2i, e_dup_int, e_pop_int, e_dup_ref, e_pop_ref, e_dup_retAddr, e_pop_retAddr, e_dup_float, e_pop_float, e_dup_null, e_dup2_ir, e_getfield, e_putfield, e_iaload, e_baload, e_laload, e_aaload, e_iastore, e_bastore, e_lastore, e_arraylength, e_nop, e_goto, e_if_eq, e_icmp_eq, e_if_ne, e_icmp_ne, e_if_lt, e_icmp_lt, e_if_ge, e_icmp_ge, e_if_gt, e_icmp_gt, e_if_le, e_icmp_le, e_ret, e_iret, e_lret, e_fret, e_dret, e_inv, e_invS, e_invI, e_obj, e_min, e_minl, e_new, e_throw, jki_some, jkl_some, jkd_some, jka_ref, jka_scr, jop_some, jgf_some, jlk_nil, jup_nil, jov_nil, jup2_nil, jov2_nil, jcat_int, jcat_long, jcat_ref, jcat_dbl, jcat_scr, jcat_null, if_true, if_false, Option.toList_none, Option.toList_some, List.nil_append, List.singleton_append, List.drop_succ_cons, List.drop_zero, List.cons_append, List.getElem?_cons_zero, List.getElem?_cons_succ, Nat.reduceAdd, Nat.reduceEqDiff, Nat.reduceLT, Nat.reduceMul, Nat.reduceDiv, Nat.reduceMod, Fin.isValue, Fin.val_zero, Fin.val_one, Fin.val_two, jfin3, Nat.succ_ne_self, zI_add, zI_sub, zI_mul, jia_z, jis_z, jla_z, jls_z, jaa_z, jset_ne, and_true, true_and, reduceIte, jlk_hit, jlk_skip, jup_hit, jup_skip, jup_onei, jup_oner, jup_onea, jup_onef, jup_onen, jup_twol, jup_twod, jup2_hit, jup2_skip, jup2_snd, jup2_onei, jup2_oner, jup2_onea, jup2_onef, jup2_onen, jup2_twol, jup2_twod, jov_skip, jov_onei, jov_oner, jov_onea, jov_onef, jov_onen, jov_twol, jov_twod, jov2_skip, jov2_snd, jov2_onei, jov2_oner, jov2_onea, jov2_onef, jov2_onen, jov2_twol, jov2_twod, zA_up, up_cast, up_cast0, up_cast1, up_cast16, up_cast1000000, up_cast1000000000, e_cpy, jcq_z, jal_some, jpf_def, jfit_i, jfit_l, jfit_r, jfit_b, jfit_b0, jfit_b1, nblt, Nat.beq_refl, List.length_cons, List.length_nil, List.set_cons_zero, List.set_cons_succ, Bool.and_self, decide_true, cond_true, List.set_set, jset_self, Option.map_some, natS, Int.toNat_natCast, zL_I, zL_add, zL_sub, zL_mul, zL_0, lc_0, lc_1, lg_c_eq, lg_c_lt, lg_c_ge, lg_c_gt, lg_c_le, zI_L, Option.map_map, Function.comp_def, kb_m2, kb_6, kb_7, kb_8, kb_9, kb_11, kb_13, kb_15, kb_16, kb_20, kb_31, kb_32, kb_36, kb_63, kb_64, kb_100, kb_108, kb_114, kb_117, ks_128, ks_200, ks_255, ks_256, ks_500, ks_720, ks_1000, ks_1001, ks_2880, ks_3002, ks_4101, ks_6561, ks_8202, ks_12345, ks_13122, ks_16383, ks_16384, kl_65616, kl_1000000, kl_252645135, kl_858993459, kl_1000000000, kl_1103515245, kl_1431655765, lv_args, zI_0, zI_eq, zI_lt, zI_le, h1, r0, jm95_nl, jm95_rt, jm95_fr, jm95_lo])
  rw [hrf]
  simp (disch := omega) only [e_null, e_iconst, e_bipush, e_sipush, e_lconst, e_ldc, e_ldc_w, e_ldc2, e_iload_n, e_iload, e_lload_n, e_lload, e_dload, e_aload_n, e_aload, e_istore_n, e_istore, e_lstore_n, e_lstore, e_dstore, e_astore_n, e_astore, e_iinc, e_iadd, e_isub, e_imul, e_iand, e_ior, e_ixor, e_ishl, e_ishr, e_iushr, e_idiv, e_irem, e_ineg, e_ladd, e_lsub, e_lmul, e_land, e_lor, e_lxor, e_ldiv, e_lrem, e_lshl, e_lushr, e_lcmp, e_i2l, e_l2i, e_dup_int, e_pop_int, e_dup_ref, e_pop_ref, e_dup_retAddr, e_pop_retAddr, e_dup_float, e_pop_float, e_dup_null, e_dup2_ir, e_getfield, e_putfield, e_iaload, e_baload, e_laload, e_aaload, e_iastore, e_bastore, e_lastore, e_arraylength, e_nop, e_goto, e_if_eq, e_icmp_eq, e_if_ne, e_icmp_ne, e_if_lt, e_icmp_lt, e_if_ge, e_icmp_ge, e_if_gt, e_icmp_gt, e_if_le, e_icmp_le, e_ret, e_iret, e_lret, e_fret, e_dret, e_inv, e_invS, e_invI, e_obj, e_min, e_minl, e_new, e_throw, jki_some, jkl_some, jkd_some, jka_ref, jka_scr, jop_some, jgf_some, jlk_nil, jup_nil, jov_nil, jup2_nil, jov2_nil, jcat_int, jcat_long, jcat_ref, jcat_dbl, jcat_scr, jcat_null, if_true, if_false, Option.toList_none, Option.toList_some, List.nil_append, List.singleton_append, List.drop_succ_cons, List.drop_zero, List.cons_append, List.getElem?_cons_zero, List.getElem?_cons_succ, Nat.reduceAdd, Nat.reduceEqDiff, Nat.reduceLT, Nat.reduceMul, Nat.reduceDiv, Nat.reduceMod, Fin.isValue, Fin.val_zero, Fin.val_one, Fin.val_two, jfin3, Nat.succ_ne_self, zI_add, zI_sub, zI_mul, jia_z, jis_z, jla_z, jls_z, jaa_z, jset_ne, and_true, true_and, reduceIte, jlk_hit, jlk_skip, jup_hit, jup_skip, jup_onei, jup_oner, jup_onea, jup_onef, jup_onen, jup_twol, jup_twod, jup2_hit, jup2_skip, jup2_snd, jup2_onei, jup2_oner, jup2_onea, jup2_onef, jup2_onen, jup2_twol, jup2_twod, jov_skip, jov_onei, jov_oner, jov_onea, jov_onef, jov_onen, jov_twol, jov_twod, jov2_skip, jov2_snd, jov2_onei, jov2_oner, jov2_onea, jov2_onef, jov2_onen, jov2_twol, jov2_twod, zA_up, up_cast, up_cast0, up_cast1, up_cast16, up_cast1000000, up_cast1000000000, e_cpy, jcq_z, jal_some, jpf_def, jfit_i, jfit_l, jfit_r, jfit_b, jfit_b0, jfit_b1, nblt, Nat.beq_refl, List.length_cons, List.length_nil, List.set_cons_zero, List.set_cons_succ, Bool.and_self, decide_true, cond_true, List.set_set, jset_self, Option.map_some, natS, Int.toNat_natCast, zL_I, zL_add, zL_sub, zL_mul, zL_0, lc_0, lc_1, lg_c_eq, lg_c_lt, lg_c_ge, lg_c_gt, lg_c_le, zI_L, Option.map_map, Function.comp_def, kb_m2, kb_6, kb_7, kb_8, kb_9, kb_11, kb_13, kb_15, kb_16, kb_20, kb_31, kb_32, kb_36, kb_63, kb_64, kb_100, kb_108, kb_114, kb_117, ks_128, ks_200, ks_255, ks_256, ks_500, ks_720, ks_1000, ks_1001, ks_2880, ks_3002, ks_4101, ks_6561, ks_8202, ks_12345, ks_13122, ks_16383, ks_16384, kl_65616, kl_1000000, kl_252645135, kl_858993459, kl_1000000000, kl_1103515245, kl_1431655765, lv_args, zI_0, zI_eq, zI_lt, zI_le, h1, r0, show va_rf (some a) = .ref a from rfl, b2, natS, jm95_nl, jm95_rt, jm95_fr, jm95_lo]
  refine jcall_v2 jT_82 w1a (h := choose_ok w1a w1b hm m0 hn hc (fun ts hts => ⟨_, rfl, ?_⟩))
  generalize hw2 : ((w.set 1 (puzC (qN pr + 1))).set a (prtC a m (bN B) (ptl m (bN B)).1)).set (a + 1) (nA 3 ts) = w2
  have fr0 : frP (fun i => i = 1 ∨ (22 + 4 * qN pr ≤ i ∧ i < 26 + 4 * qN pr)) w w2 := by
    rw [← hw2]
    exact frP_tr (frP_tr (frP_set _ (Or.inl rfl)) (frP_set _ (Or.inr ⟨by omega, by omega⟩))) (frP_set _ (Or.inr ⟨by omega, by omega⟩))
  have z1 : w2[1]? = some (puzC (qN pr + 1)) := by rw [← hw2]; exact (by simp (disch := omega) only [jset_self, jset_ne, Option.map_some, h1])
  have pA : PartAt w2 a m (bN B) (ptl m (bN B)).1 ts tb0 ps0 := by
    rw [← hw2]
    exact ⟨(by simp (disch := omega) only [jset_self, jset_ne, Option.map_some, q0]), (by simp (disch := omega) only [jset_self, jset_ne, Option.map_some, q1]), (by simp (disch := omega) only [jset_self, jset_ne, Option.map_some, q2]), (by simp (disch := omega) only [jset_self, jset_ne, Option.map_some, q3])⟩
  have hB2 : BoardAt w2 B := hB.fr (fun i _ _ => fr0.2 i (by omega))
  have hA2 : AimAt w2 10 (bN B) go we fb := hAi.fr (fun i _ _ => fr0.2 i (by omega))
  have hg2 : Ag w2 wt K S := hg.fr (fun i _ _ => fr0.2 i (by omega))
  have bb2 := hB2.1
  have p0 := pA.1
  simp (disch := omega) only [e_null, e_iconst, e_bipush, e_sipush, e_lconst, e_ldc, e_ldc_w, e_ldc2, e_iload_n, e_iload, e_lload_n, e_lload, e_dload, e_aload_n, e_aload, e_istore_n, e_istore, e_lstore_n, e_lstore, e_dstore, e_astore_n, e_astore, e_iinc, e_iadd, e_isub, e_imul, e_iand, e_ior, e_ixor, e_ishl, e_ishr, e_iushr, e_idiv, e_irem, e_ineg, e_ladd, e_lsub, e_lmul, e_land, e_lor, e_lxor, e_ldiv, e_lrem, e_lshl, e_lushr, e_lcmp, e_i2l, e_l2i, e_dup_int, e_pop_int, e_dup_ref, e_pop_ref, e_dup_retAddr, e_pop_retAddr, e_dup_float, e_pop_float, e_dup_null, e_dup2_ir, e_getfield, e_putfield, e_iaload, e_baload, e_laload, e_aaload, e_iastore, e_bastore, e_lastore, e_arraylength, e_nop, e_goto, e_if_eq, e_icmp_eq, e_if_ne, e_icmp_ne, e_if_lt, e_icmp_lt, e_if_ge, e_icmp_ge, e_if_gt, e_icmp_gt, e_if_le, e_icmp_le, e_ret, e_iret, e_lret, e_fret, e_dret, e_inv, e_invS, e_invI, e_obj, e_min, e_minl, e_new, e_throw, jki_some, jkl_some, jkd_some, jka_ref, jka_scr, jop_some, jgf_some, jlk_nil, jup_nil, jov_nil, jup2_nil, jov2_nil, jcat_int, jcat_long, jcat_ref, jcat_dbl, jcat_scr, jcat_null, if_true, if_false, Option.toList_none, Option.toList_some, List.nil_append, List.singleton_append, List.drop_succ_cons, List.drop_zero, List.cons_append, List.getElem?_cons_zero, List.getElem?_cons_succ, Nat.reduceAdd, Nat.reduceEqDiff, Nat.reduceLT, Nat.reduceMul, Nat.reduceDiv, Nat.reduceMod, Fin.isValue, Fin.val_zero, Fin.val_one, Fin.val_two, jfin3, Nat.succ_ne_self, zI_add, zI_sub, zI_mul, jia_z, jis_z, jla_z, jls_z, jaa_z, jset_ne, and_true, true_and, reduceIte, jlk_hit, jlk_skip, jup_hit, jup_skip, jup_onei, jup_oner, jup_onea, jup_onef, jup_onen, jup_twol, jup_twod, jup2_hit, jup2_skip, jup2_snd, jup2_onei, jup2_oner, jup2_onea, jup2_onef, jup2_onen, jup2_twol, jup2_twod, jov_skip, jov_onei, jov_oner, jov_onea, jov_onef, jov_onen, jov_twol, jov_twod, jov2_skip, jov2_snd, jov2_onei, jov2_oner, jov2_onea, jov2_onef, jov2_onen, jov2_twol, jov2_twod, zA_up, up_cast, up_cast0, up_cast1, up_cast16, up_cast1000000, up_cast1000000000, e_cpy, jcq_z, jal_some, jpf_def, jfit_i, jfit_l, jfit_r, jfit_b, jfit_b0, jfit_b1, nblt, Nat.beq_refl, List.length_cons, List.length_nil, List.set_cons_zero, List.set_cons_succ, Bool.and_self, decide_true, cond_true, List.set_set, jset_self, Option.map_some, natS, Int.toNat_natCast, zL_I, zL_add, zL_sub, zL_mul, zL_0, lc_0, lc_1, lg_c_eq, lg_c_lt, lg_c_ge, lg_c_gt, lg_c_le, zI_L, Option.map_map, Function.comp_def, kb_m2, kb_6, kb_7, kb_8, kb_9, kb_11, kb_13, kb_15, kb_16, kb_20, kb_31, kb_32, kb_36, kb_63, kb_64, kb_100, kb_108, kb_114, kb_117, ks_128, ks_200, ks_255, ks_256, ks_500, ks_720, ks_1000, ks_1001, ks_2880, ks_3002, ks_4101, ks_6561, ks_8202, ks_12345, ks_13122, ks_16383, ks_16384, kl_65616, kl_1000000, kl_252645135, kl_858993459, kl_1000000000, kl_1103515245, kl_1431655765, lv_args, zI_0, zI_eq, zI_lt, zI_le, z1, jm95_nl, jm95_rt, jm95_fr, jm95_lo]
  have tsr : ∀ j, j < (ptl m (bN B)).1 → ts j < bN B ∧ m.testBit (ts j) = true := fun j hj => by
    have := at1 j hj; rw [hts j hj]; exact ⟨this.1, this.2.1⟩
  have tsi : ∀ i j, i < (ptl m (bN B)).1 → j < (ptl m (bN B)).1 → ts i = ts j → i = j := fun i j hi hj e => by
    have e1 := (at1 i hi).2.2
    have e2 := (at1 j hj).2.2
    rw [← hts i hi, e] at e1
    rw [← hts j hj] at e2
    omega
  refine jcall_v3 jT_84 p0 (h := fill_part pA hB2 hL.nb c2 hA2 (fun j hj => hwe _ (tsr j hj).1) (fun j hj => by have := (tsr j hj).1; omega) (fun j hj => hgo _ (tsr j hj).1) (fun i j hi hj e => tsi i j hi hj (hgi _ _ (tsr i hi).1 (tsr j hj).1 e)) hc ha2 hg2 (fun w3 ps3 f k3 P3 o3 x3 y3 => ⟨_, rfl, ?_⟩))
  obtain ⟨tb3, K3, S3, pA3, ptb, pg, pw⟩ := id P3
  have fr3 : frP (pA1 (qN pr)) w w3 := frP_tr (frP_up fr0 (fun i hi => by simp only [pA1]; omega)) (frP_up k3 (fun i hi => by simp only [pA1, pP] at *; omega))
  have fr4 : ∀ i, ¬ i = 1 → i < 13 ∨ (18 ≤ i ∧ i < 22) → w3[i]? = w[i]? := fun i h1 h2 => fr3.2 i (by simp only [pA1]; omega)
  have z3 : w3[1]? = some (puzC (qN pr + 1)) := (k3.2 1 (by simp only [pP]; omega)).trans z1
  simp (disch := omega) only [e_null, e_iconst, e_bipush, e_sipush, e_lconst, e_ldc, e_ldc_w, e_ldc2, e_iload_n, e_iload, e_lload_n, e_lload, e_dload, e_aload_n, e_aload, e_istore_n, e_istore, e_lstore_n, e_lstore, e_dstore, e_astore_n, e_astore, e_iinc, e_iadd, e_isub, e_imul, e_iand, e_ior, e_ixor, e_ishl, e_ishr, e_iushr, e_idiv, e_irem, e_ineg, e_ladd, e_lsub, e_lmul, e_land, e_lor, e_lxor, e_ldiv, e_lrem, e_lshl, e_lushr, e_lcmp, e_i2l, e_l2i, e_dup_int, e_pop_int, e_dup_ref, e_pop_ref, e_dup_retAddr, e_pop_retAddr, e_dup_float, e_pop_float, e_dup_null, e_dup2_ir, e_getfield, e_putfield, e_iaload, e_baload, e_laload, e_aaload, e_iastore, e_bastore, e_lastore, e_arraylength, e_nop, e_goto, e_if_eq, e_icmp_eq, e_if_ne, e_icmp_ne, e_if_lt, e_icmp_lt, e_if_ge, e_icmp_ge, e_if_gt, e_icmp_gt, e_if_le, e_icmp_le, e_ret, e_iret, e_lret, e_fret, e_dret, e_inv, e_invS, e_invI, e_obj, e_min, e_minl, e_new, e_throw, jki_some, jkl_some, jkd_some, jka_ref, jka_scr, jop_some, jgf_some, jlk_nil, jup_nil, jov_nil, jup2_nil, jov2_nil, jcat_int, jcat_long, jcat_ref, jcat_dbl, jcat_scr, jcat_null, if_true, if_false, Option.toList_none, Option.toList_some, List.nil_append, List.singleton_append, List.drop_succ_cons, List.drop_zero, List.cons_append, List.getElem?_cons_zero, List.getElem?_cons_succ, Nat.reduceAdd, Nat.reduceEqDiff, Nat.reduceLT, Nat.reduceMul, Nat.reduceDiv, Nat.reduceMod, Fin.isValue, Fin.val_zero, Fin.val_one, Fin.val_two, jfin3, Nat.succ_ne_self, zI_add, zI_sub, zI_mul, jia_z, jis_z, jla_z, jls_z, jaa_z, jset_ne, and_true, true_and, reduceIte, jlk_hit, jlk_skip, jup_hit, jup_skip, jup_onei, jup_oner, jup_onea, jup_onef, jup_onen, jup_twol, jup_twod, jup2_hit, jup2_skip, jup2_snd, jup2_onei, jup2_oner, jup2_onea, jup2_onef, jup2_onen, jup2_twol, jup2_twod, jov_skip, jov_onei, jov_oner, jov_onea, jov_onef, jov_onen, jov_twol, jov_twod, jov2_skip, jov2_snd, jov2_onei, jov2_oner, jov2_onea, jov2_onef, jov2_onen, jov2_twol, jov2_twod, zA_up, up_cast, up_cast0, up_cast1, up_cast16, up_cast1000000, up_cast1000000000, e_cpy, jcq_z, jal_some, jpf_def, jfit_i, jfit_l, jfit_r, jfit_b, jfit_b0, jfit_b1, nblt, Nat.beq_refl, List.length_cons, List.length_nil, List.set_cons_zero, List.set_cons_succ, Bool.and_self, decide_true, cond_true, List.set_set, jset_self, Option.map_some, natS, Int.toNat_natCast, zL_I, zL_add, zL_sub, zL_mul, zL_0, lc_0, lc_1, lg_c_eq, lg_c_lt, lg_c_ge, lg_c_gt, lg_c_le, zI_L, Option.map_map, Function.comp_def, kb_m2, kb_6, kb_7, kb_8, kb_9, kb_11, kb_13, kb_15, kb_16, kb_20, kb_31, kb_32, kb_36, kb_63, kb_64, kb_100, kb_108, kb_114, kb_117, ks_128, ks_200, ks_255, ks_256, ks_500, ks_720, ks_1000, ks_1001, ks_2880, ks_3002, ks_4101, ks_6561, ks_8202, ks_12345, ks_13122, ks_16383, ks_16384, kl_65616, kl_1000000, kl_252645135, kl_858993459, kl_1000000000, kl_1103515245, kl_1431655765, lv_args, zI_0, zI_eq, zI_lt, zI_le, jm95_nl, jm95_rt, jm95_fr, jm95_lo]
  refine ⟨by first | exact Or.inl trivial | exact trivial, hQ w3 ts f K3 S3 fr3 hts ⟨⟨z3, hB.fr (fun i _ _ => fr4 i (by omega) (by omega)), hAi.fr (fun i _ _ => fr4 i (by omega) (by omega)), hn, hf, hgo, hwe⟩, hL, ⟨⟨rf, (fr4 18 (by omega) (by omega)).trans r0, r1, r2⟩, by show qN pr + 1 ≤ 2; omega, ?_, ?_, fun p hp => ?_⟩, fun p hp => ?_, fun p q hp hq hpq => ?_⟩ pg⟩
  · by_cases e : qN pr = 0
    · have : a = 22 := by omega
      rw [← this]; exact pA3.raw
    · exact g4.fr (fun i _ _ => fr3.2 i (by simp only [pA1]; omega))
  · by_cases e : qN pr = 1
    · have : a = 26 := by omega
      rw [← this]; exact pA3.raw
    · exact g5.fr (fun i _ _ => fr3.2 i (by simp only [pA1]; omega))
  · have hp' : p < qN pr + 1 := hp
    by_cases e : p = qN pr
    · obtain ⟨e1, e2, e3, e4⟩ := prAdd_new (pr := pr) (m := m) (c := (ptl m (bN B)).1) (ts := ts) (f := f)
      rw [e, e1, e2, e3, e4, ← ha]
      exact ⟨tb3, ps3, pA3, ptb⟩
    · obtain ⟨e1, e2, e3, e4⟩ := prAdd_old (m := m) (c := (ptl m (bN B)).1) (ts := ts) (f := f) e
      rw [e1, e2, e3, e4]
      exact (hgp p (by omega)).fr (fun i _ _ => fr3.2 i (by simp only [pA1]; omega))
  · have hp' : p < qN pr + 1 := hp
    by_cases e : p = qN pr
    · obtain ⟨e1, e2, e3, e4⟩ := prAdd_new (pr := pr) (m := m) (c := (ptl m (bN B)).1) (ts := ts) (f := f)
      rw [e, e1, e2, e3, e4]
      exact ⟨c2, hc, fun j hj => ⟨(hmb _ (tsr j hj).2).1, (tsr j hj).1, (hmb _ (tsr j hj).2).2.2, (tsr j hj).2⟩, tsi, hm, o3, x3, y3⟩
    · obtain ⟨e1, e2, e3, e4⟩ := prAdd_old (m := m) (c := (ptl m (bN B)).1) (ts := ts) (f := f) e
      rw [e1, e2, e3, e4]
      exact hO.1 p (by omega)
  · have hp' : p < qN pr + 1 := hp
    have hq' : q < qN pr + 1 := hq
    by_cases e : p = qN pr
    · have e' : ¬ q = qN pr := fun z => hpq (by rw [e, z])
      rw [(prAdd_old (m := m) (c := (ptl m (bN B)).1) (ts := ts) (f := f) e').1, e, prAdd_new.1, Nat.and_comm]
      exact c3 q (by omega)
    · by_cases e' : q = qN pr
      · rw [(prAdd_old (m := m) (c := (ptl m (bN B)).1) (ts := ts) (f := f) e).1, e', prAdd_new.1]
        exact c3 p (by omega)
      · rw [(prAdd_old (m := m) (c := (ptl m (bN B)).1) (ts := ts) (f := f) e).1, (prAdd_old (m := m) (c := (ptl m (bN B)).1) (ts := ts) (f := f) e').1]
        exact hO.2 p q (by omega) (by omega) hpq
end PA
