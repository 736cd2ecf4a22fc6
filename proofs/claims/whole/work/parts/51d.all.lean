/-! AllStates: tally, reckon -/
def tkB (f : Nat → Int) (wt : Nat → Bool) (x : Nat) : Bool := decide (¬ f x = -1 ∧ wt x = false)
def TL (f : Nat → Int) (wt : Nat → Bool) (V : Nat) (gr : Int) (fa : Nat) : Prop :=
  (∀ x, x < V → tkB f wt x = true → f x ≤ gr) ∧ fa = cnt (fun x => tkB f wt x && decide (f x = gr)) V ∧ ((gr = -1 ∧ ∀ x, x < V → tkB f wt x = false) ∨ ∃ x, x < V ∧ tkB f wt x = true ∧ f x = gr)
theorem tkB_iff {f : Nat → Int} {wt : Nat → Bool} {x : Nat} : tkB f wt x = true ↔ (¬ f x = -1 ∧ wt x = false) := by
  unfold tkB; exact decide_eq_true_iff
theorem TL.take {f : Nat → Int} {wt : Nat → Bool} {V m fa : Nat} {gr v : Int} (h : TL f wt V gr fa) (hm : m < V) (hw : wt m = true) (hv : f m = v) (v0 : 0 ≤ v) (hl : ∀ x, x < V → tkB f wt x = true → f x ≤ v) : TL f (ub wt m false) V v (if v = gr then fa + 1 else 1) := by
  obtain ⟨h1, h2, h3⟩ := h
  have e : ∀ x, tkB f (ub wt m false) x = if x = m then true else tkB f wt x := fun x => by
    unfold tkB ub
    by_cases c : x = m
    · rw [if_pos c, if_pos c, c]; exact decide_eq_true ⟨by omega, rfl⟩
    · rw [if_neg c, if_neg c]
  have tm : tkB f wt m = false := by unfold tkB; rw [hw]; exact decide_eq_false (fun z => by cases z.2)
  have gv : gr ≤ v := by
    rcases h3 with ⟨z, _⟩ | ⟨x, h4, h5, h6⟩
    · omega
    · have := hl x h4 h5; omega
  refine ⟨fun x hx hx2 => ?_, ?_, Or.inr ⟨m, hm, by rw [e, if_pos rfl], hv⟩⟩
  · rw [e] at hx2
    by_cases c : x = m
    · rw [c, hv]; exact Int.le_refl _
    · rw [if_neg c] at hx2; exact hl x hx hx2
  · by_cases c : v = gr
    · rw [if_pos c, h2, ← cnt_ub (p := fun x => tkB f wt x && decide (f x = gr)) hm (by simp only [tm, Bool.false_and])]
      refine cnt_congr (fun x _ => ?_)
      show _ = (tkB f (ub wt m false) x && decide (f x = v))
      rw [e]
      unfold ub
      by_cases d : x = m
      · rw [if_pos d, if_pos d, d]; simp [hv]
      · rw [if_neg d, if_neg d, c]
    · rw [if_neg c]
      have z := cnt_ub (p := fun _ => false) (n := V) hm rfl
      rw [cnt_none (fun _ _ => rfl), Nat.zero_add] at z
      rw [← z]
      refine cnt_congr (fun x hx => ?_)
      show _ = (tkB f (ub wt m false) x && decide (f x = v))
      rw [e]
      unfold ub
      by_cases d : x = m
      · rw [if_pos d, if_pos d, d]; simp [hv]
      · rw [if_neg d, if_neg d]
        cases q : tkB f wt x with
        | false => rfl
        | true =>
          have := h1 x hx q
          rw [decide_eq_false (by omega)]; rfl
theorem TL.congr {f f' : Nat → Int} {wt wt' : Nat → Bool} {V fa : Nat} {gr : Int} (h : TL f wt V gr fa) (e : ∀ x, (¬ f' x = -1 ∧ wt' x = false) ↔ (¬ f x = -1 ∧ wt x = false)) (ef : ∀ x, ¬ f x = -1 → wt x = false → f' x = f x) : TL f' wt' V gr fa := by
  obtain ⟨h1, h2, h3⟩ := h
  have et : ∀ x, tkB f' wt' x = tkB f wt x := fun x => by unfold tkB; exact decide_eq_decide.mpr (e x)
  refine ⟨fun x hx hx2 => ?_, ?_, ?_⟩
  · rw [et] at hx2
    have := tkB_iff.mp hx2
    rw [ef x this.1 this.2]; exact h1 x hx hx2
  · rw [h2]
    refine cnt_congr (fun x _ => ?_)
    show _ = (tkB f' wt' x && decide (f' x = gr))
    rw [et]
    cases q : tkB f wt x with
    | false => rfl
    | true => have := tkB_iff.mp q; rw [ef x this.1 this.2]
  · rcases h3 with ⟨z, h4⟩ | ⟨x, h4, h5, h6⟩
    · exact Or.inl ⟨z, fun x hx => (et x).trans (h4 x hx)⟩
    · have := tkB_iff.mp h5
      exact Or.inr ⟨x, h4, (et x).trans h5, (ef x this.1 this.2).trans h6⟩
section AT
variable {w : jW}
theorem tally_ok {kn fa st : Nat} {gr v : Int} {mp rk : Bool} (h76 : w[76]? = some (asC kn gr fa st mp rk)) (hg : -1 ≤ gr ∧ gr ≤ 100000) (hv : 0 ≤ v ∧ v ≤ 100000) {Q : (Option Value ⊕ Nat) → jW → Prop}
    (hQ : ∀ w1, frP (fun i => i = 76) w w1 → w1[76]? = some (asC (kn + 1) v (if v = gr then fa + 1 else 1) st mp rk) → Q (.inl none) w1) : jmw jm25 [.ref 76, .int (zI v)] w Q := by
  (refine jat_ev _ rfl ?_; simp (disch := omega) only [e_null, e_iconst, e_bipush, e_sipush, e_lconst, e_ldc, e_ldc_w, e_ldc2, e_iload_n, e_iload, e_lload_n, e_lload, e_dload, e_aload_n, e_aload, e_istore_n, e_istore, e_lstore_n, e_lstore, e_dstore, e_astore_n, e_astore, e_iinc, e_iadd, e_isub, e_imul, e_iand, e_ior, e_ixor, e_ishl, e_ishr, e_iushr, e_idiv, e_irem, e_ineg, e_ladd, e_lsub, e_lmul, e_land, e_lor, e_lxor, e_ldiv, e_lrem, e_lshl, e_lushr, e_lcmp, e_i2l, e_l2i, e_dup_int, e_pop_int, e_dup_ref, e_pop_ref, e_dup_retAddr, e_pop_retAddr, e_dup_float, e_pop_float, e_dup_null, e_dup2_ir, e_getfield, e_putfield, e_iaload, e_baload, e_laload, e_aaload, e_iastore, e_bastore, e_lastore, e_arraylength, e_nop, e_goto, e_if_eq, e_icmp_eq, e_if_ne, e_icmp_ne, e_if_lt, e_icmp_lt, e_if_ge, e_icmp_ge, e_if_gt, e_icmp_gt, e_if_le, e_icmp_le, e_ret, e_iret, e_lret, e_fret, e_dret, e_inv, e_invS, e_invI, e_obj, e_min, e_minl, e_new, e_throw, jki_some, jkl_some, jkd_some, jka_ref, jka_scr, jop_some, jgf_some, jlk_nil, jup_nil, jov_nil, jup2_nil, jov2_nil, jcat_int, jcat_long, jcat_ref, jcat_dbl, jcat_scr, jcat_null, if_true, if_false, Option.toList_none, Option.toList_some, List.nil_append, List.singleton_append, List.drop_succ_cons, List.drop_zero, List.cons_append, List.getElem?_cons_zero, List.getElem?_cons_succ, Nat.reduceAdd, Nat.reduceEqDiff, Nat.reduceLT, Nat.reduceMul, Nat.reduceDiv, Nat.reduceMod, Fin.isValue, Fin.val_zero, Fin.val_one, Fin.val_two, jfin3, Nat.succ_ne_self, zI_add, zI_sub, zI_mul, jia_z, jis_z, jla_z, jls_z, jaa_z, jset_ne, and_true, true_and, reduceIte, jlk_hit, jlk_skip, jup_hit, jup_skip, jup_onei, jup_oner, jup_onea, jup_onef, jup_onen, jup_twol, jup_twod, jup2_hit, jup2_skip, jup2_snd, jup2_onei, jup2_oner, jup2_onea, jup2_onef, jup2_onen, jup2_twol, jup2_twod, jov_skip, jov_onei, jov_oner, jov_onea, jov_onef, jov_onen, jov_twol, jov_twod, jov2_skip, jov2_snd, jov2_onei, jov2_oner, jov2_onea, jov2_onef, jov2_onen, jov2_twol, jov2_twod, zA_up, up_cast, up_cast0, up_cast1, up_cast16, up_cast1000000, up_cast1000000000, e_cpy, jcq_z, jal_some, jpf_def, jfit_i, jfit_l, jfit_r, jfit_b, jfit_b0, jfit_b1, nblt, Nat.beq_refl, List.length_cons, List.length_nil, List.set_cons_zero, List.set_cons_succ, Bool.and_self, decide_true, cond_true, List.set_set, jset_self, Option.map_some, natS, Int.toNat_natCast, zL_I, zL_add, zL_sub, zL_mul, zL_0, lc_0, lc_1, lg_c_eq, lg_c_lt, lg_c_ge, lg_c_gt, lg_c_le, zI_L, Option.map_map, Function.comp_def, kb_m2, kb_6, kb_7, kb_8, kb_9, kb_11, kb_13, kb_15, kb_16, kb_20, kb_31, kb_32, kb_36, kb_63, kb_64, kb_100, kb_108, kb_114, kb_117, ks_128, ks_200, ks_255, ks_256, ks_500, ks_720, ks_1000, ks_1001, ks_2880, ks_3002, ks_4101, ks_6561, ks_8202, ks_12345, ks_13122, ks_16383, ks_16384, kl_65616, kl_1000000, kl_252645135, kl_858993459, kl_1000000000, kl_1103515245, kl_1431655765, lv_args, zI_0, zI_eq, zI_lt, zI_le, h76, natS, jm25_nl, jm25_rt, jm25_fr, jm25_lo])
  refine ⟨fun c => ?_, fun c => ?_⟩
  · (refine jat_ev _ rfl ?_; simp (disch := omega) only [e_null, e_iconst, e_bipush, e_sipush, e_lconst, e_ldc, e_ldc_w, e_ldc2, e_iload_n, e_iload, e_lload_n, e_lload, e_dload, e_aload_n, e_aload, e_istore_n, e_istore, e_lstore_n, e_lstore, e_dstore, e_astore_n, e_astore, e_iinc, e_iadd, e_isub, e_imul, e_iand, e_ior, e_ixor, e_ishl, e_ishr, e_iushr, e_idiv, e_irem, e_ineg, e_ladd, e_lsub, e_lmul, e_land, e_lor, e_lxor, e_ldiv, e_lrem, e_lshl, e_lushr, e_lcmp, e_i2l, e_l2i, e_dup_int, e_pop_int, e_dup_ref, e_pop_ref, e_dup_retAddr, e_pop_retAddr, e_dup_float, e_pop_float, e_dup_null, e_dup2_ir, e_getfield, e_putfield, e_iaload, e_baload, e_laload, e_aaload, e_iastore, e_bastore, e_lastore, e_arraylength, e_nop, e_goto, e_if_eq, e_icmp_eq, e_if_ne, e_icmp_ne, e_if_lt, e_icmp_lt, e_if_ge, e_icmp_ge, e_if_gt, e_icmp_gt, e_if_le, e_icmp_le, e_ret, e_iret, e_lret, e_fret, e_dret, e_inv, e_invS, e_invI, e_obj, e_min, e_minl, e_new, e_throw, jki_some, jkl_some, jkd_some, jka_ref, jka_scr, jop_some, jgf_some, jlk_nil, jup_nil, jov_nil, jup2_nil, jov2_nil, jcat_int, jcat_long, jcat_ref, jcat_dbl, jcat_scr, jcat_null, if_true, if_false, Option.toList_none, Option.toList_some, List.nil_append, List.singleton_append, List.drop_succ_cons, List.drop_zero, List.cons_append, List.getElem?_cons_zero, List.getElem?_cons_succ, Nat.reduceAdd, Nat.reduceEqDiff, Nat.reduceLT, Nat.reduceMul, Nat.reduceDiv, Nat.reduceMod, Fin.isValue, Fin.val_zero, Fin.val_one, Fin.val_two, jfin3, Nat.succ_ne_self, zI_add, zI_sub, zI_mul, jia_z, jis_z, jla_z, jls_z, jaa_z, jset_ne, and_true, true_and, reduceIte, jlk_hit, jlk_skip, jup_hit, jup_skip, jup_onei, jup_oner, jup_onea, jup_onef, jup_onen, jup_twol, jup_twod, jup2_hit, jup2_skip, jup2_snd, jup2_onei, jup2_oner, jup2_onea, jup2_onef, jup2_onen, jup2_twol, jup2_twod, jov_skip, jov_onei, jov_oner, jov_onea, jov_onef, jov_onen, jov_twol, jov_twod, jov2_skip, jov2_snd, jov2_onei, jov2_oner, jov2_onea, jov2_onef, jov2_onen, jov2_twol, jov2_twod, zA_up, up_cast, up_cast0, up_cast1, up_cast16, up_cast1000000, up_cast1000000000, e_cpy, jcq_z, jal_some, jpf_def, jfit_i, jfit_l, jfit_r, jfit_b, jfit_b0, jfit_b1, nblt, Nat.beq_refl, List.length_cons, List.length_nil, List.set_cons_zero, List.set_cons_succ, Bool.and_self, decide_true, cond_true, List.set_set, jset_self, Option.map_some, natS, Int.toNat_natCast, zL_I, zL_add, zL_sub, zL_mul, zL_0, lc_0, lc_1, lg_c_eq, lg_c_lt, lg_c_ge, lg_c_gt, lg_c_le, zI_L, Option.map_map, Function.comp_def, kb_m2, kb_6, kb_7, kb_8, kb_9, kb_11, kb_13, kb_15, kb_16, kb_20, kb_31, kb_32, kb_36, kb_63, kb_64, kb_100, kb_108, kb_114, kb_117, ks_128, ks_200, ks_255, ks_256, ks_500, ks_720, ks_1000, ks_1001, ks_2880, ks_3002, ks_4101, ks_6561, ks_8202, ks_12345, ks_13122, ks_16383, ks_16384, kl_65616, kl_1000000, kl_252645135, kl_858993459, kl_1000000000, kl_1103515245, kl_1431655765, lv_args, zI_0, zI_eq, zI_lt, zI_le, h76, natS, jm25_nl, jm25_rt, jm25_fr, jm25_lo])
    (refine jat_ev _ rfl ?_; simp (disch := omega) only [e_null, e_iconst, e_bipush, e_sipush, e_lconst, e_ldc, e_ldc_w, e_ldc2, e_iload_n, e_iload, e_lload_n, e_lload, e_dload, e_aload_n, e_aload, e_istore_n, e_istore, e_lstore_n, e_lstore, e_dstore, e_astore_n, e_astore, e_iinc, e_iadd, e_isub, e_imul, e_iand, e_ior, e_ixor, e_ishl, e_ishr, e_iushr, e_idiv, e_irem, e_ineg, e_ladd, e_lsub, e_lmul, e_land, e_lor, e_lxor, e_ldiv, e_lrem, e_lshl, e_lushr, e_lcmp, e_i2l, e_l2i, e_dup_int, e_pop_int, e_dup_ref, e_pop_ref, e_dup_retAddr, e_pop_retAddr, e_dup_float, e_pop_float, e_dup_null, e_dup2_ir, e_getfield, e_putfield, e_iaload, e_baload, e_laload, e_aaload, e_iastore, e_bastore, e_lastore, e_arraylength, e_nop, e_goto, e_if_eq, e_icmp_eq, e_if_ne, e_icmp_ne, e_if_lt, e_icmp_lt, e_if_ge, e_icmp_ge, e_if_gt, e_icmp_gt, e_if_le, e_icmp_le, e_ret, e_iret, e_lret, e_fret, e_dret, e_inv, e_invS, e_invI, e_obj, e_min, e_minl, e_new, e_throw, jki_some, jkl_some, jkd_some, jka_ref, jka_scr, jop_some, jgf_some, jlk_nil, jup_nil, jov_nil, jup2_nil, jov2_nil, jcat_int, jcat_long, jcat_ref, jcat_dbl, jcat_scr, jcat_null, if_true, if_false, Option.toList_none, Option.toList_some, List.nil_append, List.singleton_append, List.drop_succ_cons, List.drop_zero, List.cons_append, List.getElem?_cons_zero, List.getElem?_cons_succ, Nat.reduceAdd, Nat.reduceEqDiff, Nat.reduceLT, Nat.reduceMul, Nat.reduceDiv, Nat.reduceMod, Fin.isValue, Fin.val_zero, Fin.val_one, Fin.val_two, jfin3, Nat.succ_ne_self, zI_add, zI_sub, zI_mul, jia_z, jis_z, jla_z, jls_z, jaa_z, jset_ne, and_true, true_and, reduceIte, jlk_hit, jlk_skip, jup_hit, jup_skip, jup_onei, jup_oner, jup_onea, jup_onef, jup_onen, jup_twol, jup_twod, jup2_hit, jup2_skip, jup2_snd, jup2_onei, jup2_oner, jup2_onea, jup2_onef, jup2_onen, jup2_twol, jup2_twod, jov_skip, jov_onei, jov_oner, jov_onea, jov_onef, jov_onen, jov_twol, jov_twod, jov2_skip, jov2_snd, jov2_onei, jov2_oner, jov2_onea, jov2_onef, jov2_onen, jov2_twol, jov2_twod, zA_up, up_cast, up_cast0, up_cast1, up_cast16, up_cast1000000, up_cast1000000000, e_cpy, jcq_z, jal_some, jpf_def, jfit_i, jfit_l, jfit_r, jfit_b, jfit_b0, jfit_b1, nblt, Nat.beq_refl, List.length_cons, List.length_nil, List.set_cons_zero, List.set_cons_succ, Bool.and_self, decide_true, cond_true, List.set_set, jset_self, Option.map_some, natS, Int.toNat_natCast, zL_I, zL_add, zL_sub, zL_mul, zL_0, lc_0, lc_1, lg_c_eq, lg_c_lt, lg_c_ge, lg_c_gt, lg_c_le, zI_L, Option.map_map, Function.comp_def, kb_m2, kb_6, kb_7, kb_8, kb_9, kb_11, kb_13, kb_15, kb_16, kb_20, kb_31, kb_32, kb_36, kb_63, kb_64, kb_100, kb_108, kb_114, kb_117, ks_128, ks_200, ks_255, ks_256, ks_500, ks_720, ks_1000, ks_1001, ks_2880, ks_3002, ks_4101, ks_6561, ks_8202, ks_12345, ks_13122, ks_16383, ks_16384, kl_65616, kl_1000000, kl_252645135, kl_858993459, kl_1000000000, kl_1103515245, kl_1431655765, lv_args, zI_0, zI_eq, zI_lt, zI_le, h76, natS, jm25_nl, jm25_rt, jm25_fr, jm25_lo])
    rw [if_neg c] at hQ
    exact hQ _ (frP_set (asC (kn + 1) v 1 st mp rk) rfl) (by rw [jset_self, h76]; rfl)
  · (refine jat_ev _ rfl ?_; simp (disch := omega) only [e_null, e_iconst, e_bipush, e_sipush, e_lconst, e_ldc, e_ldc_w, e_ldc2, e_iload_n, e_iload, e_lload_n, e_lload, e_dload, e_aload_n, e_aload, e_istore_n, e_istore, e_lstore_n, e_lstore, e_dstore, e_astore_n, e_astore, e_iinc, e_iadd, e_isub, e_imul, e_iand, e_ior, e_ixor, e_ishl, e_ishr, e_iushr, e_idiv, e_irem, e_ineg, e_ladd, e_lsub, e_lmul, e_land, e_lor, e_lxor, e_ldiv, e_lrem, e_lshl, e_lushr, e_lcmp, e_i2l, e_l2i, e_dup_int, e_pop_int, e_dup_ref, e_pop_ref, e_dup_retAddr, e_pop_retAddr, e_dup_float, e_pop_float, e_dup_null, e_dup2_ir, e_getfield, e_putfield, e_iaload, e_baload, e_laload, e_aaload, e_iastore, e_bastore, e_lastore, e_arraylength, e_nop, e_goto, e_if_eq, e_icmp_eq, e_if_ne, e_icmp_ne, e_if_lt, e_icmp_lt, e_if_ge, e_icmp_ge, e_if_gt, e_icmp_gt, e_if_le, e_icmp_le, e_ret, e_iret, e_lret, e_fret, e_dret, e_inv, e_invS, e_invI, e_obj, e_min, e_minl, e_new, e_throw, jki_some, jkl_some, jkd_some, jka_ref, jka_scr, jop_some, jgf_some, jlk_nil, jup_nil, jov_nil, jup2_nil, jov2_nil, jcat_int, jcat_long, jcat_ref, jcat_dbl, jcat_scr, jcat_null, if_true, if_false, Option.toList_none, Option.toList_some, List.nil_append, List.singleton_append, List.drop_succ_cons, List.drop_zero, List.cons_append, List.getElem?_cons_zero, List.getElem?_cons_succ, Nat.reduceAdd, Nat.reduceEqDiff, Nat.reduceLT, Nat.reduceMul, Nat.reduceDiv, Nat.reduceMod, Fin.isValue, Fin.val_zero, Fin.val_one, Fin.val_two, jfin3, Nat.succ_ne_self, zI_add, zI_sub, zI_mul, jia_z, jis_z, jla_z, jls_z, jaa_z, jset_ne, and_true, true_and, reduceIte, jlk_hit, jlk_skip, jup_hit, jup_skip, jup_onei, jup_oner, jup_onea, jup_onef, jup_onen, jup_twol, jup_twod, jup2_hit, jup2_skip, jup2_snd, jup2_onei, jup2_oner, jup2_onea, jup2_onef, jup2_onen, jup2_twol, jup2_twod, jov_skip, jov_onei, jov_oner, jov_onea, jov_onef, jov_onen, jov_twol, jov_twod, jov2_skip, jov2_snd, jov2_onei, jov2_oner, jov2_onea, jov2_onef, jov2_onen, jov2_twol, jov2_twod, zA_up, up_cast, up_cast0, up_cast1, up_cast16, up_cast1000000, up_cast1000000000, e_cpy, jcq_z, jal_some, jpf_def, jfit_i, jfit_l, jfit_r, jfit_b, jfit_b0, jfit_b1, nblt, Nat.beq_refl, List.length_cons, List.length_nil, List.set_cons_zero, List.set_cons_succ, Bool.and_self, decide_true, cond_true, List.set_set, jset_self, Option.map_some, natS, Int.toNat_natCast, zL_I, zL_add, zL_sub, zL_mul, zL_0, lc_0, lc_1, lg_c_eq, lg_c_lt, lg_c_ge, lg_c_gt, lg_c_le, zI_L, Option.map_map, Function.comp_def, kb_m2, kb_6, kb_7, kb_8, kb_9, kb_11, kb_13, kb_15, kb_16, kb_20, kb_31, kb_32, kb_36, kb_63, kb_64, kb_100, kb_108, kb_114, kb_117, ks_128, ks_200, ks_255, ks_256, ks_500, ks_720, ks_1000, ks_1001, ks_2880, ks_3002, ks_4101, ks_6561, ks_8202, ks_12345, ks_13122, ks_16383, ks_16384, kl_65616, kl_1000000, kl_252645135, kl_858993459, kl_1000000000, kl_1103515245, kl_1431655765, lv_args, zI_0, zI_eq, zI_lt, zI_le, h76, natS, jm25_nl, jm25_rt, jm25_fr, jm25_lo])
    rw [if_pos (by omega)] at hQ
    exact hQ _ (frP_set (asC (kn + 1) v (fa + 1) st mp rk) rfl) (by rw [jset_self, h76]; rfl)
end AT
