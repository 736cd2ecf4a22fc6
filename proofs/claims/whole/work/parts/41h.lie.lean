/-! the lowest bit; bits by index -/
theorem low_ex : ∀ m : Nat, m ≠ 0 → ∃ l q, m = 2 ^ l * (2 * q + 1) := by
  intro m
  induction m using Nat.strongRecOn with
  | ind m ih =>
    intro h
    rcases Nat.mod_two_eq_zero_or_one m with e | e
    · obtain ⟨l, q, hq⟩ := ih (m / 2) (by omega) (by omega)
      exact ⟨l + 1, q, by rw [Nat.pow_succ, Nat.mul_comm (2 ^ l) 2, Nat.mul_assoc, ← hq]; omega⟩
    · exact ⟨0, m / 2, by rw [Nat.pow_zero, Nat.one_mul]; omega⟩
theorem low_bits {l q : Nat} (i : Nat) : (2 ^ l * (2 * q + 1)).testBit i = (decide (l ≤ i) && (2 * q + 1).testBit (i - l)) := by
  rw [Nat.testBit_two_pow_mul]
theorem low_pred {l q : Nat} (i : Nat) : (2 ^ l * (2 * q + 1) - 1).testBit i = if i < l then true else if i = l then false else (2 ^ l * (2 * q + 1)).testBit i := by
  have e : 2 ^ l * (2 * q + 1) - 1 = 2 ^ l * (2 * q) + (2 ^ l - 1) := by
    have := Nat.two_pow_pos l
    rw [Nat.mul_add, Nat.mul_one]; omega
  rw [e, Nat.testBit_two_pow_mul_add _ (by have := Nat.two_pow_pos l; omega)]
  by_cases h1 : i < l
  · rw [if_pos h1, if_pos h1, Nat.testBit_two_pow_sub_one, decide_eq_true h1]
  · rw [if_neg h1, if_neg h1]
    by_cases h2 : i = l
    · subst h2; rw [if_pos rfl, Nat.sub_self]; simp
    · rw [if_neg h2, low_bits, decide_eq_true (by omega), Bool.true_and]
      obtain ⟨s, hs⟩ : ∃ s, i - l = s + 1 := ⟨i - l - 1, by omega⟩
      rw [hs, Nat.testBit_succ, Nat.testBit_succ]
      congr 1
      omega
/-- the lowest bit of m is l -/
def isLow (m l : Nat) : Prop := m.testBit l = true ∧ ∀ i, i < l → m.testBit i = false
theorem low_clear {m l : Nat} (h : isLow m l) (i : Nat) : (m &&& (m - 1)).testBit i = (m.testBit i && !decide (i = l)) ∧ (m ^^^ (m &&& (m - 1))).testBit i = decide (i = l) := by
  have hm : m ≠ 0 := fun c => by rw [c] at h; simp [isLow] at h
  obtain ⟨l', q, hq⟩ := low_ex m hm
  have hl' : m.testBit l' = true := by rw [hq, low_bits, Nat.sub_self]; simp [Nat.testBit_zero]
  have hll : l = l' := by
    rcases Nat.lt_trichotomy l l' with c | c | c
    · have := h.1; rw [hq, low_bits, decide_eq_false (by omega)] at this; cases this
    · exact c
    · have := h.2 l' c; rw [hl'] at this; cases this
  subst hll
  have hp : (m - 1).testBit i = if i < l then true else if i = l then false else m.testBit i := by rw [hq]; exact low_pred i
  rw [clr_bit, Nat.testBit_and, hp]
  by_cases h1 : i < l
  · rw [if_pos h1, h.2 i h1, decide_eq_false (by omega)]; simp
  · rw [if_neg h1]
    by_cases h2 : i = l
    · rw [if_pos h2, h2, h.1, decide_eq_true rfl]; simp
    · rw [if_neg h2, decide_eq_false h2]; cases m.testBit i <;> exact ⟨rfl, rfl⟩
theorem low_is {m : Nat} (hm : m ≠ 0) : ∃ l, isLow m l := by
  obtain ⟨l, q, hq⟩ := low_ex m hm
  exact ⟨l, by rw [hq, low_bits, Nat.sub_self]; simp [Nat.testBit_zero], fun i hi => by rw [hq, low_bits, decide_eq_false (by omega)]; rfl⟩
theorem zI_low (m : Nat) (hm : 0 < m) : zI (m : Int) &&& -zI (m : Int) = zI ((m ^^^ (m &&& (m - 1)) : Nat) : Int) := by
  rw [← zI_andn]
  congr 1
  apply Int32.toBitVec_inj.mp
  rw [Int32.toBitVec_neg, Int32.toBitVec_xor, show (zI (-1)).toBitVec = BitVec.allOnes 32 from by decide, BitVec.xor_allOnes, show ((m - 1 : Nat) : Int) = (m : Int) - 1 from by omega, ← zI_sub, Int32.toBitVec_sub, show (zI 1).toBitVec = 1#32 from by decide, BitVec.neg_eq_not_add, ← BitVec.not_sub_one_eq_not_add_one]
theorem cnt_below {p : Nat → Bool} {s : Nat} : ∀ {l : Nat}, (∀ i, i < l → p i = true → cnt p i < s) → cnt p l ≤ s
  | 0, _ => Nat.zero_le _
  | l + 1, h => by
    have := cnt_below (p := p) (s := s) (l := l) (fun i hi => h i (by omega))
    simp only [cnt]
    by_cases e : p l = true
    · rw [if_pos e]; have := h l (by omega) e; omega
    · rw [if_neg e]; omega
theorem cnt_up {p : Nat → Bool} {i j : Nat} (h : i ≤ j) : cnt p i ≤ cnt p j := by
  induction j with
  | zero => rw [show i = 0 from by omega]; exact Nat.le_refl _
  | succ j ih =>
    by_cases e : i = j + 1
    · subst e; exact Nat.le_refl _
    · have := ih (by omega); simp only [cnt]; omega
theorem cnt_past {p : Nat → Bool} {i j : Nat} (h : i < j) (hp : p i = true) : cnt p i + 1 ≤ cnt p j := by
  have := cnt_up (p := p) (show i + 1 ≤ j from h)
  simp only [cnt, hp, if_true] at this
  exact this
/-- m without its s lowest bits -/
def offS (m s r : Nat) : Prop := ∀ i, r.testBit i = (m.testBit i && decide (s ≤ cnt m.testBit i))
theorem offS_low {m s r x : Nat} (h : offS m s r) (hx : m.testBit x = true) (hc : s ≤ cnt m.testBit x) : ∃ l, isLow r l ∧ m.testBit l = true ∧ cnt m.testBit l = s := by
  have hr : r.testBit x = true := by rw [h x, hx, decide_eq_true hc]; rfl
  obtain ⟨l, hl⟩ := low_is (m := r) (fun c => by rw [c] at hr; simp at hr)
  have h1 := hl.1
  rw [h l, Bool.and_eq_true, decide_eq_true_eq] at h1
  refine ⟨l, hl, h1.1, Nat.le_antisymm (cnt_below (fun i hi hp => ?_)) h1.2⟩
  have := hl.2 i hi
  rw [h i, hp, Bool.true_and, decide_eq_false_iff_not] at this
  omega
theorem offS_step {m s r x : Nat} (h : offS m s r) (hx : m.testBit x = true) (hc : s ≤ cnt m.testBit x) : offS m (s + 1) (r &&& (r - 1)) := by
  obtain ⟨l, h1, h2, h3⟩ := offS_low h hx hc
  intro i
  rw [(low_clear h1 i).1, h i]
  cases hm : m.testBit i with
  | false => rfl
  | true =>
    rw [Bool.true_and, Bool.true_and]
    rcases Nat.lt_trichotomy i l with c | c | c
    · have := h1.2 i c
      rw [h i, hm, Bool.true_and, decide_eq_false_iff_not] at this
      rw [decide_eq_false this, decide_eq_false (show ¬ s + 1 ≤ cnt m.testBit i by omega)]; rfl
    · subst c; rw [decide_eq_true rfl, decide_eq_false (show ¬ s + 1 ≤ cnt m.testBit i by omega)]; simp
    · have := cnt_past c h2
      rw [decide_eq_true (by omega), decide_eq_false (by omega), decide_eq_true (by omega)]; rfl
theorem bitIx_ok {w : jW} {m d x : Nat} (hm : m < 65536) (hx : m.testBit x = true) (hd : cnt m.testBit x = d) (hd16 : d < 16) {Q : (Option Value ⊕ Nat) → jW → Prop} (hQ : Q (.inl (some (.int (zI ((2 ^ x : Nat) : Int))))) w) : jmw jm79 [.int (zI (m : Int)), .int (zI (d : Int))] w Q := by
  have L : ∀ s, s ≤ d → ∀ r, r < 65536 → offS m s r → jat none jm79 Q 1 [(0, .int (zI (m : Int))), (1, .int (zI (d : Int))), (2, .int (zI (r : Int))), (3, .int (zI (s : Int)))] [] w := by
    refine loop_up d ?_ ?_
    · intro s hs ih r hr h
      obtain ⟨l, h1, h2, h3⟩ := offS_low h hx (by omega)
      have r0 : 0 < r := Nat.pos_of_ne_zero (fun c => by have := h1.1; rw [c] at this; simp at this)
      refine jat_ev _ rfl ?_
      simp (disch := omega) only [e_null, e_iconst, e_bipush, e_sipush, e_lconst, e_ldc, e_ldc_w, e_ldc2, e_iload_n, e_iload, e_lload_n, e_lload, e_dload, e_aload_n, e_aload, e_istore_n, e_istore, e_lstore_n, e_lstore, e_dstore, e_astore_n, e_astore, e_iinc, e_iadd, e_isub, e_imul, e_iand, e_ior, e_ixor, e_ishl, e_ishr, e_iushr, e_idiv, e_irem, e_ineg, e_ladd, e_lsub, e_lmul, e_land, e_lor, e_lxor, e_ldiv, e_lrem, e_lshl, e_lushr, e_lcmp, e_i2l, e_l2i, e_dup_int, e_pop_int, e_dup_ref, e_pop_ref, e_dup_retAddr, e_pop_retAddr, e_dup_float, e_pop_float, e_dup_null, e_dup2_ir, e_getfield, e_putfield, e_iaload, e_baload, e_laload, e_aaload, e_iastore, e_bastore, e_lastore, e_arraylength, e_nop, e_goto, e_if_eq, e_icmp_eq, e_if_ne, e_icmp_ne, e_if_lt, e_icmp_lt, e_if_ge, e_icmp_ge, e_if_gt, e_icmp_gt, e_if_le, e_icmp_le, e_ret, e_iret, e_lret, e_fret, e_dret, e_inv, e_invS, e_invI, e_obj, e_min, e_minl, e_new, e_throw, jki_some, jkl_some, jkd_some, jka_ref, jka_scr, jop_some, jgf_some, jlk_nil, jup_nil, jov_nil, jup2_nil, jov2_nil, jcat_int, jcat_long, jcat_ref, jcat_dbl, jcat_scr, jcat_null, if_true, if_false, Option.toList_none, Option.toList_some, List.nil_append, List.singleton_append, List.drop_succ_cons, List.drop_zero, List.cons_append, List.getElem?_cons_zero, List.getElem?_cons_succ, Nat.reduceAdd, Nat.reduceEqDiff, Nat.reduceLT, Nat.reduceMul, Nat.reduceDiv, Nat.reduceMod, Fin.isValue, Fin.val_zero, Fin.val_one, Fin.val_two, jfin3, Nat.succ_ne_self, zI_add, zI_sub, zI_mul, jia_z, jis_z, jla_z, jls_z, jaa_z, jset_ne, and_true, true_and, reduceIte, jlk_hit, jlk_skip, jup_hit, jup_skip, jup_onei, jup_oner, jup_onea, jup_onef, jup_onen, jup_twol, jup_twod, jup2_hit, jup2_skip, jup2_snd, jup2_onei, jup2_oner, jup2_onea, jup2_onef, jup2_onen, jup2_twol, jup2_twod, jov_skip, jov_onei, jov_oner, jov_onea, jov_onef, jov_onen, jov_twol, jov_twod, jov2_skip, jov2_snd, jov2_onei, jov2_oner, jov2_onea, jov2_onef, jov2_onen, jov2_twol, jov2_twod, zA_up, up_cast, up_cast0, up_cast1, up_cast16, up_cast1000000, up_cast1000000000, e_cpy, jcq_z, jal_some, jpf_def, jfit_i, jfit_l, jfit_r, jfit_b, jfit_b0, jfit_b1, nblt, Nat.beq_refl, List.length_cons, List.length_nil, List.set_cons_zero, List.set_cons_succ, Bool.and_self, decide_true, cond_true, List.set_set, jset_self, Option.map_some, natS, Int.toNat_natCast, zL_I, zL_add, zL_sub, zL_mul, zL_0, lc_0, lc_1, lg_c_eq, lg_c_lt, lg_c_ge, lg_c_gt, lg_c_le, zI_L, Option.map_map, Function.comp_def, kb_m2, kb_6, kb_7, kb_8, kb_9, kb_11, kb_13, kb_15, kb_16, kb_20, kb_31, kb_32, kb_36, kb_63, kb_64, kb_100, kb_108, kb_114, kb_117, ks_128, ks_200, ks_255, ks_256, ks_500, ks_720, ks_1000, ks_1001, ks_2880, ks_3002, ks_4101, ks_6561, ks_8202, ks_12345, ks_13122, ks_16383, ks_16384, kl_65616, kl_1000000, kl_252645135, kl_858993459, kl_1000000000, kl_1103515245, kl_1431655765, lv_args, zI_0, zI_eq, zI_lt, zI_le, jm79_nl, jm79_rt, jm79_fr, jm79_lo, show (r : Int) - 1 = ((r - 1 : Nat) : Int) from by omega, zI_and]
      exact ⟨fun c => absurd c (by omega), fun _ => ih _ (Nat.lt_of_le_of_lt Nat.and_le_left hr) (offS_step h hx (by omega))⟩
    · intro r hr h
      obtain ⟨l, h1, h2, h3⟩ := offS_low h hx (by omega)
      have r0 : 0 < r := Nat.pos_of_ne_zero (fun c => by have := h1.1; rw [c] at this; simp at this)
      have e : r ^^^ (r &&& (r - 1)) = 2 ^ x := by
        apply Nat.eq_of_testBit_eq
        intro i
        rw [(low_clear h1 i).2, tb_pow]
        have : l = x := by
          rcases Nat.lt_trichotomy l x with c | c | c
          · have := cnt_past c h2; omega
          · exact c
          · have := cnt_past c hx; omega
        subst this
        by_cases c : i = l
        · rw [decide_eq_true c, decide_eq_true c.symm]
        · rw [decide_eq_false c, decide_eq_false (fun z => c z.symm)]
      refine jat_ev _ rfl ?_
      simp (disch := omega) only [e_null, e_iconst, e_bipush, e_sipush, e_lconst, e_ldc, e_ldc_w, e_ldc2, e_iload_n, e_iload, e_lload_n, e_lload, e_dload, e_aload_n, e_aload, e_istore_n, e_istore, e_lstore_n, e_lstore, e_dstore, e_astore_n, e_astore, e_iinc, e_iadd, e_isub, e_imul, e_iand, e_ior, e_ixor, e_ishl, e_ishr, e_iushr, e_idiv, e_irem, e_ineg, e_ladd, e_lsub, e_lmul, e_land, e_lor, e_lxor, e_ldiv, e_lrem, e_lshl, e_lushr, e_lcmp, e_i2l, e_l2i, e_dup_int, e_pop_int, e_dup_ref, e_pop_ref, e_dup_retAddr, e_pop_retAddr, e_dup_float, e_pop_float, e_dup_null, e_dup2_ir, e_getfield, e_putfield, e_iaload, e_baload, e_laload, e_aaload, e_iastore, e_bastore, e_lastore, e_arraylength, e_nop, e_goto, e_if_eq, e_icmp_eq, e_if_ne, e_icmp_ne, e_if_lt, e_icmp_lt, e_if_ge, e_icmp_ge, e_if_gt, e_icmp_gt, e_if_le, e_icmp_le, e_ret, e_iret, e_lret, e_fret, e_dret, e_inv, e_invS, e_invI, e_obj, e_min, e_minl, e_new, e_throw, jki_some, jkl_some, jkd_some, jka_ref, jka_scr, jop_some, jgf_some, jlk_nil, jup_nil, jov_nil, jup2_nil, jov2_nil, jcat_int, jcat_long, jcat_ref, jcat_dbl, jcat_scr, jcat_null, if_true, if_false, Option.toList_none, Option.toList_some, List.nil_append, List.singleton_append, List.drop_succ_cons, List.drop_zero, List.cons_append, List.getElem?_cons_zero, List.getElem?_cons_succ, Nat.reduceAdd, Nat.reduceEqDiff, Nat.reduceLT, Nat.reduceMul, Nat.reduceDiv, Nat.reduceMod, Fin.isValue, Fin.val_zero, Fin.val_one, Fin.val_two, jfin3, Nat.succ_ne_self, zI_add, zI_sub, zI_mul, jia_z, jis_z, jla_z, jls_z, jaa_z, jset_ne, and_true, true_and, reduceIte, jlk_hit, jlk_skip, jup_hit, jup_skip, jup_onei, jup_oner, jup_onea, jup_onef, jup_onen, jup_twol, jup_twod, jup2_hit, jup2_skip, jup2_snd, jup2_onei, jup2_oner, jup2_onea, jup2_onef, jup2_onen, jup2_twol, jup2_twod, jov_skip, jov_onei, jov_oner, jov_onea, jov_onef, jov_onen, jov_twol, jov_twod, jov2_skip, jov2_snd, jov2_onei, jov2_oner, jov2_onea, jov2_onef, jov2_onen, jov2_twol, jov2_twod, zA_up, up_cast, up_cast0, up_cast1, up_cast16, up_cast1000000, up_cast1000000000, e_cpy, jcq_z, jal_some, jpf_def, jfit_i, jfit_l, jfit_r, jfit_b, jfit_b0, jfit_b1, nblt, Nat.beq_refl, List.length_cons, List.length_nil, List.set_cons_zero, List.set_cons_succ, Bool.and_self, decide_true, cond_true, List.set_set, jset_self, Option.map_some, natS, Int.toNat_natCast, zL_I, zL_add, zL_sub, zL_mul, zL_0, lc_0, lc_1, lg_c_eq, lg_c_lt, lg_c_ge, lg_c_gt, lg_c_le, zI_L, Option.map_map, Function.comp_def, kb_m2, kb_6, kb_7, kb_8, kb_9, kb_11, kb_13, kb_15, kb_16, kb_20, kb_31, kb_32, kb_36, kb_63, kb_64, kb_100, kb_108, kb_114, kb_117, ks_128, ks_200, ks_255, ks_256, ks_500, ks_720, ks_1000, ks_1001, ks_2880, ks_3002, ks_4101, ks_6561, ks_8202, ks_12345, ks_13122, ks_16383, ks_16384, kl_65616, kl_1000000, kl_252645135, kl_858993459, kl_1000000000, kl_1103515245, kl_1431655765, lv_args, zI_0, zI_eq, zI_lt, zI_le, jm79_nl, jm79_rt, jm79_fr, jm79_lo]
      refine ⟨fun _ => ?_, fun c => absurd (by omega) c⟩
      refine jat_ev _ rfl ?_
      simp (disch := omega) only [e_null, e_iconst, e_bipush, e_sipush, e_lconst, e_ldc, e_ldc_w, e_ldc2, e_iload_n, e_iload, e_lload_n, e_lload, e_dload, e_aload_n, e_aload, e_istore_n, e_istore, e_lstore_n, e_lstore, e_dstore, e_astore_n, e_astore, e_iinc, e_iadd, e_isub, e_imul, e_iand, e_ior, e_ixor, e_ishl, e_ishr, e_iushr, e_idiv, e_irem, e_ineg, e_ladd, e_lsub, e_lmul, e_land, e_lor, e_lxor, e_ldiv, e_lrem, e_lshl, e_lushr, e_lcmp, e_i2l, e_l2i, e_dup_int, e_pop_int, e_dup_ref, e_pop_ref, e_dup_retAddr, e_pop_retAddr, e_dup_float, e_pop_float, e_dup_null, e_dup2_ir, e_getfield, e_putfield, e_iaload, e_baload, e_laload, e_aaload, e_iastore, e_bastore, e_lastore, e_arraylength, e_nop, e_goto, e_if_eq, e_icmp_eq, e_if_ne, e_icmp_ne, e_if_lt, e_icmp_lt, e_if_ge, e_icmp_ge, e_if_gt, e_icmp_gt, e_if_le, e_icmp_le, e_ret, e_iret, e_lret, e_fret, e_dret, e_inv, e_invS, e_invI, e_obj, e_min, e_minl, e_new, e_throw, jki_some, jkl_some, jkd_some, jka_ref, jka_scr, jop_some, jgf_some, jlk_nil, jup_nil, jov_nil, jup2_nil, jov2_nil, jcat_int, jcat_long, jcat_ref, jcat_dbl, jcat_scr, jcat_null, if_true, if_false, Option.toList_none, Option.toList_some, List.nil_append, List.singleton_append, List.drop_succ_cons, List.drop_zero, List.cons_append, List.getElem?_cons_zero, List.getElem?_cons_succ, Nat.reduceAdd, Nat.reduceEqDiff, Nat.reduceLT, Nat.reduceMul, Nat.reduceDiv, Nat.reduceMod, Fin.isValue, Fin.val_zero, Fin.val_one, Fin.val_two, jfin3, Nat.succ_ne_self, zI_add, zI_sub, zI_mul, jia_z, jis_z, jla_z, jls_z, jaa_z, jset_ne, and_true, true_and, reduceIte, jlk_hit, jlk_skip, jup_hit, jup_skip, jup_onei, jup_oner, jup_onea, jup_onef, jup_onen, jup_twol, jup_twod, jup2_hit, jup2_skip, jup2_snd, jup2_onei, jup2_oner, jup2_onea, jup2_onef, jup2_onen, jup2_twol, jup2_twod, jov_skip, jov_onei, jov_oner, jov_onea, jov_onef, jov_onen, jov_twol, jov_twod, jov2_skip, jov2_snd, jov2_onei, jov2_oner, jov2_onea, jov2_onef, jov2_onen, jov2_twol, jov2_twod, zA_up, up_cast, up_cast0, up_cast1, up_cast16, up_cast1000000, up_cast1000000000, e_cpy, jcq_z, jal_some, jpf_def, jfit_i, jfit_l, jfit_r, jfit_b, jfit_b0, jfit_b1, nblt, Nat.beq_refl, List.length_cons, List.length_nil, List.set_cons_zero, List.set_cons_succ, Bool.and_self, decide_true, cond_true, List.set_set, jset_self, Option.map_some, natS, Int.toNat_natCast, zL_I, zL_add, zL_sub, zL_mul, zL_0, lc_0, lc_1, lg_c_eq, lg_c_lt, lg_c_ge, lg_c_gt, lg_c_le, zI_L, Option.map_map, Function.comp_def, kb_m2, kb_6, kb_7, kb_8, kb_9, kb_11, kb_13, kb_15, kb_16, kb_20, kb_31, kb_32, kb_36, kb_63, kb_64, kb_100, kb_108, kb_114, kb_117, ks_128, ks_200, ks_255, ks_256, ks_500, ks_720, ks_1000, ks_1001, ks_2880, ks_3002, ks_4101, ks_6561, ks_8202, ks_12345, ks_13122, ks_16383, ks_16384, kl_65616, kl_1000000, kl_252645135, kl_858993459, kl_1000000000, kl_1103515245, kl_1431655765, lv_args, zI_0, zI_eq, zI_lt, zI_le, jm79_nl, jm79_rt, jm79_fr, jm79_lo, zI_low r r0, e]
      exact ⟨Or.inl trivial, hQ⟩
  refine jat_ev _ rfl ?_
  simp (disch := omega) only [e_null, e_iconst, e_bipush, e_sipush, e_lconst, e_ldc, e_ldc_w, e_ldc2, e_iload_n, e_iload, e_lload_n, e_lload, e_dload, e_aload_n, e_aload, e_istore_n, e_istore, e_lstore_n, e_lstore, e_dstore, e_astore_n, e_astore, e_iinc, e_iadd, e_isub, e_imul, e_iand, e_ior, e_ixor, e_ishl, e_ishr, e_iushr, e_idiv, e_irem, e_ineg, e_ladd, e_lsub, e_lmul, e_land, e_lor, e_lxor, e_ldiv, e_lrem, e_lshl, e_lushr, e_lcmp, e_i2l, e_l2i, e_dup_int, e_pop_int, e_dup_ref, e_pop_ref, e_dup_retAddr, e_pop_retAddr, e_dup_float, e_pop_float, e_dup_null, e_dup2_ir, e_getfield, e_putfield, e_iaload, e_baload, e_laload, e_aaload, e_iastore, e_bastore, e_lastore, e_arraylength, e_nop, e_goto, e_if_eq, e_icmp_eq, e_if_ne, e_icmp_ne, e_if_lt, e_icmp_lt, e_if_ge, e_icmp_ge, e_if_gt, e_icmp_gt, e_if_le, e_icmp_le, e_ret, e_iret, e_lret, e_fret, e_dret, e_inv, e_invS, e_invI, e_obj, e_min, e_minl, e_new, e_throw, jki_some, jkl_some, jkd_some, jka_ref, jka_scr, jop_some, jgf_some, jlk_nil, jup_nil, jov_nil, jup2_nil, jov2_nil, jcat_int, jcat_long, jcat_ref, jcat_dbl, jcat_scr, jcat_null, if_true, if_false, Option.toList_none, Option.toList_some, List.nil_append, List.singleton_append, List.drop_succ_cons, List.drop_zero, List.cons_append, List.getElem?_cons_zero, List.getElem?_cons_succ, Nat.reduceAdd, Nat.reduceEqDiff, Nat.reduceLT, Nat.reduceMul, Nat.reduceDiv, Nat.reduceMod, Fin.isValue, Fin.val_zero, Fin.val_one, Fin.val_two, jfin3, Nat.succ_ne_self, zI_add, zI_sub, zI_mul, jia_z, jis_z, jla_z, jls_z, jaa_z, jset_ne, and_true, true_and, reduceIte, jlk_hit, jlk_skip, jup_hit, jup_skip, jup_onei, jup_oner, jup_onea, jup_onef, jup_onen, jup_twol, jup_twod, jup2_hit, jup2_skip, jup2_snd, jup2_onei, jup2_oner, jup2_onea, jup2_onef, jup2_onen, jup2_twol, jup2_twod, jov_skip, jov_onei, jov_oner, jov_onea, jov_onef, jov_onen, jov_twol, jov_twod, jov2_skip, jov2_snd, jov2_onei, jov2_oner, jov2_onea, jov2_onef, jov2_onen, jov2_twol, jov2_twod, zA_up, up_cast, up_cast0, up_cast1, up_cast16, up_cast1000000, up_cast1000000000, e_cpy, jcq_z, jal_some, jpf_def, jfit_i, jfit_l, jfit_r, jfit_b, jfit_b0, jfit_b1, nblt, Nat.beq_refl, List.length_cons, List.length_nil, List.set_cons_zero, List.set_cons_succ, Bool.and_self, decide_true, cond_true, List.set_set, jset_self, Option.map_some, natS, Int.toNat_natCast, zL_I, zL_add, zL_sub, zL_mul, zL_0, lc_0, lc_1, lg_c_eq, lg_c_lt, lg_c_ge, lg_c_gt, lg_c_le, zI_L, Option.map_map, Function.comp_def, kb_m2, kb_6, kb_7, kb_8, kb_9, kb_11, kb_13, kb_15, kb_16, kb_20, kb_31, kb_32, kb_36, kb_63, kb_64, kb_100, kb_108, kb_114, kb_117, ks_128, ks_200, ks_255, ks_256, ks_500, ks_720, ks_1000, ks_1001, ks_2880, ks_3002, ks_4101, ks_6561, ks_8202, ks_12345, ks_13122, ks_16383, ks_16384, kl_65616, kl_1000000, kl_252645135, kl_858993459, kl_1000000000, kl_1103515245, kl_1431655765, lv_args, zI_0, zI_eq, zI_lt, zI_le, jm79_nl, jm79_rt, jm79_fr, jm79_lo]
  exact L 0 (Nat.zero_le _) _ hm (fun i => by rw [decide_eq_true (Nat.zero_le _), Bool.and_true])
/-- how many pairs stand the wrong way round -/
def invN (v : Nat → Nat) : Nat → Nat := sm (fun k => cnt (fun i => decide (v k < v i)) k)
theorem cnt_shift (q : Nat → Bool) (c : Nat) : ∀ m, cnt (fun y => decide (c ≤ y) && q y) (c + m) = cnt (fun x => q (c + x)) m
  | 0 => by rw [Nat.add_zero]; exact cnt_none (fun i hi => by rw [decide_eq_false (by omega)]; rfl)
  | m + 1 => by
    rw [← Nat.add_assoc]
    simp only [cnt]
    rw [cnt_shift q c m]
    congr 1
    simp
theorem cnt_le16 (p : Nat → Bool) : cnt p 16 ≤ 16 := cnt_le p 16
theorem disorder_ok {w : jW} {a n : Nat} {tl pl : Nat → Nat} {pk : Int64} (h : LieR w a n tl pl pk) (hn : 0 < n ∧ n ≤ 16) {Q : (Option Value ⊕ Nat) → jW → Prop}
    (hQ : Q (.inl (some (.int (zI (invN (fun j => vO n (tl j)) n : Int))))) w) : jmw jm80 [.ref a] w Q := by
  obtain ⟨h0, hA, hP⟩ := id h
  obtain ⟨h1, h2, h3⟩ := id h0
  have hV := hA.val hn.1
  have L : ∀ k, k ≤ n → ∀ (m : Nat) (lv : jL), (∀ x, m.testBit x = (decide (x < n) && decide (pl (tO n x) < k))) → (lv = [] ∨ ∃ z : Int32, lv = [(4, .int z)]) → jat none jm80 Q 1 ([(0, .ref a), (1, .int (zI (invN (fun j => vO n (tl j)) k : Int))), (2, .int (zI (m : Int))), (3, .int (zI (k : Int)))] ++ lv) [] w := by
    refine loop_up n ?_ ?_
    · intro k hk ih m lv hm hlv
      have hv := hV.1 k hk
      have m16 : m < 65536 := lt_pow16 (fun x hx => by rw [hm x, decide_eq_false (by omega)]; rfl)
      have hv16 : vO n (tl k) < 16 := by have := hv.1; dsimp only at this; omega
      have tk := (hA.1 k hk).1
      have hm' : ∀ x, (m ||| 2 ^ vO n (tl k)).testBit x = (decide (x < n) && decide (pl (tO n x) < k + 1)) := by
        intro x
        rw [Nat.testBit_or, hm x, tb_pow]
        by_cases hx : x < n
        · rw [decide_eq_true hx, Bool.true_and, Bool.true_and]
          have b := hV.2 x hx
          dsimp only at b hv
          by_cases c : vO n (tl k) = x
          · rw [decide_eq_true c, ← c, hv.2, decide_eq_true (show k < k + 1 by omega)]; simp
          · rw [decide_eq_false c, Bool.or_false]
            have : ¬ pl (tO n x) = k := fun z => c (by rw [← z]; exact b.2)
            by_cases d : pl (tO n x) < k
            · rw [decide_eq_true d, decide_eq_true (by omega)]
            · rw [decide_eq_false d, decide_eq_false (by omega)]
        · rw [decide_eq_false hx, Bool.false_and, Bool.false_and, Bool.false_or, decide_eq_false]
          intro c; have := hv.1; dsimp only at this; omega
      have hp : pop (m >>> vO n (tl k)) = cnt (fun i => decide (vO n (tl k) < vO n (tl i))) k := by
        unfold pop
        have e1 : cnt (m >>> vO n (tl k)).testBit 16 = cnt (fun x => m.testBit (vO n (tl k) + x)) 16 := cnt_congr (fun i _ => by rw [Nat.testBit_shiftRight])
        rw [e1, ← cnt_shift m.testBit]
        have e2 : cnt (fun y => decide (vO n (tl k) ≤ y) && m.testBit y) (vO n (tl k) + 16) = cnt (fun y => decide (y < n) && (decide (vO n (tl k) ≤ y) && decide (pl (tO n y) < k))) (vO n (tl k) + 16) := cnt_congr (fun y _ => by
          rw [hm y]
          cases decide (y < n) <;> cases decide (vO n (tl k) ≤ y) <;> rfl)
        rw [e2, cnt_cut (by omega), ← cnt_perm hV, ← cnt_cut (p := fun i => decide (vO n (tl k) < vO n (tl i))) (Nat.le_of_lt hk)]
        refine cnt_congr (fun i hi => ?_)
        have b := hV.1 i hi
        dsimp only at b ⊢
        rw [b.2, Bool.and_comm]
        by_cases c : i < k
        · rw [decide_eq_true c, Bool.true_and, Bool.true_and]
          have : ¬ vO n (tl k) = vO n (tl i) := fun z => by have z1 := hv.2; dsimp only at z1; rw [z, b.2] at z1; omega
          by_cases d : vO n (tl k) < vO n (tl i)
          · rw [decide_eq_true d, decide_eq_true (by omega)]
          · rw [decide_eq_false d, decide_eq_false (by omega)]
        · rw [decide_eq_false c]; rfl
      have s16 : m >>> vO n (tl k) < 65536 := Nat.lt_of_le_of_lt (Nat.shiftRight_le _ _) m16
      have e : ((invN (fun j => vO n (tl j)) k : Nat) : Int) + ((cnt (fun i => decide (vO n (tl k) < vO n (tl i))) k : Nat) : Int) = ((invN (fun j => vO n (tl j)) (k + 1) : Nat) : Int) := by
        rw [← Int.natCast_add]; rfl
      have hgo := ih _ [(4, .int (zI (vO n (tl k) : Int)))] hm' (Or.inr ⟨_, rfl⟩)
      rcases hlv with rfl | ⟨z, rfl⟩ <;>
      · refine jat_ev _ rfl ?_
        simp (disch := omega) only [e_null, e_iconst, e_bipush, e_sipush, e_lconst, e_ldc, e_ldc_w, e_ldc2, e_iload_n, e_iload, e_lload_n, e_lload, e_dload, e_aload_n, e_aload, e_istore_n, e_istore, e_lstore_n, e_lstore, e_dstore, e_astore_n, e_astore, e_iinc, e_iadd, e_isub, e_imul, e_iand, e_ior, e_ixor, e_ishl, e_ishr, e_iushr, e_idiv, e_irem, e_ineg, e_ladd, e_lsub, e_lmul, e_land, e_lor, e_lxor, e_ldiv, e_lrem, e_lshl, e_lushr, e_lcmp, e_i2l, e_l2i, e_dup_int, e_pop_int, e_dup_ref, e_pop_ref, e_dup_retAddr, e_pop_retAddr, e_dup_float, e_pop_float, e_dup_null, e_dup2_ir, e_getfield, e_putfield, e_iaload, e_baload, e_laload, e_aaload, e_iastore, e_bastore, e_lastore, e_arraylength, e_nop, e_goto, e_if_eq, e_icmp_eq, e_if_ne, e_icmp_ne, e_if_lt, e_icmp_lt, e_if_ge, e_icmp_ge, e_if_gt, e_icmp_gt, e_if_le, e_icmp_le, e_ret, e_iret, e_lret, e_fret, e_dret, e_inv, e_invS, e_invI, e_obj, e_min, e_minl, e_new, e_throw, jki_some, jkl_some, jkd_some, jka_ref, jka_scr, jop_some, jgf_some, jlk_nil, jup_nil, jov_nil, jup2_nil, jov2_nil, jcat_int, jcat_long, jcat_ref, jcat_dbl, jcat_scr, jcat_null, if_true, if_false, Option.toList_none, Option.toList_some, List.nil_append, List.singleton_append, List.drop_succ_cons, List.drop_zero, List.cons_append, List.getElem?_cons_zero, List.getElem?_cons_succ, Nat.reduceAdd, Nat.reduceEqDiff, Nat.reduceLT, Nat.reduceMul, Nat.reduceDiv, Nat.reduceMod, Fin.isValue, Fin.val_zero, Fin.val_one, Fin.val_two, jfin3, Nat.succ_ne_self, zI_add, zI_sub, zI_mul, jia_z, jis_z, jla_z, jls_z, jaa_z, jset_ne, and_true, true_and, reduceIte, jlk_hit, jlk_skip, jup_hit, jup_skip, jup_onei, jup_oner, jup_onea, jup_onef, jup_onen, jup_twol, jup_twod, jup2_hit, jup2_skip, jup2_snd, jup2_onei, jup2_oner, jup2_onea, jup2_onef, jup2_onen, jup2_twol, jup2_twod, jov_skip, jov_onei, jov_oner, jov_onea, jov_onef, jov_onen, jov_twol, jov_twod, jov2_skip, jov2_snd, jov2_onei, jov2_oner, jov2_onea, jov2_onef, jov2_onen, jov2_twol, jov2_twod, zA_up, up_cast, up_cast0, up_cast1, up_cast16, up_cast1000000, up_cast1000000000, e_cpy, jcq_z, jal_some, jpf_def, jfit_i, jfit_l, jfit_r, jfit_b, jfit_b0, jfit_b1, nblt, Nat.beq_refl, List.length_cons, List.length_nil, List.set_cons_zero, List.set_cons_succ, Bool.and_self, decide_true, cond_true, List.set_set, jset_self, Option.map_some, natS, Int.toNat_natCast, zL_I, zL_add, zL_sub, zL_mul, zL_0, lc_0, lc_1, lg_c_eq, lg_c_lt, lg_c_ge, lg_c_gt, lg_c_le, zI_L, Option.map_map, Function.comp_def, kb_m2, kb_6, kb_7, kb_8, kb_9, kb_11, kb_13, kb_15, kb_16, kb_20, kb_31, kb_32, kb_36, kb_63, kb_64, kb_100, kb_108, kb_114, kb_117, ks_128, ks_200, ks_255, ks_256, ks_500, ks_720, ks_1000, ks_1001, ks_2880, ks_3002, ks_4101, ks_6561, ks_8202, ks_12345, ks_13122, ks_16383, ks_16384, kl_65616, kl_1000000, kl_252645135, kl_858993459, kl_1000000000, kl_1103515245, kl_1431655765, lv_args, zI_0, zI_eq, zI_lt, zI_le, h1, h2, h3, jm80_nl, jm80_rt, jm80_fr, jm80_lo]
        refine ⟨fun c => absurd c (by omega), fun _ => ?_⟩
        refine jcall_v1 jT_68 h1 (h := valueOf_ok h0 (by omega) hn.1 ⟨_, rfl, ?_⟩)
        simp (disch := omega) only [e_null, e_iconst, e_bipush, e_sipush, e_lconst, e_ldc, e_ldc_w, e_ldc2, e_iload_n, e_iload, e_lload_n, e_lload, e_dload, e_aload_n, e_aload, e_istore_n, e_istore, e_lstore_n, e_lstore, e_dstore, e_astore_n, e_astore, e_iinc, e_iadd, e_isub, e_imul, e_iand, e_ior, e_ixor, e_ishl, e_ishr, e_iushr, e_idiv, e_irem, e_ineg, e_ladd, e_lsub, e_lmul, e_land, e_lor, e_lxor, e_ldiv, e_lrem, e_lshl, e_lushr, e_lcmp, e_i2l, e_l2i, e_dup_int, e_pop_int, e_dup_ref, e_pop_ref, e_dup_retAddr, e_pop_retAddr, e_dup_float, e_pop_float, e_dup_null, e_dup2_ir, e_getfield, e_putfield, e_iaload, e_baload, e_laload, e_aaload, e_iastore, e_bastore, e_lastore, e_arraylength, e_nop, e_goto, e_if_eq, e_icmp_eq, e_if_ne, e_icmp_ne, e_if_lt, e_icmp_lt, e_if_ge, e_icmp_ge, e_if_gt, e_icmp_gt, e_if_le, e_icmp_le, e_ret, e_iret, e_lret, e_fret, e_dret, e_inv, e_invS, e_invI, e_obj, e_min, e_minl, e_new, e_throw, jki_some, jkl_some, jkd_some, jka_ref, jka_scr, jop_some, jgf_some, jlk_nil, jup_nil, jov_nil, jup2_nil, jov2_nil, jcat_int, jcat_long, jcat_ref, jcat_dbl, jcat_scr, jcat_null, if_true, if_false, Option.toList_none, Option.toList_some, List.nil_append, List.singleton_append, List.drop_succ_cons, List.drop_zero, List.cons_append, List.getElem?_cons_zero, List.getElem?_cons_succ, Nat.reduceAdd, Nat.reduceEqDiff, Nat.reduceLT, Nat.reduceMul, Nat.reduceDiv, Nat.reduceMod, Fin.isValue, Fin.val_zero, Fin.val_one, Fin.val_two, jfin3, Nat.succ_ne_self, zI_add, zI_sub, zI_mul, jia_z, jis_z, jla_z, jls_z, jaa_z, jset_ne, and_true, true_and, reduceIte, jlk_hit, jlk_skip, jup_hit, jup_skip, jup_onei, jup_oner, jup_onea, jup_onef, jup_onen, jup_twol, jup_twod, jup2_hit, jup2_skip, jup2_snd, jup2_onei, jup2_oner, jup2_onea, jup2_onef, jup2_onen, jup2_twol, jup2_twod, jov_skip, jov_onei, jov_oner, jov_onea, jov_onef, jov_onen, jov_twol, jov_twod, jov2_skip, jov2_snd, jov2_onei, jov2_oner, jov2_onea, jov2_onef, jov2_onen, jov2_twol, jov2_twod, zA_up, up_cast, up_cast0, up_cast1, up_cast16, up_cast1000000, up_cast1000000000, e_cpy, jcq_z, jal_some, jpf_def, jfit_i, jfit_l, jfit_r, jfit_b, jfit_b0, jfit_b1, nblt, Nat.beq_refl, List.length_cons, List.length_nil, List.set_cons_zero, List.set_cons_succ, Bool.and_self, decide_true, cond_true, List.set_set, jset_self, Option.map_some, natS, Int.toNat_natCast, zL_I, zL_add, zL_sub, zL_mul, zL_0, lc_0, lc_1, lg_c_eq, lg_c_lt, lg_c_ge, lg_c_gt, lg_c_le, zI_L, Option.map_map, Function.comp_def, kb_m2, kb_6, kb_7, kb_8, kb_9, kb_11, kb_13, kb_15, kb_16, kb_20, kb_31, kb_32, kb_36, kb_63, kb_64, kb_100, kb_108, kb_114, kb_117, ks_128, ks_200, ks_255, ks_256, ks_500, ks_720, ks_1000, ks_1001, ks_2880, ks_3002, ks_4101, ks_6561, ks_8202, ks_12345, ks_13122, ks_16383, ks_16384, kl_65616, kl_1000000, kl_252645135, kl_858993459, kl_1000000000, kl_1103515245, kl_1431655765, lv_args, zI_0, zI_eq, zI_lt, zI_le, h1, h2, h3, jm80_nl, jm80_rt, jm80_fr, jm80_lo, zI_ushr]
        refine jcall_s1 jT_0 (h := bitCount_ok s16 ⟨_, rfl, ?_⟩)
        rw [hp]
        simp (disch := omega) only [e_null, e_iconst, e_bipush, e_sipush, e_lconst, e_ldc, e_ldc_w, e_ldc2, e_iload_n, e_iload, e_lload_n, e_lload, e_dload, e_aload_n, e_aload, e_istore_n, e_istore, e_lstore_n, e_lstore, e_dstore, e_astore_n, e_astore, e_iinc, e_iadd, e_isub, e_imul, e_iand, e_ior, e_ixor, e_ishl, e_ishr, e_iushr, e_idiv, e_irem, e_ineg, e_ladd, e_lsub, e_lmul, e_land, e_lor, e_lxor, e_ldiv, e_lrem, e_lshl, e_lushr, e_lcmp, e_i2l, e_l2i, e_dup_int, e_pop_int, e_dup_ref, e_pop_ref, e_dup_retAddr, e_pop_retAddr, e_dup_float, e_pop_float, e_dup_null, e_dup2_ir, e_getfield, e_putfield, e_iaload, e_baload, e_laload, e_aaload, e_iastore, e_bastore, e_lastore, e_arraylength, e_nop, e_goto, e_if_eq, e_icmp_eq, e_if_ne, e_icmp_ne, e_if_lt, e_icmp_lt, e_if_ge, e_icmp_ge, e_if_gt, e_icmp_gt, e_if_le, e_icmp_le, e_ret, e_iret, e_lret, e_fret, e_dret, e_inv, e_invS, e_invI, e_obj, e_min, e_minl, e_new, e_throw, jki_some, jkl_some, jkd_some, jka_ref, jka_scr, jop_some, jgf_some, jlk_nil, jup_nil, jov_nil, jup2_nil, jov2_nil, jcat_int, jcat_long, jcat_ref, jcat_dbl, jcat_scr, jcat_null, if_true, if_false, Option.toList_none, Option.toList_some, List.nil_append, List.singleton_append, List.drop_succ_cons, List.drop_zero, List.cons_append, List.getElem?_cons_zero, List.getElem?_cons_succ, Nat.reduceAdd, Nat.reduceEqDiff, Nat.reduceLT, Nat.reduceMul, Nat.reduceDiv, Nat.reduceMod, Fin.isValue, Fin.val_zero, Fin.val_one, Fin.val_two, jfin3, Nat.succ_ne_self, zI_add, zI_sub, zI_mul, jia_z, jis_z, jla_z, jls_z, jaa_z, jset_ne, and_true, true_and, reduceIte, jlk_hit, jlk_skip, jup_hit, jup_skip, jup_onei, jup_oner, jup_onea, jup_onef, jup_onen, jup_twol, jup_twod, jup2_hit, jup2_skip, jup2_snd, jup2_onei, jup2_oner, jup2_onea, jup2_onef, jup2_onen, jup2_twol, jup2_twod, jov_skip, jov_onei, jov_oner, jov_onea, jov_onef, jov_onen, jov_twol, jov_twod, jov2_skip, jov2_snd, jov2_onei, jov2_oner, jov2_onea, jov2_onef, jov2_onen, jov2_twol, jov2_twod, zA_up, up_cast, up_cast0, up_cast1, up_cast16, up_cast1000000, up_cast1000000000, e_cpy, jcq_z, jal_some, jpf_def, jfit_i, jfit_l, jfit_r, jfit_b, jfit_b0, jfit_b1, nblt, Nat.beq_refl, List.length_cons, List.length_nil, List.set_cons_zero, List.set_cons_succ, Bool.and_self, decide_true, cond_true, List.set_set, jset_self, Option.map_some, natS, Int.toNat_natCast, zL_I, zL_add, zL_sub, zL_mul, zL_0, lc_0, lc_1, lg_c_eq, lg_c_lt, lg_c_ge, lg_c_gt, lg_c_le, zI_L, Option.map_map, Function.comp_def, kb_m2, kb_6, kb_7, kb_8, kb_9, kb_11, kb_13, kb_15, kb_16, kb_20, kb_31, kb_32, kb_36, kb_63, kb_64, kb_100, kb_108, kb_114, kb_117, ks_128, ks_200, ks_255, ks_256, ks_500, ks_720, ks_1000, ks_1001, ks_2880, ks_3002, ks_4101, ks_6561, ks_8202, ks_12345, ks_13122, ks_16383, ks_16384, kl_65616, kl_1000000, kl_252645135, kl_858993459, kl_1000000000, kl_1103515245, kl_1431655765, lv_args, zI_0, zI_eq, zI_lt, zI_le, h1, h2, h3, jm80_nl, jm80_rt, jm80_fr, jm80_lo, e, shl1, zI_or]
        exact hgo
    · intro m lv hm hlv
      rcases hlv with rfl | ⟨z, rfl⟩ <;>
      · refine jat_ev _ rfl ?_
        simp (disch := omega) only [e_null, e_iconst, e_bipush, e_sipush, e_lconst, e_ldc, e_ldc_w, e_ldc2, e_iload_n, e_iload, e_lload_n, e_lload, e_dload, e_aload_n, e_aload, e_istore_n, e_istore, e_lstore_n, e_lstore, e_dstore, e_astore_n, e_astore, e_iinc, e_iadd, e_isub, e_imul, e_iand, e_ior, e_ixor, e_ishl, e_ishr, e_iushr, e_idiv, e_irem, e_ineg, e_ladd, e_lsub, e_lmul, e_land, e_lor, e_lxor, e_ldiv, e_lrem, e_lshl, e_lushr, e_lcmp, e_i2l, e_l2i, e_dup_int, e_pop_int, e_dup_ref, e_pop_ref, e_dup_retAddr, e_pop_retAddr, e_dup_float, e_pop_float, e_dup_null, e_dup2_ir, e_getfield, e_putfield, e_iaload, e_baload, e_laload, e_aaload, e_iastore, e_bastore, e_lastore, e_arraylength, e_nop, e_goto, e_if_eq, e_icmp_eq, e_if_ne, e_icmp_ne, e_if_lt, e_icmp_lt, e_if_ge, e_icmp_ge, e_if_gt, e_icmp_gt, e_if_le, e_icmp_le, e_ret, e_iret, e_lret, e_fret, e_dret, e_inv, e_invS, e_invI, e_obj, e_min, e_minl, e_new, e_throw, jki_some, jkl_some, jkd_some, jka_ref, jka_scr, jop_some, jgf_some, jlk_nil, jup_nil, jov_nil, jup2_nil, jov2_nil, jcat_int, jcat_long, jcat_ref, jcat_dbl, jcat_scr, jcat_null, if_true, if_false, Option.toList_none, Option.toList_some, List.nil_append, List.singleton_append, List.drop_succ_cons, List.drop_zero, List.cons_append, List.getElem?_cons_zero, List.getElem?_cons_succ, Nat.reduceAdd, Nat.reduceEqDiff, Nat.reduceLT, Nat.reduceMul, Nat.reduceDiv, Nat.reduceMod, Fin.isValue, Fin.val_zero, Fin.val_one, Fin.val_two, jfin3, Nat.succ_ne_self, zI_add, zI_sub, zI_mul, jia_z, jis_z, jla_z, jls_z, jaa_z, jset_ne, and_true, true_and, reduceIte, jlk_hit, jlk_skip, jup_hit, jup_skip, jup_onei, jup_oner, jup_onea, jup_onef, jup_onen, jup_twol, jup_twod, jup2_hit, jup2_skip, jup2_snd, jup2_onei, jup2_oner, jup2_onea, jup2_onef, jup2_onen, jup2_twol, jup2_twod, jov_skip, jov_onei, jov_oner, jov_onea, jov_onef, jov_onen, jov_twol, jov_twod, jov2_skip, jov2_snd, jov2_onei, jov2_oner, jov2_onea, jov2_onef, jov2_onen, jov2_twol, jov2_twod, zA_up, up_cast, up_cast0, up_cast1, up_cast16, up_cast1000000, up_cast1000000000, e_cpy, jcq_z, jal_some, jpf_def, jfit_i, jfit_l, jfit_r, jfit_b, jfit_b0, jfit_b1, nblt, Nat.beq_refl, List.length_cons, List.length_nil, List.set_cons_zero, List.set_cons_succ, Bool.and_self, decide_true, cond_true, List.set_set, jset_self, Option.map_some, natS, Int.toNat_natCast, zL_I, zL_add, zL_sub, zL_mul, zL_0, lc_0, lc_1, lg_c_eq, lg_c_lt, lg_c_ge, lg_c_gt, lg_c_le, zI_L, Option.map_map, Function.comp_def, kb_m2, kb_6, kb_7, kb_8, kb_9, kb_11, kb_13, kb_15, kb_16, kb_20, kb_31, kb_32, kb_36, kb_63, kb_64, kb_100, kb_108, kb_114, kb_117, ks_128, ks_200, ks_255, ks_256, ks_500, ks_720, ks_1000, ks_1001, ks_2880, ks_3002, ks_4101, ks_6561, ks_8202, ks_12345, ks_13122, ks_16383, ks_16384, kl_65616, kl_1000000, kl_252645135, kl_858993459, kl_1000000000, kl_1103515245, kl_1431655765, lv_args, zI_0, zI_eq, zI_lt, zI_le, h1, h2, h3, jm80_nl, jm80_rt, jm80_fr, jm80_lo]
        refine ⟨fun _ => ?_, fun c => absurd (by omega) c⟩
        refine jat_ev _ rfl ?_
        simp (disch := omega) only [e_null, e_iconst, e_bipush, e_sipush, e_lconst, e_ldc, e_ldc_w, e_ldc2, e_iload_n, e_iload, e_lload_n, e_lload, e_dload, e_aload_n, e_aload, e_istore_n, e_istore, e_lstore_n, e_lstore, e_dstore, e_astore_n, e_astore, e_iinc, e_iadd, e_isub, e_imul, e_iand, e_ior, e_ixor, e_ishl, e_ishr, e_iushr, e_idiv, e_irem, e_ineg, e_ladd, e_lsub, e_lmul, e_land, e_lor, e_lxor, e_ldiv, e_lrem, e_lshl, e_lushr, e_lcmp, e_i2l, e_l2i, e_dup_int, e_pop_int, e_dup_ref, e_pop_ref, e_dup_retAddr, e_pop_retAddr, e_dup_float, e_pop_float, e_dup_null, e_dup2_ir, e_getfield, e_putfield, e_iaload, e_baload, e_laload, e_aaload, e_iastore, e_bastore, e_lastore, e_arraylength, e_nop, e_goto, e_if_eq, e_icmp_eq, e_if_ne, e_icmp_ne, e_if_lt, e_icmp_lt, e_if_ge, e_icmp_ge, e_if_gt, e_icmp_gt, e_if_le, e_icmp_le, e_ret, e_iret, e_lret, e_fret, e_dret, e_inv, e_invS, e_invI, e_obj, e_min, e_minl, e_new, e_throw, jki_some, jkl_some, jkd_some, jka_ref, jka_scr, jop_some, jgf_some, jlk_nil, jup_nil, jov_nil, jup2_nil, jov2_nil, jcat_int, jcat_long, jcat_ref, jcat_dbl, jcat_scr, jcat_null, if_true, if_false, Option.toList_none, Option.toList_some, List.nil_append, List.singleton_append, List.drop_succ_cons, List.drop_zero, List.cons_append, List.getElem?_cons_zero, List.getElem?_cons_succ, Nat.reduceAdd, Nat.reduceEqDiff, Nat.reduceLT, Nat.reduceMul, Nat.reduceDiv, Nat.reduceMod, Fin.isValue, Fin.val_zero, Fin.val_one, Fin.val_two, jfin3, Nat.succ_ne_self, zI_add, zI_sub, zI_mul, jia_z, jis_z, jla_z, jls_z, jaa_z, jset_ne, and_true, true_and, reduceIte, jlk_hit, jlk_skip, jup_hit, jup_skip, jup_onei, jup_oner, jup_onea, jup_onef, jup_onen, jup_twol, jup_twod, jup2_hit, jup2_skip, jup2_snd, jup2_onei, jup2_oner, jup2_onea, jup2_onef, jup2_onen, jup2_twol, jup2_twod, jov_skip, jov_onei, jov_oner, jov_onea, jov_onef, jov_onen, jov_twol, jov_twod, jov2_skip, jov2_snd, jov2_onei, jov2_oner, jov2_onea, jov2_onef, jov2_onen, jov2_twol, jov2_twod, zA_up, up_cast, up_cast0, up_cast1, up_cast16, up_cast1000000, up_cast1000000000, e_cpy, jcq_z, jal_some, jpf_def, jfit_i, jfit_l, jfit_r, jfit_b, jfit_b0, jfit_b1, nblt, Nat.beq_refl, List.length_cons, List.length_nil, List.set_cons_zero, List.set_cons_succ, Bool.and_self, decide_true, cond_true, List.set_set, jset_self, Option.map_some, natS, Int.toNat_natCast, zL_I, zL_add, zL_sub, zL_mul, zL_0, lc_0, lc_1, lg_c_eq, lg_c_lt, lg_c_ge, lg_c_gt, lg_c_le, zI_L, Option.map_map, Function.comp_def, kb_m2, kb_6, kb_7, kb_8, kb_9, kb_11, kb_13, kb_15, kb_16, kb_20, kb_31, kb_32, kb_36, kb_63, kb_64, kb_100, kb_108, kb_114, kb_117, ks_128, ks_200, ks_255, ks_256, ks_500, ks_720, ks_1000, ks_1001, ks_2880, ks_3002, ks_4101, ks_6561, ks_8202, ks_12345, ks_13122, ks_16383, ks_16384, kl_65616, kl_1000000, kl_252645135, kl_858993459, kl_1000000000, kl_1103515245, kl_1431655765, lv_args, zI_0, zI_eq, zI_lt, zI_le, h1, h2, h3, jm80_nl, jm80_rt, jm80_fr, jm80_lo]
        exact ⟨Or.inl trivial, hQ⟩
  refine jat_ev _ rfl ?_
  simp (disch := omega) only [e_null, e_iconst, e_bipush, e_sipush, e_lconst, e_ldc, e_ldc_w, e_ldc2, e_iload_n, e_iload, e_lload_n, e_lload, e_dload, e_aload_n, e_aload, e_istore_n, e_istore, e_lstore_n, e_lstore, e_dstore, e_astore_n, e_astore, e_iinc, e_iadd, e_isub, e_imul, e_iand, e_ior, e_ixor, e_ishl, e_ishr, e_iushr, e_idiv, e_irem, e_ineg, e_ladd, e_lsub, e_lmul, e_land, e_lor, e_lxor, e_ldiv, e_lrem, e_lshl, e_lushr, e_lcmp, e_i2l, e_l2i, e_dup_int, e_pop_int, e_dup_ref, e_pop_ref, e_dup_retAddr, e_pop_retAddr, e_dup_float, e_pop_float, e_dup_null, e_dup2_ir, e_getfield, e_putfield, e_iaload, e_baload, e_laload, e_aaload, e_iastore, e_bastore, e_lastore, e_arraylength, e_nop, e_goto, e_if_eq, e_icmp_eq, e_if_ne, e_icmp_ne, e_if_lt, e_icmp_lt, e_if_ge, e_icmp_ge, e_if_gt, e_icmp_gt, e_if_le, e_icmp_le, e_ret, e_iret, e_lret, e_fret, e_dret, e_inv, e_invS, e_invI, e_obj, e_min, e_minl, e_new, e_throw, jki_some, jkl_some, jkd_some, jka_ref, jka_scr, jop_some, jgf_some, jlk_nil, jup_nil, jov_nil, jup2_nil, jov2_nil, jcat_int, jcat_long, jcat_ref, jcat_dbl, jcat_scr, jcat_null, if_true, if_false, Option.toList_none, Option.toList_some, List.nil_append, List.singleton_append, List.drop_succ_cons, List.drop_zero, List.cons_append, List.getElem?_cons_zero, List.getElem?_cons_succ, Nat.reduceAdd, Nat.reduceEqDiff, Nat.reduceLT, Nat.reduceMul, Nat.reduceDiv, Nat.reduceMod, Fin.isValue, Fin.val_zero, Fin.val_one, Fin.val_two, jfin3, Nat.succ_ne_self, zI_add, zI_sub, zI_mul, jia_z, jis_z, jla_z, jls_z, jaa_z, jset_ne, and_true, true_and, reduceIte, jlk_hit, jlk_skip, jup_hit, jup_skip, jup_onei, jup_oner, jup_onea, jup_onef, jup_onen, jup_twol, jup_twod, jup2_hit, jup2_skip, jup2_snd, jup2_onei, jup2_oner, jup2_onea, jup2_onef, jup2_onen, jup2_twol, jup2_twod, jov_skip, jov_onei, jov_oner, jov_onea, jov_onef, jov_onen, jov_twol, jov_twod, jov2_skip, jov2_snd, jov2_onei, jov2_oner, jov2_onea, jov2_onef, jov2_onen, jov2_twol, jov2_twod, zA_up, up_cast, up_cast0, up_cast1, up_cast16, up_cast1000000, up_cast1000000000, e_cpy, jcq_z, jal_some, jpf_def, jfit_i, jfit_l, jfit_r, jfit_b, jfit_b0, jfit_b1, nblt, Nat.beq_refl, List.length_cons, List.length_nil, List.set_cons_zero, List.set_cons_succ, Bool.and_self, decide_true, cond_true, List.set_set, jset_self, Option.map_some, natS, Int.toNat_natCast, zL_I, zL_add, zL_sub, zL_mul, zL_0, lc_0, lc_1, lg_c_eq, lg_c_lt, lg_c_ge, lg_c_gt, lg_c_le, zI_L, Option.map_map, Function.comp_def, kb_m2, kb_6, kb_7, kb_8, kb_9, kb_11, kb_13, kb_15, kb_16, kb_20, kb_31, kb_32, kb_36, kb_63, kb_64, kb_100, kb_108, kb_114, kb_117, ks_128, ks_200, ks_255, ks_256, ks_500, ks_720, ks_1000, ks_1001, ks_2880, ks_3002, ks_4101, ks_6561, ks_8202, ks_12345, ks_13122, ks_16383, ks_16384, kl_65616, kl_1000000, kl_252645135, kl_858993459, kl_1000000000, kl_1103515245, kl_1431655765, lv_args, zI_0, zI_eq, zI_lt, zI_le, h1, h2, h3, jm80_nl, jm80_rt, jm80_fr, jm80_lo]
  exact L 0 (Nat.zero_le _) 0 [] (fun x => by rw [Nat.zero_testBit, decide_eq_false (Nat.not_lt_zero _), Bool.and_false]) (Or.inl rfl)
