theorem jfin3 : (3 : Fin 4).val = 3 := rfl
/-- the array of integers g -/
abbrev zA (n : Nat) (g : Nat → Int) : jC := .inl (0, n, .inl fun j => zI (g j))
def up (g : Nat → Int) (k : Nat) (v : Int) : Nat → Int := fun j => if j = k then v else g j
theorem zA_up (g : Nat → Int) (k : Nat) (v : Int) : upd (fun j => zI (g j)) k (zI v) = fun j => zI (up g k v j) := by
  funext j
  unfold upd up
  split <;> rfl
/-- a lie at cell a: n places, tile on each, place of each, packed -/
def LieAt (w : jW) (a : Nat) (n : Int) (tl pl : Nat → Int) (pk : Int64) : Prop :=
  w[a]? = some (.inr (7, [.ref (a + 1), .ref (a + 2), .int (zI n), .long pk])) ∧ w[a + 1]? = some (zA 16 tl) ∧ w[a + 2]? = some (zA 16 pl)
theorem put_ok {w : jW} {a : Nat} {n : Int} {tl pl : Nat → Int} {pk : Int64} (h : LieAt w a n tl pl pk) {t p : Int} (ht : 0 ≤ t ∧ t < 16) (hp : 0 ≤ p ∧ p < 16) {Q : (Option Value ⊕ Nat) → jW → Prop}
    (hQ : Q (.inl none) ((w.set (a + 1) (zA 16 (up tl p.toNat t))).set (a + 2) (zA 16 (up pl t.toNat p)))) : jmw jm71 [.ref a, .int (zI t), .int (zI p)] w Q := by
  obtain ⟨h1, h2, h3⟩ := h
  refine jat_ev _ rfl ?_
  simp only [lv_args, jcat_ref, jcat_int, if_false, if_true, Nat.reduceEqDiff, Nat.reduceAdd]
  simp (disch := omega) only [e_null, e_iconst, e_bipush, e_sipush, e_lconst, e_ldc, e_ldc_w, e_ldc2, e_iload_n, e_iload, e_lload_n, e_lload, e_dload, e_aload_n, e_aload, e_istore_n, e_istore, e_lstore_n, e_lstore, e_dstore, e_astore_n, e_astore, e_iinc, e_iadd, e_isub, e_imul, e_iand, e_ior, e_ixor, e_ishl, e_ishr, e_iushr, e_idiv, e_irem, e_ineg, e_ladd, e_lsub, e_lmul, e_land, e_lor, e_lxor, e_ldiv, e_lrem, e_lshl, e_lushr, e_lcmp, e_i2l, e_l2i, e_dup_int, e_pop_int, e_dup_ref, e_pop_ref, e_dup_retAddr, e_pop_retAddr, e_dup_float, e_pop_float, e_dup_null, e_dup2_ir, e_getfield, e_putfield, e_iaload, e_baload, e_laload, e_aaload, e_iastore, e_bastore, e_lastore, e_arraylength, e_nop, e_goto, e_if_eq, e_icmp_eq, e_if_ne, e_icmp_ne, e_if_lt, e_icmp_lt, e_if_ge, e_icmp_ge, e_if_gt, e_icmp_gt, e_if_le, e_icmp_le, e_ret, e_iret, e_lret, e_fret, e_dret, e_inv, e_invS, e_invI, e_obj, e_min, e_minl, e_new, e_throw, jki_some, jkl_some, jkd_some, jka_ref, jka_scr, jop_some, jgf_some, jpf_some, jlk_cons, jlk_nil, jup_cons, jup_nil, jov_cons, jov_nil, jup2_cons, jup2_nil, jov2_cons, jov2_nil, jcat_int, jcat_long, jcat_ref, jcat_dbl, jcat_scr, jcat_null, if_true, if_false, Option.toList_none, Option.toList_some, List.nil_append, List.singleton_append, List.drop_succ_cons, List.drop_zero, List.cons_append, List.getElem?_cons_zero, List.getElem?_cons_succ, Nat.reduceAdd, Nat.reduceEqDiff, Nat.reduceLT, Nat.reduceMul, Nat.reduceDiv, Nat.reduceMod, Fin.isValue, Fin.val_zero, Fin.val_one, Fin.val_two, jfin3, Nat.succ_ne_self, zI_add, zI_sub, zI_mul, jia_z, jis_z, jla_z, jls_z, jaa_z, jset_eq, jset_ne, and_true, true_and, reduceIte, h1, h2, h3, jm71_nl, jm71_rt, jm71_fr, jm71_lo, zA_up]
  exact hQ
