/-! each plain instruction of the pure machine is one of the machine -/
def jlen : Instr → Nat := fun i => match i with
  | .iload _ => 2 | .lload _ => 2 | .dload _ => 2 | .aload _ => 2 | .istore _ => 2 | .lstore _ => 2 | .dstore _ => 2 | .astore _ => 2
  | .bipush _ => 2 | .ldc _ => 2 | .newarray _ => 2
  | .sipush _ => 3 | .ldc_w _ => 3 | .ldc2_w _ => 3 | .iinc _ _ => 3 | .getfield _ => 3 | .putfield _ => 3 | .new _ => 3 | .anewarray _ => 3 | .goto _ => 3 | .ifCond _ _ => 3 | .if_icmp _ _ => 3
  | .invokevirtual _ => 3 | .invokespecial _ => 3 | .invokestatic _ => 3
  | .multianewarray _ _ => 4
  | _ => 1
def jok (Ts NW : List Cond) (own : String) (ini : Prop) (i : Instr) (a b : Nat) : Prop := match i with
  | .getfield idx => ∃ r : vw_C, vwCl[a]? = some r ∧ b < r.2.2 ∧ (∀ w ∈ u_ws r.1 r.2.1 r.2.2, w ∈ Ts) ∧ Cond.fieldLink own idx (r.2.1 b).1 (r.2.1 b).2.1 (r.2.1 b).2.2.1 ∈ Ts
  | .putfield idx => ∃ (r : vw_C) (ty : FieldType), vwCl[a / 4]? = some r ∧ b < r.2.2 ∧ (∀ w ∈ u_ws r.1 r.2.1 r.2.2, w ∈ Ts) ∧ Cond.fieldLink own idx (r.2.1 b).1 (r.2.1 b).2.1 (r.2.1 b).2.2.1 ∈ Ts ∧ parseFieldDescriptor (r.2.1 b).2.2.1 = some ty ∧ jtc ty = a % 4 ∧ ((r.2.1 b).2.2.2 = true → ini ∧ (r.2.1 b).1 = own)
  | .ldc idx => Cond.constant own idx (Int32.ofNat a) ∈ Ts
  | .ldc_w idx => Cond.constant own idx (Int32.ofNat a) ∈ Ts
  | .ldc2_w idx => Cond.constantLong own idx (Int64.ofNat a) ∈ Ts
  | .new idx => ∃ r : vw_C, vwCl[a]? = some r ∧ (∀ w ∈ u_ws r.1 r.2.1 r.2.2, w ∈ Ts) ∧ Cond.classLink own idx r.1 ∈ Ts ∧ Cond.instantiable r.1 r.2.2 ∈ Ts ∧ Cond.initialized r.1 ∈ Ts
  | .newarray ty => Cond.arrayClass (newarray.typeOf ty) ∈ Ts
  | .anewarray idx => ∃ C : String, jaty[a]? = some (.object C) ∧ Cond.classLink own idx C ∈ Ts ∧ Cond.arrayOver (.object C) ∈ NW
  | .multianewarray idx _ => Cond.classLink own idx "[[I" ∈ Ts ∧ Cond.arrayClass .int ∈ Ts ∧ Cond.arrayOver (.array .int) ∈ NW
  | _ => True
theorem jfit_ok {sb : Option Nat} {ads : List Nat} {ty : FieldType} {v v' : Value} (h : jfit (jtc ty) v = true) (hv : jV sb ads v v') : narrow ty v' = v' ∧ fits ty v' = true := by
  cases ty <;> cases v <;> simp [jfit, jtc] at h <;> first
    | (cases hv; exact ⟨rfl, rfl⟩)
    | (obtain ⟨a, -, rfl⟩ := hv; exact ⟨rfl, rfl⟩)
    | (cases hv; rcases h with rfl | rfl <;> exact ⟨by decide, by decide⟩)
def jAt (sb : Option Nat) (dA : Nat → ClassId) (D : va_G) (A : Nat → Prop) (H0 : Heap) (ads : List Nat) (w : jW) (ws : va_W) (H : Heap) (locs : List Loc) : Prop :=
  jWR sb ads dA w ws ∧ va_P D vwCl ws H ∧ va_D A ws ∧ va_S A H0 H locs
def jNW (NW : List Cond) (U : State) : Prop := ∀ w ∈ NW, va_Nw w U
theorem jtys_at {dA : Nat → ClassId} {t : Nat} {ty : FieldType} (h : jaty[t]? = some ty) : (jtl dA)[t]? = some (dA t, ty) := by
  match t, h with
  | 0, h => cases (Option.some.inj h); rfl
  | 1, h => cases (Option.some.inj h); rfl
  | 2, h => cases (Option.some.inj h); rfl
  | 3, h => cases (Option.some.inj h); rfl
  | 4, h => cases (Option.some.inj h); rfl
  | 5, h => cases (Option.some.inj h); rfl
  | 6, h => cases (Option.some.inj h); rfl
  | n + 7, h => simp at h
theorem jnew_ty {D : va_G} {dA : Nat → ClassId} {s : State} {cA : ClassId} {t : Nat} {ty : FieldType} (hK : va_K D vwCl (jtl dA) s) (h : va_K D vwCl (jtl dA ++ [(cA, ty)]) s) (ht : jaty[t]? = some ty) : cA = dA t :=
  jRA_one (h.2 7 (cA, ty) rfl).2 (hK.2 t (dA t, ty) (jtys_at ht)).2
theorem jV_rf {sb : Option Nat} {ads : List Nat} {o o' : Option Nat} (h : jOp ads o o') : jV sb ads (va_rf o) (va_rf o') := by
  cases o with
  | none => cases h; rfl
  | some k => obtain ⟨a, h1, rfl⟩ := h; exact ⟨a, h1, rfl⟩
theorem jOp_up {ads : List Nat} {f f' : Nat → Option Nat} {k j v a : Nat} (h : jOp ads (f j) (f' j)) (ha : ads[v]? = some a) : jOp ads (va_up f k (some v) j) (va_up f' k (some a) j) := by
  unfold va_up
  by_cases e : j = k
  · rw [if_pos e, if_pos e]; exact ⟨a, ha, rfl⟩
  · rw [if_neg e, if_neg e]; exact h
theorem jnneg {n : Int32} (h : 0 ≤ n.toInt) : ¬ n < 0 := by
  rw [Int32.lt_iff_toInt_lt]
  have : (0 : Int32).toInt = 0 := rfl
  omega
theorem jS_plain (sb : Option Nat) (ads : List Nat) : ∀ {st : List Value}, (∀ v ∈ st, jV sb ads v v) → jS sb ads st st
  | [], _ => trivial
  | _ :: _, h => ⟨h _ List.mem_cons_self, jS_plain sb ads fun v hv => h v (List.mem_cons_of_mem _ hv)⟩
theorem jdf_plain : ∀ a : Nat, (jdf a).all (fun v => decide (v = .null ∨ v = .int 0 ∨ v = .long 0)) = true := by
  intro a
  unfold jdf
  split <;> decide +kernel
theorem jS_df (sb : Option Nat) (ads : List Nat) (a : Nat) : jS sb ads (jdf a) (jdf a) := by
  apply jS_plain
  intro v hv
  rcases of_decide_eq_true (List.all_eq_true.mp (jdf_plain a) v hv) with rfl | rfl | rfl <;> exact rfl
theorem jWR_app {sb : Option Nat} {ads l9 : List Nat} {dA : Nat → ClassId} {w cs : jW} {ws ws9 : va_W} (h : jWR sb ads dA w ws) (h1 : l9.length = cs.length) (h2 : ws9.length = cs.length) (h3 : ∀ (k : Nat) (c : jC), cs[k]? = some c → ∃ (a : Nat) (e : va_E), l9[k]? = some a ∧ ws9[k]? = some (a, e) ∧ jE sb (ads ++ l9) dA c e) : jWR sb (ads ++ l9) dA (w ++ cs) (ws ++ ws9) := by
  refine ⟨by simp [h.1, h1], by simp [h.2.1, h2], fun j c' hj => ?_⟩
  by_cases hl : j < w.length
  · rw [List.getElem?_append_left hl] at hj
    obtain ⟨a', e', g1, g2, g3⟩ := h.2.2 j c' hj
    exact ⟨a', e', jad g1, by rw [List.getElem?_append_left (by rw [h.2.1]; exact hl)]; exact g2, jE_mono l9 g3⟩
  · rw [List.getElem?_append_right (by omega)] at hj
    obtain ⟨a, e, g1, g2, g3⟩ := h3 _ _ hj
    exact ⟨a, e, by rw [List.getElem?_append_right (by rw [h.1]; omega), h.1]; exact g1, by rw [List.getElem?_append_right (by rw [h.2.1]; omega), h.2.1]; exact g2, g3⟩
theorem jrep (n k : Nat) (f : Nat → Int32) : jsl (List.replicate n (.inl (0, k, .inl f) : jC)) = n * k := by
  induction n with
  | zero => simp [jsl]
  | succ n ih => simp only [jsl, List.replicate_succ, List.map_cons, List.sum_cons] at ih ⊢; rw [ih, Nat.succ_mul]; simp only [jcs]; omega
section JST
variable {p : Program} {l : Launch} {e : Env} {R : Room} {s : State} {m : MethodId} {args : Array Value} {below : List Frame} {meth : Method} {c : Code} {H : Heap} {locs : List Loc} {cells slots : Nat} {Q : State → Prop}
variable {cc : ByteArray} {pc : Nat} {ls : Array Slot} {D : va_G} {A : Nat → Prop} {H0 : Heap} {Ts NW : List Cond} {own : String} {sb : Option Nat} {dA : Nat → ClassId} {ads : List Nat} {stc : List Value} {wsc : va_W}
set_option maxHeartbeats 4000000 in
theorem jstep_ok (hx : p.tables.exec = Jvm.exec) (hb : c.code = cc) (hown : s.vm.findClass own = some m.cls) (hts : ∀ w ∈ Ts, w.before args s = true) (hNW : jNW NW s) (hK : va_K D vwCl (jtl dA) s)
    {scr : Option (Nat × (Nat → Int32))} (hX : ∀ q, scr = some q → ∃ b0, sb = some b0 ∧ va_X b0 q.1 q.2 s H0 ∧ b0 < H0.size ∧ ¬ A b0) (hAA : ∀ q, H0.size ≤ q → A q)
    {i : Instr} {a b len nl : Nat} (hok : jok Ts NW own (meth.name = "<init>") i a b) (hlen : len = jlen i) (hd : decode cc pc = .ok (i, len))
    {lv lv' : jL} {st st' : List Value} {w w' : jW} (h : jstep scr nl i a b lv st w = some (lv', st', w')) (hH : jH sb ads ls nl lv) (hS : jS sb ads st stc) (hA : jAt sb dA D A H0 ads w wsc H locs)
    (hc : cells + w'.length ≤ R.cells + w.length) (hs : slots + jsl w' ≤ R.slots + jsl w)
    (kk : ∀ (l9 : List Nat) (ls' : Array Slot) (stc' : List Value) (wsc' : va_W) (H' : Heap) (locs' : List Loc) (cells' slots' : Nat), jH sb (ads ++ l9) ls' nl lv' → jS sb (ads ++ l9) st' stc' → jAt sb dA D A H0 (ads ++ l9) w' wsc' H' locs' → cells' + w.length = cells + w'.length → slots' + jsl w = slots + jsl w' →
      W p l e R s m args below meth c H' locs' cells' slots' Q (F0 m (pc + len) ls' stc')) : W p l e R s m args below meth c H locs cells slots Q (F0 m pc ls stc) := by
  subst hlen
  have kp : ∀ (stc' : List Value), lv' = lv → w' = w → jS sb ads st' stc' → W p l e R s m args below meth c H locs cells slots Q (F0 m (pc + jlen i) ls stc') := by
    intro stc' e1 e2 h9
    subst e1; subst e2
    exact kk [] ls stc' wsc H locs cells slots (jH_mono [] hH) (jS_mono [] h9) (by rw [List.append_nil]; exact hA) rfl rfl
  have kl : ∀ (ls' : Array Slot) (stc' : List Value), w' = w → jH sb ads ls' nl lv' → jS sb ads st' stc' → W p l e R s m args below meth c H locs cells slots Q (F0 m (pc + jlen i) ls' stc') := by
    intro ls' stc' e2 h8 h9
    subst e2
    exact kk [] ls' stc' wsc H locs cells slots (jH_mono [] h8) (jS_mono [] h9) (by rw [List.append_nil]; exact hA) rfl rfl
  have kw : ∀ (stc' : List Value) (wsc' : va_W) (H' : Heap) (locs' : List Loc), lv' = lv → jS sb ads st' stc' → jAt sb dA D A H0 ads w' wsc' H' locs' → w'.length = w.length → jsl w' = jsl w → W p l e R s m args below meth c H' locs' cells slots Q (F0 m (pc + jlen i) ls stc') := by
    intro stc' wsc' H' locs' e1 h9 h7 e3 e4
    subst e1
    exact kk [] ls stc' wsc' H' locs' cells slots (jH_mono [] hH) (jS_mono [] h9) (by rw [List.append_nil]; exact h7) (by rw [e3]) (by rw [e4])
  obtain ⟨hW, hP, hD, hS0⟩ := hA
  cases i with
  | aconst_null =>
    cases h
    exact lv_null hx hb hd (kp (.null :: stc) rfl rfl ⟨rfl, hS⟩)
  | iconst n =>
    cases h
    exact lv_iconst hx hb hd rfl (kp (_ :: stc) rfl rfl ⟨rfl, hS⟩)
  | bipush n =>
    cases h
    exact lv_bipush hx hb hd rfl (kp (_ :: stc) rfl rfl ⟨rfl, hS⟩)
  | sipush n =>
    cases h
    exact lv_sipush hx hb hd rfl (kp (_ :: stc) rfl rfl ⟨rfl, hS⟩)
  | lconst n =>
    cases h
    exact lv_lconst hx hb hd rfl (kp (_ :: stc) rfl rfl ⟨rfl, hS⟩)
  | fconst n =>
    simp only [jstep] at h
    split at h
    · next e0 =>
      subst e0
      cases h
      exact lv_fconst0 hx hb hd (kp (_ :: stc) rfl rfl ⟨rfl, hS⟩)
    · cases h
  | ldc n =>
    cases h
    exact lv_ldc hx hb hown (hts _ hok) hd (kp (_ :: stc) rfl rfl ⟨rfl, hS⟩)
  | ldc_w n =>
    cases h
    exact lv_ldcw hx hb hown (hts _ hok) hd (kp (_ :: stc) rfl rfl ⟨rfl, hS⟩)
  | ldc2_w n =>
    cases h
    exact lv_ldc2 hx hb hown (hts _ hok) hd (kp (_ :: stc) rfl rfl ⟨rfl, hS⟩)
  | iload_n k =>
    simp only [jstep] at h
    split at h
    · next x e0 =>
      cases h
      obtain ⟨v9, h1, h2⟩ := jlk_at hH e0
      cases h2
      exact lv_iload_n hx hb hd rfl h1 (kp (_ :: stc) rfl rfl ⟨rfl, hS⟩)
    · cases h
  | iload k =>
    simp only [jstep] at h
    split at h
    · next x e0 =>
      cases h
      obtain ⟨v9, h1, h2⟩ := jlk_at hH e0
      cases h2
      exact lv_iload hx hb hd h1 (kp (_ :: stc) rfl rfl ⟨rfl, hS⟩)
    · cases h
  | lload_n k =>
    simp only [jstep] at h
    split at h
    · next x e0 =>
      cases h
      obtain ⟨v9, h1, h2⟩ := jlk_at hH e0
      cases h2
      exact lv_lload_n hx hb hd rfl h1 (kp (_ :: stc) rfl rfl ⟨rfl, hS⟩)
    · cases h
  | lload k =>
    simp only [jstep] at h
    split at h
    · next x e0 =>
      cases h
      obtain ⟨v9, h1, h2⟩ := jlk_at hH e0
      cases h2
      exact lv_lload hx hb hd h1 (kp (_ :: stc) rfl rfl ⟨rfl, hS⟩)
    · cases h
  | dload k =>
    simp only [jstep] at h
    split at h
    · next x e0 =>
      cases h
      obtain ⟨v9, h1, h2⟩ := jlk_at hH e0
      cases h2
      exact lv_dload hx hb hd h1 (kp (_ :: stc) rfl rfl ⟨rfl, hS⟩)
    · cases h
  | aload_n k =>
    simp only [jstep] at h
    split at h
    · next x e0 =>
      cases h
      obtain ⟨v9, h1, h2⟩ := jlk_at hH e0
      obtain ⟨a9, h3, rfl⟩ := h2
      exact lv_aload_n hx hb hd rfl h1 (kp (_ :: stc) rfl rfl ⟨⟨a9, h3, rfl⟩, hS⟩)
    · next x e0 =>
      cases h
      obtain ⟨v9, h1, h2⟩ := jlk_at hH e0
      obtain ⟨a9, h3, rfl⟩ := h2
      exact lv_aload_n hx hb hd rfl h1 (kp (_ :: stc) rfl rfl ⟨⟨a9, h3, rfl⟩, hS⟩)
    · cases h
  | aload k =>
    simp only [jstep] at h
    split at h
    · next x e0 =>
      cases h
      obtain ⟨v9, h1, h2⟩ := jlk_at hH e0
      obtain ⟨a9, h3, rfl⟩ := h2
      exact lv_aload hx hb hd h1 (kp (_ :: stc) rfl rfl ⟨⟨a9, h3, rfl⟩, hS⟩)
    · next x e0 =>
      cases h
      obtain ⟨v9, h1, h2⟩ := jlk_at hH e0
      obtain ⟨a9, h3, rfl⟩ := h2
      exact lv_aload hx hb hd h1 (kp (_ :: stc) rfl rfl ⟨⟨a9, h3, rfl⟩, hS⟩)
    · cases h
  | istore_n k =>
    simp only [jstep] at h
    split at h
    · next x r =>
      cases e0 : Nat.blt (k.val) nl with
      | true =>
        rw [e0] at h
        cases h
        obtain ⟨r9, rfl, hS1⟩ := jS_int hS
        obtain ⟨lc, hl1, hl2⟩ := hH
        exact lv_istore_n hx hb hd rfl hl1 (Nat.blt_eq.mp e0) rfl (fun ls9 h9 => kl ls9 r9 rfl ⟨_, h9, jst1_ok hl2 _ rfl⟩ hS1)
      | false => rw [e0] at h; cases h
    · cases h
  | istore k =>
    simp only [jstep] at h
    split at h
    · next x r =>
      cases e0 : Nat.blt (k) nl with
      | true =>
        rw [e0] at h
        cases h
        obtain ⟨r9, rfl, hS1⟩ := jS_int hS
        obtain ⟨lc, hl1, hl2⟩ := hH
        exact lv_istore hx hb hd hl1 (Nat.blt_eq.mp e0) rfl (fun ls9 h9 => kl ls9 r9 rfl ⟨_, h9, jst1_ok hl2 _ rfl⟩ hS1)
      | false => rw [e0] at h; cases h
    · cases h
  | lstore_n k =>
    simp only [jstep] at h
    split at h
    · next x r =>
      cases e0 : Nat.blt (k.val + 1) nl with
      | true =>
        rw [e0] at h
        cases h
        obtain ⟨r9, rfl, hS1⟩ := jS_long hS
        obtain ⟨lc, hl1, hl2⟩ := hH
        exact lv_lstore_n hx hb hd rfl hl1 (Nat.blt_eq.mp e0) rfl (fun ls9 h9 => kl ls9 r9 rfl ⟨_, h9, jst2_ok hl2 _ rfl⟩ hS1)
      | false => rw [e0] at h; cases h
    · cases h
  | lstore k =>
    simp only [jstep] at h
    split at h
    · next x r =>
      cases e0 : Nat.blt (k + 1) nl with
      | true =>
        rw [e0] at h
        cases h
        obtain ⟨r9, rfl, hS1⟩ := jS_long hS
        obtain ⟨lc, hl1, hl2⟩ := hH
        exact lv_lstore hx hb hd hl1 (Nat.blt_eq.mp e0) rfl (fun ls9 h9 => kl ls9 r9 rfl ⟨_, h9, jst2_ok hl2 _ rfl⟩ hS1)
      | false => rw [e0] at h; cases h
    · cases h
  | dstore k =>
    simp only [jstep] at h
    split at h
    · next x r =>
      cases e0 : Nat.blt (k + 1) nl with
      | true =>
        rw [e0] at h
        cases h
        obtain ⟨r9, rfl, hS1⟩ := jS_double hS
        obtain ⟨lc, hl1, hl2⟩ := hH
        exact lv_dstore hx hb hd hl1 (Nat.blt_eq.mp e0) rfl (fun ls9 h9 => kl ls9 r9 rfl ⟨_, h9, jst2_ok hl2 _ rfl⟩ hS1)
      | false => rw [e0] at h; cases h
    · cases h
  | astore_n k =>
    simp only [jstep] at h
    split at h
    · next x r =>
      cases e0 : Nat.blt (k.val) nl with
      | true =>
        rw [e0] at h
        cases h
        obtain ⟨a9, r9, rfl, ha9, hS1⟩ := jS_ref hS
        obtain ⟨lc, hl1, hl2⟩ := hH
        exact lv_astore_n hx hb hd rfl hl1 (Nat.blt_eq.mp e0) rfl (fun ls9 h9 => kl ls9 r9 rfl ⟨_, h9, jst1_ok hl2 _ ⟨a9, ha9, rfl⟩⟩ hS1)
      | false => rw [e0] at h; cases h
    · cases h
  | astore k =>
    simp only [jstep] at h
    split at h
    · next x r =>
      cases e0 : Nat.blt (k) nl with
      | true =>
        rw [e0] at h
        cases h
        obtain ⟨a9, r9, rfl, ha9, hS1⟩ := jS_ref hS
        obtain ⟨lc, hl1, hl2⟩ := hH
        exact lv_astore hx hb hd hl1 (Nat.blt_eq.mp e0) rfl (fun ls9 h9 => kl ls9 r9 rfl ⟨_, h9, jst1_ok hl2 _ ⟨a9, ha9, rfl⟩⟩ hS1)
      | false => rw [e0] at h; cases h
    · cases h
  | iinc k n =>
    simp only [jstep] at h
    split at h
    · next x e1 =>
      cases e0 : Nat.blt k nl with
      | true =>
        rw [e0] at h
        cases h
        obtain ⟨lc, hl1, hl2⟩ := hH
        obtain ⟨v9, h1, h2, -⟩ := jLR_lk hl2 e1
        cases h2
        obtain ⟨q9, h3⟩ := List.getElem?_of_mem h1
        exact lv_iinc hx hb hd hl1 h3 rfl (Nat.blt_eq.mp e0) rfl (fun ls9 h9 => kl ls9 stc rfl ⟨_, h9, jst1_ok hl2 _ rfl⟩ hS)
      | false => rw [e0] at h; cases h
    · cases h
  | iadd =>
    simp only [jstep] at h
    split at h
    · next y x r =>
      cases h
      obtain ⟨r8, rfl, hS1⟩ := jS_int hS
      obtain ⟨r9, rfl, hS2⟩ := jS_int hS1
      exact lv_iadd hx hb hd (kp (_ :: r9) rfl rfl ⟨rfl, hS2⟩)
    · cases h
  | isub =>
    simp only [jstep] at h
    split at h
    · next y x r =>
      cases h
      obtain ⟨r8, rfl, hS1⟩ := jS_int hS
      obtain ⟨r9, rfl, hS2⟩ := jS_int hS1
      exact lv_isub hx hb hd (kp (_ :: r9) rfl rfl ⟨rfl, hS2⟩)
    · cases h
  | imul =>
    simp only [jstep] at h
    split at h
    · next y x r =>
      cases h
      obtain ⟨r8, rfl, hS1⟩ := jS_int hS
      obtain ⟨r9, rfl, hS2⟩ := jS_int hS1
      exact lv_imul hx hb hd (kp (_ :: r9) rfl rfl ⟨rfl, hS2⟩)
    · cases h
  | iand =>
    simp only [jstep] at h
    split at h
    · next y x r =>
      cases h
      obtain ⟨r8, rfl, hS1⟩ := jS_int hS
      obtain ⟨r9, rfl, hS2⟩ := jS_int hS1
      exact lv_iand hx hb hd (kp (_ :: r9) rfl rfl ⟨rfl, hS2⟩)
    · cases h
  | ior =>
    simp only [jstep] at h
    split at h
    · next y x r =>
      cases h
      obtain ⟨r8, rfl, hS1⟩ := jS_int hS
      obtain ⟨r9, rfl, hS2⟩ := jS_int hS1
      exact lv_ior hx hb hd (kp (_ :: r9) rfl rfl ⟨rfl, hS2⟩)
    · cases h
  | ixor =>
    simp only [jstep] at h
    split at h
    · next y x r =>
      cases h
      obtain ⟨r8, rfl, hS1⟩ := jS_int hS
      obtain ⟨r9, rfl, hS2⟩ := jS_int hS1
      exact lv_ixor hx hb hd (kp (_ :: r9) rfl rfl ⟨rfl, hS2⟩)
    · cases h
  | ishl =>
    simp only [jstep] at h
    split at h
    · next y x r =>
      cases h
      obtain ⟨r8, rfl, hS1⟩ := jS_int hS
      obtain ⟨r9, rfl, hS2⟩ := jS_int hS1
      exact lv_ishl hx hb hd (kp (_ :: r9) rfl rfl ⟨rfl, hS2⟩)
    · cases h
  | ishr =>
    simp only [jstep] at h
    split at h
    · next y x r =>
      cases h
      obtain ⟨r8, rfl, hS1⟩ := jS_int hS
      obtain ⟨r9, rfl, hS2⟩ := jS_int hS1
      exact lv_ishr hx hb hd (kp (_ :: r9) rfl rfl ⟨rfl, hS2⟩)
    · cases h
  | iushr =>
    simp only [jstep] at h
    split at h
    · next y x r =>
      cases h
      obtain ⟨r8, rfl, hS1⟩ := jS_int hS
      obtain ⟨r9, rfl, hS2⟩ := jS_int hS1
      exact lv_iushr hx hb hd rfl (kp (_ :: r9) rfl rfl ⟨rfl, hS2⟩)
    · cases h
  | idiv =>
    simp only [jstep] at h
    split at h
    · next y x r =>
      cases e0 : decide (y = 0) with
      | true => rw [e0] at h; cases h
      | false =>
        rw [e0] at h
        cases h
        obtain ⟨r8, rfl, hS1⟩ := jS_int hS
        obtain ⟨r9, rfl, hS2⟩ := jS_int hS1
        exact lv_idiv hx hb hd (of_decide_eq_false e0) (kp (_ :: r9) rfl rfl ⟨rfl, hS2⟩)
    · cases h
  | irem =>
    simp only [jstep] at h
    split at h
    · next y x r =>
      cases e0 : decide (y = 0) with
      | true => rw [e0] at h; cases h
      | false =>
        rw [e0] at h
        cases h
        obtain ⟨r8, rfl, hS1⟩ := jS_int hS
        obtain ⟨r9, rfl, hS2⟩ := jS_int hS1
        exact lv_irem hx hb hd (of_decide_eq_false e0) (kp (_ :: r9) rfl rfl ⟨rfl, hS2⟩)
    · cases h
  | ladd =>
    simp only [jstep] at h
    split at h
    · next y x r =>
      cases h
      obtain ⟨r8, rfl, hS1⟩ := jS_long hS
      obtain ⟨r9, rfl, hS2⟩ := jS_long hS1
      exact lv_ladd hx hb hd (kp (_ :: r9) rfl rfl ⟨rfl, hS2⟩)
    · cases h
  | lsub =>
    simp only [jstep] at h
    split at h
    · next y x r =>
      cases h
      obtain ⟨r8, rfl, hS1⟩ := jS_long hS
      obtain ⟨r9, rfl, hS2⟩ := jS_long hS1
      exact lv_lsub hx hb hd (kp (_ :: r9) rfl rfl ⟨rfl, hS2⟩)
    · cases h
  | lmul =>
    simp only [jstep] at h
    split at h
    · next y x r =>
      cases h
      obtain ⟨r8, rfl, hS1⟩ := jS_long hS
      obtain ⟨r9, rfl, hS2⟩ := jS_long hS1
      exact lv_lmul hx hb hd (kp (_ :: r9) rfl rfl ⟨rfl, hS2⟩)
    · cases h
  | land =>
    simp only [jstep] at h
    split at h
    · next y x r =>
      cases h
      obtain ⟨r8, rfl, hS1⟩ := jS_long hS
      obtain ⟨r9, rfl, hS2⟩ := jS_long hS1
      exact lv_land hx hb hd (kp (_ :: r9) rfl rfl ⟨rfl, hS2⟩)
    · cases h
  | lor =>
    simp only [jstep] at h
    split at h
    · next y x r =>
      cases h
      obtain ⟨r8, rfl, hS1⟩ := jS_long hS
      obtain ⟨r9, rfl, hS2⟩ := jS_long hS1
      exact lv_lor hx hb hd (kp (_ :: r9) rfl rfl ⟨rfl, hS2⟩)
    · cases h
  | lxor =>
    simp only [jstep] at h
    split at h
    · next y x r =>
      cases h
      obtain ⟨r8, rfl, hS1⟩ := jS_long hS
      obtain ⟨r9, rfl, hS2⟩ := jS_long hS1
      exact lv_lxor hx hb hd (kp (_ :: r9) rfl rfl ⟨rfl, hS2⟩)
    · cases h
  | ldiv =>
    simp only [jstep] at h
    split at h
    · next y x r =>
      cases e0 : decide (y = 0) with
      | true => rw [e0] at h; cases h
      | false =>
        rw [e0] at h
        cases h
        obtain ⟨r8, rfl, hS1⟩ := jS_long hS
        obtain ⟨r9, rfl, hS2⟩ := jS_long hS1
        exact lv_ldiv hx hb hd (of_decide_eq_false e0) (kp (_ :: r9) rfl rfl ⟨rfl, hS2⟩)
    · cases h
  | lrem =>
    simp only [jstep] at h
    split at h
    · next y x r =>
      cases e0 : decide (y = 0) with
      | true => rw [e0] at h; cases h
      | false =>
        rw [e0] at h
        cases h
        obtain ⟨r8, rfl, hS1⟩ := jS_long hS
        obtain ⟨r9, rfl, hS2⟩ := jS_long hS1
        exact lv_lrem hx hb hd (of_decide_eq_false e0) (kp (_ :: r9) rfl rfl ⟨rfl, hS2⟩)
    · cases h
  | lshl =>
    simp only [jstep] at h
    split at h
    · next y x r =>
      cases h
      obtain ⟨r8, rfl, hS1⟩ := jS_int hS
      obtain ⟨r9, rfl, hS2⟩ := jS_long hS1
      exact lv_lshl hx hb hd rfl (kp (_ :: r9) rfl rfl ⟨rfl, hS2⟩)
    · cases h
  | lushr =>
    simp only [jstep] at h
    split at h
    · next y x r =>
      cases h
      obtain ⟨r8, rfl, hS1⟩ := jS_int hS
      obtain ⟨r9, rfl, hS2⟩ := jS_long hS1
      exact lv_lushr hx hb hd rfl (kp (_ :: r9) rfl rfl ⟨rfl, hS2⟩)
    · cases h
  | lcmp =>
    simp only [jstep] at h
    split at h
    · next y x r =>
      cases h
      obtain ⟨r8, rfl, hS1⟩ := jS_long hS
      obtain ⟨r9, rfl, hS2⟩ := jS_long hS1
      exact W.lcmp hx hb hd (kp (_ :: r9) rfl rfl ⟨rfl, hS2⟩)
    · cases h
  | dcmp op =>
    simp only [jstep] at h
    split at h
    · next y x r =>
      cases h
      obtain ⟨r8, rfl, hS1⟩ := jS_double hS
      obtain ⟨r9, rfl, hS2⟩ := jS_double hS1
      exact lv_dcmp hx hb hd (kp (_ :: r9) rfl rfl ⟨rfl, hS2⟩)
    · cases h
  | fdiv =>
    simp only [jstep] at h
    split at h
    · next y x r =>
      cases e0 : decide (FP.fdiv x y &&& 0x7fffffff ≤ (0x7f800000 : UInt32)) with
      | false => rw [e0] at h; cases h
      | true =>
        rw [e0] at h
        cases h
        have e5 : FP.fdiv x y &&& 0x7fffffff ≤ (0x7f800000 : UInt32) := of_decide_eq_true e0
        obtain ⟨r9, rfl, hS1⟩ := jS_float hS
        obtain ⟨r9, rfl, hS2⟩ := jS_float hS1
        exact lv_fdiv hx hb hd e5 (kp (_ :: r9) rfl rfl ⟨rfl, hS2⟩)
    · cases h
  | ddiv =>
    simp only [jstep] at h
    split at h
    · next y x r =>
      cases e0 : decide (FP.ddiv x y &&& 0x7fffffffffffffff ≤ (0x7ff0000000000000 : UInt64)) with
      | false => rw [e0] at h; cases h
      | true =>
        rw [e0] at h
        cases h
        have e5 : FP.ddiv x y &&& 0x7fffffffffffffff ≤ (0x7ff0000000000000 : UInt64) := of_decide_eq_true e0
        obtain ⟨r9, rfl, hS1⟩ := jS_double hS
        obtain ⟨r9, rfl, hS2⟩ := jS_double hS1
        exact lv_ddiv hx hb hd e5 (kp (_ :: r9) rfl rfl ⟨rfl, hS2⟩)
    · cases h
  | f2d =>
    simp only [jstep] at h
    split at h
    · next x r =>
      cases e0 : decide (FP.f2d x &&& 0x7fffffffffffffff ≤ (0x7ff0000000000000 : UInt64)) with
      | false => rw [e0] at h; cases h
      | true =>
        rw [e0] at h
        cases h
        have e5 : FP.f2d x &&& 0x7fffffffffffffff ≤ (0x7ff0000000000000 : UInt64) := of_decide_eq_true e0
        obtain ⟨r9, rfl, hS1⟩ := jS_float hS
        exact lv_f2d hx hb hd e5 (kp (_ :: r9) rfl rfl ⟨rfl, hS1⟩)
    · cases h
  | ineg =>
    simp only [jstep] at h
    split at h
    · next x r =>
      cases h
      obtain ⟨r9, rfl, hS1⟩ := jS_int hS
      exact lv_ineg hx hb hd (kp (_ :: r9) rfl rfl ⟨rfl, hS1⟩)
    · cases h
  | i2l =>
    simp only [jstep] at h
    split at h
    · next x r =>
      cases h
      obtain ⟨r9, rfl, hS1⟩ := jS_int hS
      exact lv_i2l hx hb hd rfl (kp (_ :: r9) rfl rfl ⟨rfl, hS1⟩)
    · cases h
  | l2i =>
    simp only [jstep] at h
    split at h
    · next x r =>
      cases h
      obtain ⟨r9, rfl, hS1⟩ := jS_long hS
      exact lv_l2i hx hb hd rfl (kp (_ :: r9) rfl rfl ⟨rfl, hS1⟩)
    · cases h
  | i2f =>
    simp only [jstep] at h
    split at h
    · next x r =>
      cases h
      obtain ⟨r9, rfl, hS1⟩ := jS_int hS
      exact lv_i2f hx hb hd (kp (_ :: r9) rfl rfl ⟨rfl, hS1⟩)
    · cases h
  | i2d =>
    simp only [jstep] at h
    split at h
    · next x r =>
      cases h
      obtain ⟨r9, rfl, hS1⟩ := jS_int hS
      exact lv_i2d hx hb hd (kp (_ :: r9) rfl rfl ⟨rfl, hS1⟩)
    · cases h
  | dup =>
    simp only [jstep] at h
    split at h
    · next v r =>
      cases e0 : Nat.beq v.category 1 with
      | false => rw [e0] at h; cases h
      | true =>
        rw [e0] at h
        cases h
        obtain ⟨v9, r9, rfl, hv, hS1⟩ := jS_cons hS
        exact lv_dup hx hb hd (by rw [jV_cat hv]; exact Nat.eq_of_beq_eq_true e0) (kp (_ :: _ :: r9) rfl rfl ⟨hv, hv, hS1⟩)
    · cases h
  | pop =>
    simp only [jstep] at h
    split at h
    · next v r =>
      cases e0 : Nat.beq v.category 1 with
      | false => rw [e0] at h; cases h
      | true =>
        rw [e0] at h
        cases h
        obtain ⟨v9, r9, rfl, hv, hS1⟩ := jS_cons hS
        exact lv_pop hx hb hd (by rw [jV_cat hv]; exact Nat.eq_of_beq_eq_true e0) (kp r9 rfl rfl hS1)
    · cases h
  | dup2 =>
    simp only [jstep] at h
    split at h
    · next v u r =>
      cases e0 : Nat.beq v.category 1 with
      | false => rw [e0] at h; cases h
      | true =>
        cases e1 : Nat.beq u.category 1 with
        | false => rw [e0, e1] at h; cases h
        | true =>
          rw [e0, e1] at h
          cases h
          obtain ⟨v9, r8, rfl, hv, hS1⟩ := jS_cons hS
          obtain ⟨u9, r9, rfl, hu, hS2⟩ := jS_cons hS1
          exact lv_dup2_11 hx hb hd (by rw [jV_cat hv]; exact Nat.eq_of_beq_eq_true e0) (by rw [jV_cat hu]; exact Nat.eq_of_beq_eq_true e1) (kp (_ :: _ :: _ :: _ :: r9) rfl rfl ⟨hv, hu, hv, hu, hS2⟩)
    · cases h
  | getfield idx =>
    simp only [jstep] at h
    split at h
    · next q r =>
      split at h
      · next o1 e1 =>
        cases e0 : Nat.beq o1.1 a with
        | false => rw [e0] at h; cases h
        | true =>
          rw [e0] at h
          simp only [cond_true] at h
          split at h
          · next v e2 =>
            cases h
            obtain ⟨a9, r9, rfl, ha9, hS1⟩ := jS_ref hS
            obtain ⟨e9, h1, h2⟩ := jWR_get hW e1 ha9
            obtain ⟨fs9, rfl, h3⟩ := h2
            obtain ⟨v9, h4, h5⟩ := jS_get h3 e2
            obtain ⟨r5, g1, g2, g3, g4⟩ := hok
            have e5 := Nat.eq_of_beq_eq_true e0
            rw [e5] at h1
            exact va_get hx hb hts g3 hown hK hP q h1 g1 b g2 (hts _ g4) (fun _ z => z) h4 hd (kp (v9 :: r9) rfl rfl ⟨h5, hS1⟩)
          · cases h
      · cases h
    · cases h
  | putfield idx =>
    simp only [jstep] at h
    split at h
    · next v q r =>
      split at h
      · next o1 e1 =>
        cases e0 : (Nat.beq o1.1 (a / 4) && (jfit (a % 4) v && Nat.blt b o1.2.length)) with
        | false => rw [e0] at h; cases h
        | true =>
          rw [e0] at h
          cases h
          simp only [Bool.and_eq_true] at e0
          obtain ⟨e2, e3, e4⟩ := e0
          obtain ⟨v9, r8, rfl, hv, hS1⟩ := jS_cons hS
          obtain ⟨a9, r9, rfl, ha9, hS2⟩ := jS_ref hS1
          obtain ⟨e9, h1, h2⟩ := jWR_get hW e1 ha9
          obtain ⟨fs9, rfl, h3⟩ := h2
          obtain ⟨r5, ty, g1, g2, g3, g4, g5, g6, g7⟩ := hok
          obtain ⟨ty0, g8, g9, -, -⟩ := jcls _ _ g1
          have e5 := Nat.eq_of_beq_eq_true e2
          rw [e5] at h1
          rw [← g6] at e3
          obtain ⟨f1, f2⟩ := jfit_ok e3 hv
          have hlt : b < fs9.length := by rw [jS_len h3]; exact Nat.blt_eq.mp e4
          have go : ∀ (H1 : Heap) (locs1 : List Loc), va_P D vwCl (wsc.set q (a9, .inr (a / 4, fs9.set b v9))) H1 → va_D A (wsc.set q (a9, .inr (a / 4, fs9.set b v9))) → va_S A H0 H1 locs1 → W p l e R s m args below meth c H1 locs1 cells slots Q (F0 m (pc + 3) ls r9) := fun H1 locs1 p1 p2 p3 =>
            kw r9 _ H1 locs1 rfl hS2 ⟨jWR_set hW ha9 ⟨_, by rw [e5], jS_set h3 b hv⟩, p1, p2, p3⟩ (by simp) (jsl_set e1 (by simp [jcs]))
          cases hf : (r5.2.1 b).2.2.2 with
          | false => exact va_put hx hb hts g3 ty0 g8 g9 hown hK hP hD hS0 q h1 g1 b g2 (hts _ g4) (fun _ z => z) hf g5 f1 f2 hlt hd go
          | true => exact va_putF hx hb hts g3 ty0 g8 g9 hown hK hP hD hS0 q h1 g1 b g2 (hts _ g4) (fun _ z => z) hf (g7 hf).1 (g7 hf).2 g5 f1 f2 hlt hd go
      · cases h
    · cases h
  | iaload =>
    simp only [jstep] at h
    split at h
    · next i9 q r =>
      split at h
      · next n f e1 =>
        cases e0 : jin i9 n with
        | false => rw [e0] at h; cases h
        | true =>
          rw [e0] at h
          cases h
          obtain ⟨r8, rfl, hS1⟩ := jS_int hS
          obtain ⟨a9, r9, rfl, ha9, hS2⟩ := jS_ref hS1
          obtain ⟨e9, h1, h2⟩ := jWR_get hW e1 ha9
          cases h2
          exact va_iald hx hb hK hP q 0 h1 rfl (jin_of e0) hd (kp (_ :: r9) rfl rfl ⟨rfl, hS2⟩)
      · cases h
    · next i9 q r =>
      split at h
      · next v e1 =>
        cases h
        cases scr with
        | none => cases e1
        | some c9 =>
          simp only [jscr] at e1
          cases e0 : jin i9 c9.1 with
          | false => rw [e0] at e1; cases e1
          | true =>
            rw [e0] at e1
            cases e1
            obtain ⟨b0, x1, x2, x3, x4⟩ := hX c9 rfl
            obtain ⟨r8, rfl, hS3⟩ := jS_int hS
            obtain ⟨b1, r9, rfl, hb1, hS4⟩ := jS_scr hS3
            rw [x1] at hb1
            cases hb1
            exact va_sld hx hb x2 x3 x4 hS0 (jin_of e0) hd (kp (_ :: r9) rfl rfl ⟨rfl, hS4⟩)
      · cases h
    · cases h
  | baload =>
    simp only [jstep] at h
    split at h
    · next i9 q r =>
      split at h
      · next n f e1 =>
        cases e0 : jin i9 n with
        | false => rw [e0] at h; cases h
        | true =>
          rw [e0] at h
          cases h
          obtain ⟨r8, rfl, hS1⟩ := jS_int hS
          obtain ⟨a9, r9, rfl, ha9, hS2⟩ := jS_ref hS1
          obtain ⟨e9, h1, h2⟩ := jWR_get hW e1 ha9
          cases h2
          exact va_zald hx hb hK hP q 1 h1 rfl (jin_of e0) hd (kp (_ :: r9) rfl rfl ⟨rfl, hS2⟩)
      · cases h
    · cases h
  | laload =>
    simp only [jstep] at h
    split at h
    · next i9 q r =>
      split at h
      · next n f e1 =>
        cases e0 : jin i9 n with
        | false => rw [e0] at h; cases h
        | true =>
          rw [e0] at h
          cases h
          obtain ⟨r8, rfl, hS1⟩ := jS_int hS
          obtain ⟨a9, r9, rfl, ha9, hS2⟩ := jS_ref hS1
          obtain ⟨e9, h1, h2⟩ := jWR_get hW e1 ha9
          cases h2
          exact va_lald hx hb hK hP q 2 h1 rfl (jin_of e0) hd (kp (_ :: r9) rfl rfl ⟨rfl, hS2⟩)
      · cases h
    · cases h
  | aaload =>
    simp only [jstep] at h
    split at h
    · next i9 q r =>
      split at h
      · next t n f e1 =>
        cases e0 : (jin i9 n && (Nat.blt 2 t && Nat.blt t 7)) with
        | false => rw [e0] at h; cases h
        | true =>
          rw [e0] at h
          cases h
          simp only [Bool.and_eq_true] at e0
          obtain ⟨e2, e3, e4⟩ := e0
          obtain ⟨r8, rfl, hS1⟩ := jS_int hS
          obtain ⟨a9, r9, rfl, ha9, hS2⟩ := jS_ref hS1
          obtain ⟨e9, h1, h2⟩ := jWR_get hW e1 ha9
          obtain ⟨f9, rfl, h3⟩ := h2
          have hv : jV sb ads (va_rf (f i9.toNatClampNeg)) (va_rf (f9 i9.toNatClampNeg)) := jV_rf (h3 _)
          have e3 := Nat.blt_eq.mp e3
          have e4 := Nat.blt_eq.mp e4
          have h5 : t = 3 ∨ t = 4 ∨ t = 5 ∨ t = 6 := by omega
          rcases h5 with rfl | rfl | rfl | rfl
          · exact va_aldq hx hb hK hP q 3 h1 rfl (jin_of e2) hd (kp (_ :: r9) rfl rfl ⟨hv, hS2⟩)
          · exact va_aldq hx hb hK hP q 4 h1 rfl (jin_of e2) hd (kp (_ :: r9) rfl rfl ⟨hv, hS2⟩)
          · exact va_aldq hx hb hK hP q 5 h1 rfl (jin_of e2) hd (kp (_ :: r9) rfl rfl ⟨hv, hS2⟩)
          · have hlt : i9.toNatClampNeg < n := Nat.not_le.mp fun z => jin_of e2 (Or.inr z)
            exact W.aald (v := va_rf (f9 i9.toNatClampNeg)) (ty := .array .int) hx hb (hP q _ h1) ((hK.2 6 _ rfl).1 n (fun j => va_rf (f9 j))) rfl (fun z => by cases z) (by show ¬ (i9 < 0 ∨ (arrV _ _ _).slots.size ≤ _); rw [arrV_size]; exact jin_of e2) (by show (arrV _ _ _).slots[_]? = _; rw [arrV_read _ _ hlt]) rfl rfl hd (kp (_ :: r9) rfl rfl ⟨hv, hS2⟩)
      · cases h
    · cases h
  | iastore =>
    simp only [jstep] at h
    split at h
    · next x i9 q r =>
      split at h
      · next n f e1 =>
        cases e0 : jin i9 n with
        | false => rw [e0] at h; cases h
        | true =>
          rw [e0] at h
          cases h
          obtain ⟨r7, rfl, hS1⟩ := jS_int hS
          obtain ⟨r8, rfl, hS2⟩ := jS_int hS1
          obtain ⟨a9, r9, rfl, ha9, hS3⟩ := jS_ref hS2
          obtain ⟨e9, h1, h2⟩ := jWR_get hW e1 ha9
          cases h2
          exact va_iast hx hb hK hP hD hS0 q 0 h1 rfl (jin_of e0) hd (fun H1 locs1 p1 p2 p3 => kw r9 _ H1 locs1 rfl hS3 ⟨jWR_set hW ha9 rfl, p1, p2, p3⟩ (by simp) (jsl_set e1 rfl))
      · cases h
    · cases h
  | bastore =>
    simp only [jstep] at h
    split at h
    · next x i9 q r =>
      split at h
      · next n f e1 =>
        cases e0 : jin i9 n with
        | false => rw [e0] at h; cases h
        | true =>
          rw [e0] at h
          cases h
          obtain ⟨r7, rfl, hS1⟩ := jS_int hS
          obtain ⟨r8, rfl, hS2⟩ := jS_int hS1
          obtain ⟨a9, r9, rfl, ha9, hS3⟩ := jS_ref hS2
          obtain ⟨e9, h1, h2⟩ := jWR_get hW e1 ha9
          cases h2
          exact va_zast hx hb hK hP hD hS0 q 1 h1 rfl (jin_of e0) hd (fun H1 locs1 p1 p2 p3 => kw r9 _ H1 locs1 rfl hS3 ⟨jWR_set hW ha9 rfl, p1, p2, p3⟩ (by simp) (jsl_set e1 rfl))
      · cases h
    · cases h
  | lastore =>
    simp only [jstep] at h
    split at h
    · next x i9 q r =>
      split at h
      · next n f e1 =>
        cases e0 : jin i9 n with
        | false => rw [e0] at h; cases h
        | true =>
          rw [e0] at h
          cases h
          obtain ⟨r7, rfl, hS1⟩ := jS_long hS
          obtain ⟨r8, rfl, hS2⟩ := jS_int hS1
          obtain ⟨a9, r9, rfl, ha9, hS3⟩ := jS_ref hS2
          obtain ⟨e9, h1, h2⟩ := jWR_get hW e1 ha9
          cases h2
          exact va_last hx hb hK hP hD hS0 q 2 h1 rfl (jin_of e0) hd (fun H1 locs1 p1 p2 p3 => kw r9 _ H1 locs1 rfl hS3 ⟨jWR_set hW ha9 rfl, p1, p2, p3⟩ (by simp) (jsl_set e1 rfl))
      · cases h
    · cases h
  | aastore =>
    simp only [jstep] at h
    split at h
    · next v i9 q r =>
      split at h
      · next t n f o1 e1 e2 =>
        cases e0 : (jin i9 n && (Nat.beq o1.1 (jel t) && (Nat.blt 2 t && Nat.blt t 6))) with
        | false => rw [e0] at h; cases h
        | true =>
          rw [e0] at h
          cases h
          simp only [Bool.and_eq_true] at e0
          obtain ⟨e3, e4, e5, e6⟩ := e0
          obtain ⟨av, r7, rfl, hav, hS1⟩ := jS_ref hS
          obtain ⟨r8, rfl, hS2⟩ := jS_int hS1
          obtain ⟨a9, r9, rfl, ha9, hS3⟩ := jS_ref hS2
          obtain ⟨e9, h1, h2⟩ := jWR_get hW e1 ha9
          obtain ⟨f9, rfl, h3⟩ := h2
          obtain ⟨e8, k1, k2⟩ := jWR_get hW e2 hav
          obtain ⟨fs9, rfl, k3⟩ := k2
          have e4 := Nat.eq_of_beq_eq_true e4
          have e5 := Nat.blt_eq.mp e5
          have e6 := Nat.blt_eq.mp e6
          have go : ∀ (H1 : Heap) (locs1 : List Loc), va_P D vwCl (wsc.set q (a9, .inl (dA t, n, .inr (.inr (.inr (.inr (va_up f9 i9.toNatClampNeg (some av)))))))) H1 → va_D A (wsc.set q (a9, .inl (dA t, n, .inr (.inr (.inr (.inr (va_up f9 i9.toNatClampNeg (some av)))))))) → va_S A H0 H1 locs1 → W p l e R s m args below meth c H1 locs1 cells slots Q (F0 m (pc + 1) ls r9) := fun H1 locs1 p1 p2 p3 =>
            kw r9 _ H1 locs1 rfl hS3 ⟨jWR_set hW ha9 ⟨_, rfl, fun j => jOp_up (h3 j) hav⟩, p1, p2, p3⟩ (by simp) (jsl_set e1 rfl)
          have h5 : t = 3 ∨ t = 4 ∨ t = 5 := by omega
          rcases h5 with rfl | rfl | rfl
          · exact va_astq (r := vwCl[jel 3]) hx hb hK hP hD hS0 q 3 v o1.1 h1 rfl k1 (by rw [e4]; rfl) (jin_of e3) hd go
          · exact va_astq (r := vwCl[jel 4]) hx hb hK hP hD hS0 q 4 v o1.1 h1 rfl k1 (by rw [e4]; rfl) (jin_of e3) hd go
          · exact va_astq (r := vwCl[jel 5]) hx hb hK hP hD hS0 q 5 v o1.1 h1 rfl k1 (by rw [e4]; rfl) (jin_of e3) hd go
      · cases h
    · cases h
  | arraylength =>
    simp only [jstep] at h
    split at h
    · next q r =>
      split at h
      · next c9 e1 =>
        cases e0 : Nat.blt c9.1 7 with
        | false => rw [e0] at h; cases h
        | true =>
          rw [e0] at h
          cases h
          obtain ⟨a9, r9, rfl, ha9, hS1⟩ := jS_ref hS
          obtain ⟨e9, h1, h2⟩ := jWR_get hW e1 ha9
          have e2 := Nat.blt_eq.mp e0
          obtain ⟨x9, rfl, h4⟩ : ∃ x : vp_A, e9 = .inl (dA c9.1, x) ∧ x.1 = c9.2.1 := by
            rcases c9 with ⟨t, n, f | f | f⟩
            · exact ⟨_, h2, rfl⟩
            · exact ⟨_, h2, rfl⟩
            · obtain ⟨f9, g1, -⟩ := h2; exact ⟨_, g1, rfl⟩
          obtain ⟨ty, hty⟩ : ∃ ty, jaty[c9.1]? = some ty := ⟨_, List.getElem?_eq_getElem (by simpa using e2)⟩
          exact va_alen hx hb hK hP q c9.1 h1 (jtys_at hty) (by rw [h4]) hd (kp (_ :: r9) rfl rfl ⟨rfl, hS1⟩)
      · cases h
    · next q r =>
      split at h
      · next c9 =>
        cases h
        obtain ⟨b0, x1, x2, x3, x4⟩ := hX _ rfl
        obtain ⟨b1, r9, rfl, hb1, hS2⟩ := jS_scr hS
        rw [x1] at hb1
        cases hb1
        exact va_slen hx hb x2 x3 x4 hS0 hd (kp (_ :: r9) rfl rfl ⟨rfl, hS2⟩)
      · cases h
    · cases h
  | new idx =>
    cases h
    obtain ⟨r5, g1, g2, g3, g4, g5⟩ := hok
    obtain ⟨ty0, g6, g7, g8, g9⟩ := jcls _ _ g1
    have el : (w ++ [(.inr (a, jdf a) : jC)]).length = w.length + 1 := by simp
    have es : jsl (w ++ [(.inr (a, jdf a) : jC)]) = jsl w + r5.2.2 := by rw [jsl_app]; simp [jsl, jcs, g9]
    exact va_new hx hb hts g2 ty0 g6 hown (hts _ g3) (hts _ g4) (hts _ g5) hK hP hD hS0 hAA g1 g8 (by omega) (by omega) hd (fun q9 H1 p1 p2 p3 =>
      kk [q9] ls (.ref q9 :: stc) _ H1 locs _ _ (jH_mono [q9] hH) ⟨⟨q9, jWR_ad hW, rfl⟩, jS_mono [q9] hS⟩ ⟨jWR_push hW ⟨_, rfl, jS_df _ _ a⟩, p1, p2, p3⟩ (by omega) (by omega))
  | newarray ty =>
    cases ty with
    | int =>
      simp only [jstep] at h
      split at h
      · next n r =>
        cases e0 : (decide (0 ≤ n.toInt) && Nat.blt n.toNatClampNeg 10000000) with
        | false => rw [e0] at h; cases h
        | true =>
          rw [e0] at h
          cases h
          simp only [Bool.and_eq_true] at e0
          obtain ⟨r9, rfl, hS1⟩ := jS_int hS
          have e2 := of_decide_eq_true e0.1
          have e3 := Nat.blt_eq.mp e0.2
          have el : (w ++ [(.inl (0, n.toNatClampNeg, .inl fun _ => 0) : jC)]).length = w.length + 1 := by simp
          have es : jsl (w ++ [(.inl (0, n.toNatClampNeg, .inl fun _ => 0) : jC)]) = jsl w + n.toNatClampNeg := by rw [jsl_app]; simp [jsl, jcs]
          exact va_newa (atype := .int) (ty := .int) (a0 := (n.toNatClampNeg, .inl fun _ => 0)) hx hb (hts _ hok) rfl hK hP hD hS0 hAA (fun cA => rfl) (jnneg e2) rfl (by show _ * 4 ≤ _; omega) (by omega) (by omega) hd (fun q9 cA H1 p0 p1 p2 p3 => by
            have ec := jnew_ty hK p0 (t := 0) rfl
            subst ec
            exact kk [q9] ls (.ref q9 :: r9) _ H1 locs _ _ (jH_mono [q9] hH) ⟨⟨q9, jWR_ad hW, rfl⟩, jS_mono [q9] hS1⟩ ⟨jWR_push hW rfl, p1, p2, p3⟩ (by omega) (by omega))
      · cases h
    | boolean =>
      simp only [jstep] at h
      split at h
      · next n r =>
        cases e0 : (decide (0 ≤ n.toInt) && Nat.blt n.toNatClampNeg 10000000) with
        | false => rw [e0] at h; cases h
        | true =>
          rw [e0] at h
          cases h
          simp only [Bool.and_eq_true] at e0
          obtain ⟨r9, rfl, hS1⟩ := jS_int hS
          have e2 := of_decide_eq_true e0.1
          have e3 := Nat.blt_eq.mp e0.2
          have el : (w ++ [(.inl (1, n.toNatClampNeg, .inl fun _ => 0) : jC)]).length = w.length + 1 := by simp
          have es : jsl (w ++ [(.inl (1, n.toNatClampNeg, .inl fun _ => 0) : jC)]) = jsl w + n.toNatClampNeg := by rw [jsl_app]; simp [jsl, jcs]
          exact va_newa (atype := .boolean) (ty := .boolean) (a0 := (n.toNatClampNeg, .inl fun _ => 0)) hx hb (hts _ hok) rfl hK hP hD hS0 hAA (fun cA => rfl) (jnneg e2) rfl (by show _ * 1 ≤ _; omega) (by omega) (by omega) hd (fun q9 cA H1 p0 p1 p2 p3 => by
            have ec := jnew_ty hK p0 (t := 1) rfl
            subst ec
            exact kk [q9] ls (.ref q9 :: r9) _ H1 locs _ _ (jH_mono [q9] hH) ⟨⟨q9, jWR_ad hW, rfl⟩, jS_mono [q9] hS1⟩ ⟨jWR_push hW rfl, p1, p2, p3⟩ (by omega) (by omega))
      · cases h
    | long =>
      simp only [jstep] at h
      split at h
      · next n r =>
        cases e0 : (decide (0 ≤ n.toInt) && Nat.blt n.toNatClampNeg 10000000) with
        | false => rw [e0] at h; cases h
        | true =>
          rw [e0] at h
          cases h
          simp only [Bool.and_eq_true] at e0
          obtain ⟨r9, rfl, hS1⟩ := jS_int hS
          have e2 := of_decide_eq_true e0.1
          have e3 := Nat.blt_eq.mp e0.2
          have el : (w ++ [(.inl (2, n.toNatClampNeg, .inr (.inl fun _ => 0)) : jC)]).length = w.length + 1 := by simp
          have es : jsl (w ++ [(.inl (2, n.toNatClampNeg, .inr (.inl fun _ => 0)) : jC)]) = jsl w + n.toNatClampNeg := by rw [jsl_app]; simp [jsl, jcs]
          exact va_newa (atype := .long) (ty := .long) (a0 := (n.toNatClampNeg, .inr (.inl fun _ => 0))) hx hb (hts _ hok) rfl hK hP hD hS0 hAA (fun cA => rfl) (jnneg e2) rfl (by show _ * 8 ≤ _; omega) (by omega) (by omega) hd (fun q9 cA H1 p0 p1 p2 p3 => by
            have ec := jnew_ty hK p0 (t := 2) rfl
            subst ec
            exact kk [q9] ls (.ref q9 :: r9) _ H1 locs _ _ (jH_mono [q9] hH) ⟨⟨q9, jWR_ad hW, rfl⟩, jS_mono [q9] hS1⟩ ⟨jWR_push hW rfl, p1, p2, p3⟩ (by omega) (by omega))
      · cases h
    | _ => (change none = some _ at h; cases h)
  | anewarray idx =>
    simp only [jstep] at h
    split at h
    · next n r =>
      cases e0 : (decide (0 ≤ n.toInt) && Nat.blt n.toNatClampNeg 10000000) with
      | false => rw [e0] at h; cases h
      | true =>
        rw [e0] at h
        cases h
        simp only [Bool.and_eq_true] at e0
        obtain ⟨r9, rfl, hS1⟩ := jS_int hS
        have e2 := of_decide_eq_true e0.1
        have e3 := Nat.blt_eq.mp e0.2
        obtain ⟨C9, g1, g2, g3⟩ := hok
        have el : (w ++ [(.inl (a, n.toNatClampNeg, .inr (.inr fun _ => none)) : jC)]).length = w.length + 1 := by simp
        have es : jsl (w ++ [(.inl (a, n.toNatClampNeg, .inr (.inr fun _ => none)) : jC)]) = jsl w + n.toNatClampNeg := by rw [jsl_app]; simp [jsl, jcs]
        exact va_newq (C := C9) hx hb hown (hts _ g2) (hNW _ g3) hK hP hD hS0 hAA (jnneg e2) rfl (by omega) (by omega) (by omega) hd (fun q9 cA H1 p0 p1 p2 p3 => by
          have ec := jnew_ty hK p0 g1
          subst ec
          exact kk [q9] ls (.ref q9 :: r9) _ H1 locs _ _ (jH_mono [q9] hH) ⟨⟨q9, jWR_ad hW, rfl⟩, jS_mono [q9] hS1⟩ ⟨jWR_push hW ⟨_, rfl, fun i => rfl⟩, p1, p2, p3⟩ (by omega) (by omega))
    · cases h
  | multianewarray idx d =>
    simp only [jstep] at h
    split at h
    · next k n r =>
      cases e0 : ((decide (0 ≤ n.toInt) && Nat.blt n.toNatClampNeg 10000000) && ((decide (0 ≤ k.toInt) && Nat.blt k.toNatClampNeg 10000000) && Nat.beq d 2)) with
      | false => rw [e0] at h; cases h
      | true =>
        rw [e0] at h
        cases h
        simp only [Bool.and_eq_true] at e0
        obtain ⟨⟨e1, e2⟩, ⟨e3, e4⟩, e5⟩ := e0
        have e1 := of_decide_eq_true e1
        have e2 := Nat.blt_eq.mp e2
        have e3 := of_decide_eq_true e3
        have e4 := Nat.blt_eq.mp e4
        have e5 := Nat.eq_of_beq_eq_true e5
        subst e5
        obtain ⟨r8, rfl, hS1⟩ := jS_int hS
        obtain ⟨r9, rfl, hS2⟩ := jS_int hS1
        obtain ⟨g1, g2, g3⟩ := hok
        generalize eN : n.toNatClampNeg = N9 at *
        generalize eK : k.toNatClampNeg = K9 at *
        have el : ((w ++ [(.inl (6, N9, .inr (.inr fun i => if i < N9 then some (w.length + 1 + i) else none)) : jC)]) ++ List.replicate N9 (.inl (0, K9, .inl fun _ => 0) : jC)).length = w.length + 1 + N9 := by simp only [List.length_append, List.length_replicate, List.length_singleton]
        have es : jsl ((w ++ [(.inl (6, N9, .inr (.inr fun i => if i < N9 then some (w.length + 1 + i) else none)) : jC)]) ++ List.replicate N9 (.inl (0, K9, .inl fun _ => 0) : jC)) = jsl w + N9 + N9 * K9 := by rw [jsl_app, jsl_app, jrep]; simp [jsl, jcs]
        have eX : wsc ++ va_pl [] (fun _ => (.inr (0, []) : va_E)) = wsc := List.append_nil _
        have hk6 : 0 ≤ N9 * K9 := Nat.zero_le _
        refine va_mna (X := wsc) (L := []) (f := fun _ => .inr (0, [])) (ty := .int) (cy := dA 0) (N' := N9) (K' := K9) (z := (K9, .inl fun _ => 0)) hx hb hown (hts _ g1) (va_AOA.of (hNW _ g3)) (hts _ g2) (hK.2 0 _ rfl).2 hK (by rw [eX]; exact hP) (by rw [eX]; exact hD) hS0 hAA (jnneg e1) (jnneg e3) eN eK (by omega) (by show _ * 4 ≤ _; omega) (by omega) rfl rfl (by omega) (by omega) (fun c9 => by rw [vp_cell_i]; exact arrV_new _ _ _) hd ?_
        intro q9 r6 cA H1 h1 h2 p0 p1 p2 p3
        have ec := jnew_ty hK p0 (t := 6) rfl
        subst ec
        have ep : va_pl ([] ++ (List.range N9).map r6) (vr_up (fun _ => (.inr (0, []) : va_E)) ((List.range N9).map r6) (.inl (dA 0, (K9, .inl fun _ => 0)))) = ((List.range N9).map r6).map (fun a9 => ((a9, .inl (dA 0, (K9, .inl fun _ => 0))) : Nat × va_E)) := by
          unfold va_pl
          rw [List.nil_append]
          apply List.map_congr_left
          intro a9 ha9
          rw [vr_up_in ha9]
        rw [ep] at p1 p2
        refine kk ([q9] ++ (List.range N9).map r6) ls (.ref q9 :: r9) _ H1 locs _ _ (jH_mono _ hH) ⟨⟨q9, ?_, rfl⟩, jS_mono _ hS2⟩ ⟨?_, p1, p2, p3⟩ (by omega) (by omega)
        · rw [← List.append_assoc]; exact jad (jWR_ad hW)
        · rw [← List.append_assoc]
          have hrow : ∀ i9 : Nat, i9 < N9 → (ads ++ [q9] ++ (List.range N9).map r6)[w.length + 1 + i9]? = some (r6 i9) := fun i9 h9 => by
            rw [List.getElem?_append_right (by simp only [List.length_append, List.length_singleton, hW.1]; omega)]
            rw [show w.length + 1 + i9 - (ads ++ [q9]).length = i9 by simp only [List.length_append, List.length_singleton, hW.1]; omega, List.getElem?_map, List.getElem?_range h9]; rfl
          have q1 : jWR sb (ads ++ [q9] ++ (List.range N9).map r6) dA (w ++ ([(.inl (6, N9, .inr (.inr fun i => if i < N9 then some (w.length + 1 + i) else none)) : jC)] ++ List.replicate N9 (.inl (0, K9, .inl fun _ => 0) : jC))) (wsc ++ ([(q9, .inl (dA 6, N9, .inr (.inr (.inr (.inr (fun i => if i < N9 then some (r6 i) else none))))))] ++ ((List.range N9).map r6).map (fun a9 => ((a9, .inl (dA 0, (K9, .inl fun _ => 0))) : Nat × va_E)))) := by
            rw [List.append_assoc] at hrow ⊢
            refine jWR_app hW (by simp) (by simp) (fun j9 c9 hj => ?_)
            cases j9 with
            | zero =>
              cases hj
              refine ⟨q9, _, rfl, rfl, ⟨_, rfl, fun i9 => ?_⟩⟩
              show jOp _ (if i9 < N9 then some (w.length + 1 + i9) else none) (if i9 < N9 then some (r6 i9) else none)
              by_cases h9 : i9 < N9
              · rw [if_pos h9, if_pos h9]; exact ⟨_, hrow i9 h9, rfl⟩
              · rw [if_neg h9, if_neg h9]; exact rfl
            | succ j9 =>
              rw [List.singleton_append, List.getElem?_cons_succ] at hj
              have h9 : j9 < N9 := by have := (List.getElem?_eq_some_iff.mp hj).1; simpa using this
              rw [List.getElem?_replicate_of_lt h9] at hj
              cases hj
              refine ⟨r6 j9, _, ?_, ?_, rfl⟩
              · rw [List.singleton_append, List.getElem?_cons_succ, List.getElem?_map, List.getElem?_range h9]; rfl
              · rw [List.singleton_append, List.getElem?_cons_succ, List.getElem?_map, List.getElem?_map, List.getElem?_range h9]; rfl
          rw [List.append_assoc w, List.append_assoc wsc]; exact q1
    · cases h
  | _ => (change none = some _ at h; cases h)
end JST
