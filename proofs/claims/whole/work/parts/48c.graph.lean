/-! the graph of the arrangements, lies by their ranks -/
theorem sm_le1 {f g : Nat → Nat} {n : Nat} (h : ∀ i, i < n → f i = g i) : sm f n = sm g n := sm_congr h
section GC
variable {B : BD} {go we : Nat → Nat} {fb : Nat} {pr : PR} {tl pl tl' pl' : Nat → Nat}
theorem goalB_congr {n : Nat} (h : ∀ t, t < n → pl t = pl' t) : goalB n fb go pl = goalB n fb go pl' := by
  unfold goalB
  rw [decide_eq_decide]
  exact ⟨fun a t ht => by rw [← h t ht]; exact a t ht, fun a t ht => by rw [h t ht]; exact a t ht⟩
theorem lnA_congr (hL : BLn B) (h : ∀ j, j < bN B → tl j = tl' j) {l : Nat} (hl : l < 8) : ∀ i, i ≤ bLL B l → lnA B fb go we tl l i = lnA B fb go we tl' l i
  | 0, _ => rfl
  | i + 1, hi => by
    have ih := lnA_congr hL h hl i (by omega)
    have e : lnG B tl l i = lnG B tl' l i := h _ ((hL l hl).2.1 i (by omega))
    have eq : lnQ B fb go tl l i = lnQ B fb go tl' l i := by unfold lnQ; rw [e]
    have ew : lnW B we tl l i = lnW B we tl' l i := by unfold lnW; rw [e]
    have et : lnT B go tl l i = lnT B go tl' l i := by unfold lnT; rw [e]
    unfold lnA at *
    by_cases c : lnQ B fb go tl l i = true
    · rw [gth_t c, gth_t (eq ▸ c), ih, ew, et]
    · rw [gth_f c, gth_f (eq ▸ c), ih]
theorem gs_congr (hB : BGood B) (hO : PrOk B go we fb pr) (h1 : ∀ j, j < bN B → tl j = tl' j) (h2 : ∀ t, t < bN B → pl t = pl' t) (k : Nat) : gsF B fb go we pr k tl pl = gsF B fb go we pr k tl' pl' := by
  have n3 := hB.rng
  have a : sm (dspF fb go we pl) (bN B) = sm (dspF fb go we pl') (bN B) := sm_congr (fun t ht => by unfold dspF; rw [h2 t ht])
  have b : sm (wayF B fb go we pl) (bN B) = sm (wayF B fb go we pl') (bN B) := sm_congr (fun t ht => by unfold wayF; rw [h2 t ht])
  have c : sm (dtL B fb go we tl) 8 = sm (dtL B fb go we tl') 8 := sm_congr (fun l hl => by unfold dtL; rw [lnA_congr hB.ln h1 hl _ (Nat.le_refl _)])
  have d : sm (prV pr pl) (qN pr) = sm (prV pr pl') (qN pr) := sm_congr (fun p hp => by
    have : prI pr pl p = prI pr pl' p := by
      unfold prI
      rw [h2 0 (by omega), enc_congr (fun j hj => h2 _ ((hO.1 p hp).2.2.1 j hj).2.1)]
    unfold prV; rw [this])
  unfold gsF
  rw [a, b, c, d]
end GC
noncomputable def grH (B : BD) (go we : Nat → Nat) (fb : Nat) (pr : PR) (k r : Nat) : Nat := @ite Nat (VR (bN B) r) (Classical.propDecidable _) (gsF B fb go we pr k (arR (bN B) r).1 (arR (bN B) r).2) 0
noncomputable def grF (B : BD) (go we : Nat → Nat) (fb : Nat) (pr : PR) (k : Nat) : GR :=
  ((fun r d => if bNB B (4 * (arR (bN B) r).2 0 + d) = -1 then none else some (rkT (bN B) (mvT (arR (bN B) r).1 ((arR (bN B) r).2 0) (bNB B (4 * (arR (bN B) r).2 0 + d)).toNat), we ((arR (bN B) r).1 (bNB B (4 * (arR (bN B) r).2 0 + d)).toNat))),
   (fun r => goalB (bN B) fb go (arR (bN B) r).2), fun r => grH B go we fb pr k r)
section GD
variable {B : BD} {go we : Nat → Nat} {fb k : Nat} {pr : PR} {tl pl : Nat → Nat}
theorem gr_no (hB : BGood B) (hA : Arr (bN B) tl pl) {d : Nat} (e : bNB B (4 * pl 0 + d) = -1) : gN (grF B go we fb pr k) (rkT (bN B) tl) d = none := by
  have n3 := hB.rng
  have a := arR_is hA
  show (if bNB B (4 * (arR (bN B) (rkT (bN B) tl)).2 0 + d) = -1 then _ else _) = _
  rw [a.2 0 (by omega), if_pos e]
theorem gr_to (hB : BGood B) (hA : Arr (bN B) tl pl) {d q : Nat} (e : bNB B (4 * pl 0 + d) = (q : Int)) (hq : q < bN B) : gN (grF B go we fb pr k) (rkT (bN B) tl) d = some (rkT (bN B) (mvT tl (pl 0) q), we (tl q)) := by
  have n3 := hB.rng
  have a := arR_is hA
  show (if bNB B (4 * (arR (bN B) (rkT (bN B) tl)).2 0 + d) = -1 then _ else _) = _
  rw [a.2 0 (by omega), if_neg (by omega), e, Int.toNat_natCast, a.1 q hq]
  have : rkT (bN B) (mvT (arR (bN B) (rkT (bN B) tl)).1 (pl 0) q) = rkT (bN B) (mvT tl (pl 0) q) := rkT_congr (fun j hj => by
    unfold mvT
    by_cases c : j = q
    · rw [c, un_eq, un_eq]
    · rw [un_ne c, un_ne c]
      by_cases f : j = pl 0
      · rw [f, un_eq, un_eq]; exact a.1 q hq
      · rw [un_ne f, un_ne f]; exact a.1 j hj)
  rw [this]
theorem gr_goal (hA : Arr (bN B) tl pl) : gG (grF B go we fb pr k) (rkT (bN B) tl) = goalB (bN B) fb go pl := goalB_congr (arR_is hA).2
theorem gr_guess (hB : BGood B) (hO : PrOk B go we fb pr) (hA : Arr (bN B) tl pl) : gH (grF B go we fb pr k) (rkT (bN B) tl) = gsF B fb go we pr k tl pl := by
  show grH B go we fb pr k (rkT (bN B) tl) = _
  unfold grH
  rw [if_pos (show VR (bN B) (rkT (bN B) tl) from ⟨tl, pl, hA, rfl⟩)]
  exact gs_congr hB hO (arR_is hA).1 (arR_is hA).2 k
end GD
/-- packed, it is r -/
def PkK (n r : Nat) (pk : Int64) : Prop := ∃ tl pl, Arr n tl pl ∧ rkT n tl = r ∧ IsPk n (fun j => vO n (tl j)) pk
theorem PkK.un {n r r' : Nat} {p q : Int64} (hn : 0 < n ∧ n ≤ 16) (h : PkK n r p) (h' : PkK n r' q) : (p.toBitVec.toNat < q.toBitVec.toNat ↔ r < r') ∧ (p = q ↔ r = r') := by
  obtain ⟨tl, pl, h1, rfl, h2⟩ := h
  obtain ⟨tl', pl', h3, rfl, h4⟩ := h'
  exact pk_rank hn h1 h3 h2 h4
/-- the lie at a is r -/
def LieK (w : jW) (a n r : Nat) (pk : Int64) : Prop := ∃ tl pl, LieR w a n tl pl pk ∧ rkT n tl = r
theorem LieK.fr {w w1 : jW} {a n r : Nat} {pk : Int64} (h : LieK w a n r pk) (e : ∀ i, a ≤ i → i < a + 3 → w1[i]? = w[i]?) : LieK w1 a n r pk := by
  obtain ⟨tl, pl, h1, h2⟩ := h
  exact ⟨tl, pl, h1.fr e, h2⟩
theorem LieK.pk {w : jW} {a n r : Nat} {pk : Int64} (h : LieK w a n r pk) : PkK n r pk := by
  obtain ⟨tl, pl, h1, h2⟩ := h
  exact ⟨tl, pl, h1.2.1, h2, h1.2.2⟩
theorem LieK.vr {w : jW} {a n r : Nat} {pk : Int64} (h : LieK w a n r pk) : VR n r := by
  obtain ⟨tl, pl, h1, h2⟩ := h
  exact ⟨tl, pl, h1.2.1, h2⟩
theorem LieK.c0 {w : jW} {a n r : Nat} {pk : Int64} (h : LieK w a n r pk) : w[a]? = some (lieC a n pk) := by
  obtain ⟨tl, pl, h1, h2⟩ := h
  exact h1.1.1
section LK
variable {w : jW} {B : BD} {go we : Nat → Nat} {fb k a r : Nat} {pr : PR} {pk : Int64}
theorem shiftK_ok (hB : BoardAt w B) (hG : BGood B) (h : LieK w a (bN B) r pk) {d : Nat} (hd : d < 4) (ha : 10 ≤ a) {Q : (Option Value ⊕ Nat) → jW → Prop}
    (hQ0 : (∀ go we fb pr k, gN (grF B go we fb pr k) r d = none) → Q (.inl (some (.int (zI 0)))) w)
    (hQ1 : ∀ w1 t r' pk1, (∀ go we fb pr k, gN (grF B go we fb pr k) r d = some (r', we t)) → 0 < t → t < bN B → frL w w1 a → LieK w1 a (bN B) r' pk1 → Q (.inl (some (.int (zI (t : Int))))) w1) : jmw jm76 [.ref a, .ref 2, .int (zI (d : Int))] w Q := by
  obtain ⟨tl, pl, hl, rfl⟩ := h
  have n3 := hG.rng
  have p0 := hl.2.1.2 0 (by omega)
  rcases hG.nb (pl 0) d p0.1 hd with e | ⟨q, e1, e2, e3, e4⟩
  · exact shift_no hB hl ⟨by omega, by omega⟩ hd e (hQ0 (fun _ _ _ _ _ => gr_no hG hl.2.1 e))
  · refine shift_ok hB hl ⟨by omega, by omega⟩ hd e1 e2 e3 ha (fun w1 pk1 f1 h1 => hQ1 w1 (tl q) _ pk1 (fun _ _ _ _ _ => gr_to hG hl.2.1 e1 e2) ?_ (hl.2.1.1 q e2).1 f1 ⟨_, _, h1, rfl⟩)
    have := (hl.2.1.1 q e2).2
    apply Nat.pos_of_ne_zero
    intro z
    rw [z] at this
    exact e3 this.symm
theorem guessK_ok (h : PzS w B go we fb pr) (hs : Scr w) (hb : LieK w a (bN B) r pk) (ha : 30 ≤ a) (hk : k ≤ 4) {Q : (Option Value ⊕ Nat) → jW → Prop}
    (hQ : ∀ w1, frI 19 22 w w1 → Scr w1 → Q (.inl (some (.int (zI (gH (grF B go we fb pr k) r : Int))))) w1) : jmw jm96 [.ref 1, .ref a, .int (zI (k : Int))] w Q := by
  obtain ⟨tl, pl, hl, rfl⟩ := hb
  rw [gr_guess h.2.1 h.2.2.2 hl.2.1] at hQ
  exact guess_ok h hs hl.1 hl.2.1 ha hk hQ
theorem reachedK_ok (h : PzS w B go we fb pr) (hb : LieK w a (bN B) r pk) {Q : (Option Value ⊕ Nat) → jW → Prop}
    (hQ : Q (.inl (some (.int (zI (if gG (grF B go we fb pr k) r then 1 else 0))))) w) : jmw jm18 [.ref 10, .ref a] w Q := by
  obtain ⟨tl, pl, hl, rfl⟩ := hb
  obtain ⟨⟨h1, hB, hAi, hn, hf, hgo, hwe⟩, hg, _⟩ := id h
  rw [gr_goal hl.2.1] at hQ
  exact isReached_ok hAi hf hn.2 hl.1 (fun t ht => ⟨by have := (hl.2.1.2 t ht).1; omega, by have := hgo t ht; omega⟩) hQ
theorem unpackK_ok {m n : Nat} {tl pl : Nat → Nat} {pk0 : Int64} (h : LieAt w a m tl pl pk0) (hn : 0 < n ∧ n ≤ 16) (hP : PkK n r pk) {Q : (Option Value ⊕ Nat) → jW → Prop}
    (hQ : ∀ w1, frL w w1 a → LieK w1 a n r pk → Q (.inl none) w1) : jmw jm73 [.ref a, .long pk, .int (zI (n : Int))] w Q := by
  obtain ⟨T, P, h1, h2, h3⟩ := hP
  exact unpack_ok h hn h1 h3 (fun w1 tl1 pl1 f1 g1 e1 e2 => hQ w1 f1 ⟨tl1, pl1, g1, (rkT_congr e1).trans h2⟩)
theorem copyK_ok {b m n : Nat} {tl pl : Nat → Nat} {pk0 : Int64} (h : LieAt w a m tl pl pk0) (hn : n ≤ 16) (hb : LieK w b n r pk) (hab : a + 3 ≤ b ∨ b + 3 ≤ a) {Q : (Option Value ⊕ Nat) → jW → Prop}
    (hQ : ∀ w1, frL w w1 a → LieK w1 a n r pk → Q (.inl none) w1) : jmw jm74 [.ref a, .ref b] w Q := by
  obtain ⟨T, P, h1, h2⟩ := hb
  exact copy_ok h h1 hab hn (fun w1 tl1 pl1 f1 g1 e1 e2 => hQ w1 f1 ⟨tl1, pl1, g1, (rkT_congr e1).trans h2⟩)
theorem toRankK_ok {n : Nat} (h : LieK w a n r pk) (hn : 0 < n ∧ n ≤ 16) {Q : (Option Value ⊕ Nat) → jW → Prop} (hQ : Q (.inl (some (.long (zL (r : Int))))) w) : jmw jm77 [.ref a] w Q := by
  obtain ⟨T, P, h1, rfl⟩ := h
  exact toRank_ok h1 hn hQ
theorem fromRankK_ok {m n : Nat} {tl pl : Nat → Nat} {pk0 : Int64} (h : LieAt w a m tl pl pk0) (hn : 0 < n ∧ n ≤ 16) (hr : r < fac n) {Q : (Option Value ⊕ Nat) → jW → Prop}
    (hQ : ∀ w1 pk1, frL w w1 a → LieK w1 a n r pk1 → Q (.inl none) w1) : jmw jm78 [.ref a, .long (zL (r : Int)), .int (zI (n : Int))] w Q :=
  fromRank_ok h hn hr (fun w1 tl1 pl1 pk1 f1 g1 e1 => hQ w1 pk1 f1 ⟨tl1, pl1, g1, e1⟩)
end LK
