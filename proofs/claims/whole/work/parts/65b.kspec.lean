/-! the reference: rows by their ranks -/
def RowK (w : jW) (a n r : Nat) : Prop := ∃ tl pl, Arr n tl pl ∧ rkT n tl = r ∧ Row w a n tl
theorem RowK.fr {w w1 : jW} {a n r : Nat} (h : RowK w a n r) (e : w1[a]? = w[a]?) : RowK w1 a n r := by
  obtain ⟨tl, pl, h1, h2, h3⟩ := h
  exact ⟨tl, pl, h1, h2, h3.fr e⟩
theorem RowK.za {w : jW} {a n r : Nat} (h : RowK w a n r) : Za w a 16 := by
  obtain ⟨tl, pl, -, -, h3⟩ := h
  exact h3.za
theorem RowK.vr {w : jW} {a n r : Nat} (h : RowK w a n r) : VR n r := by
  obtain ⟨tl, pl, h1, h2, -⟩ := h
  exact ⟨tl, pl, h1, h2⟩
/-- the reference, as it is for S -/
def SX (w : jW) (g : Nat → Int) (S : ST) : Prop := w[100]? = some (mO g) ∧ MIg w g S
abbrev scr (i : Nat) : Prop := 118 ≤ i ∧ i < 148 ∧ ¬ (123 ≤ i ∧ i < 126) ∧ ¬ i = 137
section SXS
variable {w w1 : jW} {g g1 : Nat → Int} {S : ST} {Q : (Option Value ⊕ Nat) → jW → Prop} {a r k d : Nat}
theorem SX.mv {P : Nat → Prop} (h : SX w g S) (f : frP P w w1) (hP : ∀ i, P i → scr i ∧ RawC w1 i) : SX w1 g S := by
  obtain ⟨h1, h2⟩ := h
  have e : ∀ i, ¬ scr i → w1[i]? = w[i]? := fun i hi => f.2 i (fun q => hi (hP i q).1)
  exact ⟨(e _ (by decide)).trans h1, h2.keep (fun i _ _ => e i (fun q => by omega)) (fun i _ _ => e i (fun q => by omega)) (e _ (by decide)) (gEq.rf g) (h2.mr.up P (fun i _ _ hi => f.2 i hi) (fun i _ _ hi => (hP i hi).2))⟩
theorem SX.put (h : SX w g S) (hg : gEq g g1) : SX (w.set 100 (mO g1)) g1 S := by
  obtain ⟨h1, h2⟩ := h
  exact ⟨by rw [jset_self, h1]; rfl, h2.keep (fun i _ _ => jset_ne (by omega)) (fun i _ _ => jset_ne (by omega)) (jset_ne (by omega)) hg (h2.mr.fr (fun i _ _ => jset_ne (by omega)))⟩
theorem SX.z (h : SX w g S) {a N : Nat} (h1 : 118 ≤ a) (h2 : a < 148) (e : rwS a = (0, N)) : Za w a N := raw_z (h.2.mr a h1 h2) e
theorem SX.mt (h : SX w g S) (h8 : g 8 = d) : MT w S d := ⟨g, h.1, h8, h.2⟩
theorem VR_fac {n : Nat} (hn : 0 < n) (h : VR n r) : r < fac n := by
  obtain ⟨tl, pl, h1, h2⟩ := h
  rw [← h2]
  exact rk_lt_fac (h1.val hn)
theorem kGoes_ok (hS : SOk S) (h : SX w g S) (ha : 126 < a ∧ a < 148 ∧ ¬ a = 137) (hr : RowK w a (xN S) r) (hd : d < 4)
    (hQ0 : gN (xGr S k) r d = none → Q (.inl (some (.int (zI (-1))))) w) (hQ1 : ∀ r' c w1, gN (xGr S k) r d = some (r', c) → frP (fun i => i = a) w w1 → RowK w1 a (xN S) r' → 1 ≤ c ∧ c ≤ 9 → Q (.inl (some (.int (zI (c : Nat))))) w1) : jmw jm187 [.ref 100, .ref a, .int (zI (d : Int))] w Q := by
  obtain ⟨tl, pl, hA, hrk, hrow⟩ := hr
  obtain ⟨hBr, -, hok, -⟩ := id hS
  have n16 := hS.rng
  have hB := hS.good
  have p0 : pl 0 < bN (xB S) := (hA.2 0 (by omega)).1
  refine mGoes_ok (y := (tl, pl)) (we := (xA S).2.1) h.1 h.2.1 hBr ⟨by omega, by omega⟩ hrow hA h.2.2.2.1.2.1 hd (fun hno => hQ0 ?_) (fun y' t w1 hyes f1 hr1 tn => ?_)
  · rw [← hrk]
    rcases hB.nb (pl 0) d p0 hd with e | ⟨q, e, hq, -⟩
    · exact gr_no hB hA e
    · rw [show lyS (xB S) (tl, pl) d = some ((mvT tl (pl 0) q, mvP pl (pl 0) q (tl q)), tl q) from lyS_to e] at hno
      cases hno
  · rcases hB.nb (pl 0) d p0 hd with e | ⟨q, e, hq, -⟩
    · rw [show lyS (xB S) (tl, pl) d = none from lyS_no e] at hyes
      cases hyes
    · have la := lyS_arr hB (y := (tl, pl)) hA hd hyes
      rw [show lyS (xB S) (tl, pl) d = some ((mvT tl (pl 0) q, mvP pl (pl 0) q (tl q)), tl q) from lyS_to e] at hyes
      injection hyes with hyes
      injection hyes with h1 h2
      subst h1 h2
      refine hQ1 _ _ w1 (by rw [← hrk]; exact gr_to hB hA e hq) f1 ⟨_, _, la.1, rfl, hr1⟩ (hok.2.1 _ tn)
theorem kGoal_ok (hS : SOk S) (h : SX w g S) (hr : RowK w a (xN S) r) (hQ : Q (.inl (some (.int (zI (if gG (xGr S k) r = true then 1 else 0))))) w) : jmw jm186 [.ref 100, .ref a] w Q := by
  obtain ⟨tl, pl, hA, hrk, hrow⟩ := hr
  obtain ⟨hBr, -, hok, -⟩ := id hS
  have n16 := hS.rng
  have e : gG (xGr S k) r = goalB (bN (xB S)) (xA S).2.2 (xA S).1 pl := by rw [← hrk]; exact gr_goal hA
  rw [e] at hQ
  exact mGoal_ok (n := xN S) h.1 h.2.1.1.2.2 hrow hA h.2.2.2.1 hok ⟨by omega, n16.2⟩ hQ
theorem lwK {w1 : jW} (h : SX w g S) (f : frP lwP w w1) (z1 : Za w1 121 4) (z2 : Za w1 122 4) : SX w1 g S := by
  obtain ⟨e, i⟩ := h.2.lw f z1 z2
  exact ⟨e.trans h.1, i⟩
theorem kEst_ok (hS : SOk S) (h : SX w g S) (ha : ¬ a = 121 ∧ ¬ a = 122) (hr : RowK w a (xN S) r) (hk : k ≤ 4) (hQ : ∀ w1, frP lwP w w1 → SX w1 g S → Q (.inl (some (.int (zI (gH (xGr S k) r : Nat))))) w1) : jmw jm177 [.ref 100, .ref a, .int (zI (k : Int))] w Q := by
  obtain ⟨tl, pl, hA, hrk, hrow⟩ := hr
  obtain ⟨hBr, -, hok, hpr, hqn, -⟩ := id hS
  have e : gH (xGr S k) r = gsF (xB S) (xA S).2.2 (xA S).1 (xA S).2.1 (xPr S) k tl pl := by rw [← hrk]; exact gr_guess hS.good hpr hA
  rw [e] at hQ
  exact mEst_ok h.1 h.2.me hBr hok hpr hqn hrow ha hA hk (fun w1 f1 z1 z2 => hQ w1 f1 (lwK h f1 z1 z2))
theorem kRank_ok (hS : SOk S) (h : SX w g S) (hr : RowK w a (xN S) r) (hQ : Q (.inl (some (.long (zL (r : Nat))))) w) : jmw jm170 [.ref 100, .ref a] w Q := by
  obtain ⟨tl, pl, hA, hrk, hrow⟩ := hr
  have n16 := hS.rng
  rw [← hrk] at hQ
  exact mRank_ok (n := xN S) h.1 h.2.1.1.2.2 hrow hA ⟨by omega, n16.2⟩ hQ
theorem kLays_ok (hS : SOk S) (h : SX w g S) (hr : r < fac (xN S)) (hQ : ∀ w1, frP (fun i => i = 136 ∨ i = 120) w w1 → SX w1 g S → RowK w1 136 (xN S) r → Q (.inl none) w1) : jmw jm172 [.ref 100, .long (zL (r : Int)), .ref 136] w Q := by
  have n16 := hS.rng
  obtain ⟨f0, h136⟩ := h.z (a := 136) (by omega) (by omega) rfl
  obtain ⟨us, h120⟩ := raw_b (h.2.mr 120 (by omega) (by omega)) rfl
  exact mLays_ok (n := xN S) h.1 h.2.1.1.2.2 ⟨by omega, n16.2⟩ hr h136 ⟨by omega, by omega⟩ h120 (fun w1 tl pl us1 f1 hr1 hu hA hrk => hQ w1 f1 (h.mv f1 (fun i hi => by
    rcases hi with rfl | rfl
    · exact ⟨by decide, z_raw hr1.za rfl⟩
    · exact ⟨by decide, b_raw ⟨us1, hu⟩ rfl⟩)) ⟨tl, pl, hA, hrk, hr1⟩)
theorem kLaysRow_ok (hS : SOk S) (h : SX w g S) (hQ : ∀ w1, frP (fun i => i = 136) w w1 → SX w1 g S → RowK w1 136 (xN S) (xRk S) → Q (.inl none) w1) : jmw jm218 [.ref 100] w Q := by
  have n16 := hS.rng
  exact mLaysRow_ok (n := xN S) h.1 h.2.1.1.2.2 n16.2 h.2.2.1 (h.z (by omega) (by omega) rfl) (fun w1 f1 hr1 => hQ w1 f1 (h.mv f1 (fun i hi => by subst hi; exact ⟨by decide, z_raw hr1.za rfl⟩)) ⟨(xY S).1, (xY S).2, hS.2.1, rfl, hr1⟩)
end SXS
