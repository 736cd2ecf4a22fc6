/-! moves can be taken back -/
theorem mv_back {n : Nat} {tl pl : Nat → Nat} (h : Arr n tl pl) (hn : 0 < n) {q : Nat} (hq : q < n) (hg : ¬ q = pl 0) : ∀ j, j < n → mvT (mvT tl (pl 0) q) q (pl 0) j = tl j := fun j hj => by
  have g0 := (h.2 0 hn).2
  unfold mvT
  by_cases c : j = pl 0
  · rw [c, un_eq, g0]
  · rw [un_ne c]
    by_cases d : j = q
    · rw [d, un_eq, un_ne (fun z => hg z.symm), un_eq]
    · rw [un_ne d, un_ne d, un_ne c]
theorem gr_rev {B : BD} (hB : BGood B) (go we : Nat → Nat) (fb k : Nat) (pr : PR) {r d r' c : Nat} (hv : VR (bN B) r) (hd : d < 4) (hx : gN (grF B go we fb pr k) r d = some (r', c)) :
    VR (bN B) r' ∧ ¬ r' = r ∧ gN (grF B go we fb pr k) r' (3 - d) = some (r, c) ∧ ∃ (tl pl : Nat → Nat) (q : Nat), Arr (bN B) tl pl ∧ rkT (bN B) tl = r ∧ bNB B (4 * pl 0 + d) = (q : Int) ∧ q < bN B ∧ ¬ q = pl 0 ∧ r' = rkT (bN B) (mvT tl (pl 0) q) ∧ c = we (tl q) ∧ 0 < tl q ∧ tl q < bN B := by
  obtain ⟨tl, pl, hA, rfl⟩ := hv
  have n3 := hB.rng
  have p0 := hA.2 0 (by omega)
  rcases hB.nb (pl 0) d p0.1 hd with e | ⟨q, e1, e2, e3, e4⟩
  · rw [gr_no hB hA e] at hx; cases hx
  · rw [gr_to hB hA e1 e2] at hx
    injection hx with hx
    injection hx with h1 h2
    have A' := hA.mv (by omega) e2 e3
    have tq := hA.1 q e2
    have tq0 : ¬ tl q = 0 := fun z => e3 (by rw [← tq.2, z])
    have g' : mvP pl (pl 0) q (tl q) 0 = q := by unfold mvP; exact un_eq
    have e4' : bNB B (4 * mvP pl (pl 0) q (tl q) 0 + (3 - d)) = ((pl 0 : Nat) : Int) := by rw [g']; exact e4
    have back := gr_to (go := go) (we := we) (fb := fb) (k := k) (pr := pr) hB A' e4' p0.1
    rw [g'] at back
    have mt : mvT tl (pl 0) q (pl 0) = tl q := by unfold mvT; rw [un_ne (fun z => e3 z.symm), un_eq]
    have rb : rkT (bN B) (mvT (mvT tl (pl 0) q) q (pl 0)) = rkT (bN B) tl := rkT_congr (mv_back hA (by omega) e2 e3)
    rw [rb, mt] at back
    subst h1 h2
    refine ⟨⟨_, _, A', rfl⟩, fun z => ?_, back, tl, pl, q, hA, rfl, e1, e2, e3, rfl, rfl, by omega, tq.1⟩
    have := (rk_un A' hA z).1 q e2
    unfold mvT at this
    rw [un_eq] at this
    exact tq0 this.symm
