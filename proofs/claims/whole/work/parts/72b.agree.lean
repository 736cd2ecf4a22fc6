/-! both sides agree, call by call (1) -/
section OA
variable {w : jW} {S : ST}
abbrev inI (v : Int) : Prop := -2147483648 ≤ v ∧ v < 2147483648
theorem oTray (h : LJ w S) {r c t : Int} (hr : inI r) (hc : inI c) (ht : inI t) : jmw jm108 [.ref 0, .int (zI r), .int (zI c), .int (zI t)] w (Agree 0 [0] (fun _ => 1) jm167 [.ref 100, .int (zI r), .int (zI c), .int (zI t)] w) := by
  have yes : ∀ R C m : Nat, r = R → c = C → t = m → 2 ≤ R ∧ R ≤ 4 → 2 ≤ C ∧ C ≤ 4 → m < 2 ^ (R * C) → TrayOk R C m → 2 ≤ r ∧ r ≤ 4 ∧ 2 ≤ c ∧ c ≤ 4 ∧ 0 ≤ t ∧ t < ((2 ^ (r.toNat * c.toNat) : Nat) : Int) ∧ TrayOk r.toNat c.toNat t.toNat := fun R C m e1 e2 e3 hR hC hm tok => by
    subst e1 e2 e3
    rw [Int.toNat_natCast, Int.toNat_natCast, Int.toNat_natCast]
    exact ⟨by omega, by omega, by omega, by omega, by omega, by omega, tok⟩
  refine cTray h.1 hr hc ht (fun R C m e1 e2 e3 hR hC hm tok w1 B y a p hb f1 c1 => ⟨tyI, f1, fun w2 f2 => ?_⟩) (fun hz => ⟨tyE (by decide), frP_rf w, fun w2 f2 => ?_⟩)
  · refine rTray (B := B) (y := y) (a0 := a) (p := p) (h.mi2 f1 f2) hr hc ht (fun R' C' m' e1' e2' e3' _ _ _ _ => ?_) (fun R' C' m' e1' e2' e3' _ _ _ _ w3 f3 m3 => ?_) (fun hz w3 f3 m3 => ?_)
    · obtain rfl : R' = R := by omega
      obtain rfl : C' = C := by omega
      obtain rfl : m' = m := by omega
      exact hb
    · obtain rfl : R' = R := by omega
      obtain rfl : C' = C := by omega
      obtain rfl : m' = m := by omega
      exact agI c1 prZ_px f2 f3 m3 (by decide)
    · exact absurd (yes R C m e1 e2 e3 hR hC hm tok) hz
  · refine rTray (B := xB S) (y := xY S) (a0 := xA S) (p := xPr S) (h.mi2 (frP_rf w) f2) hr hc ht (fun R' C' m' e1' e2' e3' q1 q2 q3 q4 => absurd (yes R' C' m' e1' e2' e3' q1 q2 q3 q4) hz) (fun R' C' m' e1' e2' e3' q1 q2 q3 q4 w3 f3 m3 => absurd (yes R' C' m' e1' e2' e3' q1 q2 q3 q4) hz) (fun hz w3 f3 m3 => ?_)
    exact agE (c := 1) h.1 h.2.2 f2 f3 m3 rfl (by decide)
theorem oLay (h : LJ w S) {v : Int} (hv : -9223372036854775808 ≤ v ∧ v < 9223372036854775808) : jmw jm109 [.ref 0, .long (zL v)] w (Agree 0 [0] (fun _ => 1) jm188 [.ref 100, .long (zL v)] w) := by
  refine cLay h.1 hv (fun r e hr w1 y hA hk f1 c1 => ⟨tyI, f1, fun w2 f2 => ?_⟩) (fun hz => ⟨tyE (by decide), frP_rf w, fun w2 f2 => ?_⟩)
  · refine rLay h.1.1 (h.mi2 f1 f2) hv (fun r' e' hr' w3 y' hA' hk' f3 m3 => ?_) (fun hz w3 f3 m3 => absurd ⟨by omega, by omega⟩ hz)
    obtain rfl : r' = r := by omega
    have hn : 0 < xN S := by have := h.1.1.rng; omega
    have u := (rk_un hA' hA (hk'.trans hk.symm)).2 0 hn
    have m4 : MT w3 (uK (uY S y) (0, (xK S).2)) 0 := by
      obtain ⟨g, q1, q2, p1, p2, p3⟩ := m3
      refine ⟨g, q1, q2, p1, ?_, p3⟩
      obtain ⟨f, x1, x2⟩ := p2
      refine ⟨f, x1, fun j hj => ?_⟩
      rw [x2 j hj]
      have u1 := (rk_un hA' hA (hk'.trans hk.symm)).1 j hj
      show ((y'.1 j : Nat) : Int) = ((y.1 j : Nat) : Int)
      rw [u1]
    rw [u]
    exact agI c1 h.2.2 f2 f3 m4 (by decide)
  · refine rLay h.1.1 (h.mi2 (frP_rf w) f2) hv (fun r' e' hr' w3 y' hA' hk' f3 m3 => absurd ⟨by omega, by omega⟩ hz) (fun hz w3 f3 m3 => ?_)
    exact agE (c := 1) h.1 h.2.2 f2 f3 m3 rfl (by decide)
theorem oMix (h : LJ w S) {v m : Int} (hm : inI m) : jmw jm110 [.ref 0, .int (zI v), .int (zI m)] w (Agree 0 [0] (fun _ => 1) jm189 [.ref 100, .int (zI v), .int (zI m)] w) := by
  refine cMix h.1 hm (fun k e hk w1 f1 c1 => ⟨tyI, f1, fun w2 f2 => ?_⟩) (fun hz => ⟨tyE (by decide), frP_rf w, fun w2 f2 => ?_⟩)
  · refine rMix h.1.1 (h.mi2 f1 f2) hm (fun k' e' hk' w3 f3 m3 => ?_) (fun hz w3 f3 m3 => absurd ⟨by omega, by omega⟩ hz)
    obtain rfl : k' = k := by omega
    exact agI c1 h.2.2 f2 f3 m3 (by decide)
  · refine rMix h.1.1 (h.mi2 (frP_rf w) f2) hm (fun k' e' hk' w3 f3 m3 => absurd ⟨by omega, by omega⟩ hz) (fun hz w3 f3 m3 => ?_)
    exact agE (c := 1) h.1 h.2.2 f2 f3 m3 rfl (by decide)
theorem oSetGoal (h : LJ w S) : jmw jm111 [.ref 0] w (Agree 1 [] (fun _ => 0) jm190 [.ref 100] w) := by
  refine cSetGoal h.1 (fun w1 go1 hgo f1 c1 => ⟨tyL, f1, fun w2 f2 => ?_⟩)
  exact rSetGoal h.1.1 (h.mi2 f1 f2) hgo (fun w3 f3 m3 => agL c1 prZ_px f2 f3 m3)
theorem oSetFree (h : LJ w S) {v : Int} (hv : inI v) {b : Bool} : jmw jm112 [.ref 0, .int (zI v), .int (zI (if b then 1 else 0))] w (Agree 2 [2] (fun _ => 1) jm191 [.ref 100, .int (zI v), .int (zI (if b then 1 else 0))] w) := by
  refine cSetFree h.1 hv (fun t e ht w1 f1 c1 => ⟨tyB, f1, fun w2 f2 => ?_⟩) (fun hz => ⟨tyE (by decide), frP_rf w, fun w2 f2 => ?_⟩)
  · refine rSetFree h.1.1 (h.mi2 f1 f2) hv (fun t' e' ht' w3 f3 m3 => ?_) (fun hz w3 f3 m3 => absurd ⟨by omega, by omega⟩ hz)
    obtain rfl : t' = t := by omega
    exact agI c1 prZ_px f2 f3 m3 (by decide)
  · refine rSetFree h.1.1 (h.mi2 (frP_rf w) f2) hv (fun t' e' ht' w3 f3 m3 => absurd ⟨by omega, by omega⟩ hz) (fun hz w3 f3 m3 => ?_)
    exact agE (c := 1) h.1 h.2.2 f2 f3 m3 rfl (by decide)
theorem oSetWeight (h : LJ w S) {v x : Int} (hv : inI v) (hx : inI x) : jmw jm113 [.ref 0, .int (zI v), .int (zI x)] w (Agree 0 [2, 0] (fun e => if e = 2 then 1 else 2) jm192 [.ref 100, .int (zI v), .int (zI x)] w) := by
  refine cSetWeight h.1 hv hx (fun t y e1 e2 ht hy w1 f1 c1 => ⟨tyI, f1, fun w2 f2 => ?_⟩) (fun hz => ⟨tyE (by decide), frP_rf w, fun w2 f2 => ?_⟩) (fun hz1 hz2 => ⟨tyE (by decide), frP_rf w, fun w2 f2 => ?_⟩)
  · refine rSetWeight h.1.1 (h.mi2 f1 f2) hv hx (fun t' y' e1' e2' ht' hy' w3 f3 m3 => ?_) (fun hz w3 f3 m3 => absurd ⟨by omega, by omega⟩ hz) (fun _ hz w3 f3 m3 => absurd ⟨by omega, by omega⟩ hz)
    obtain rfl : t' = t := by omega
    obtain rfl : y' = y := by omega
    exact agI c1 prZ_px f2 f3 m3 (by decide)
  · refine rSetWeight h.1.1 (h.mi2 (frP_rf w) f2) hv hx (fun t' y' e1' e2' ht' hy' w3 f3 m3 => absurd ⟨by omega, by omega⟩ hz) (fun hz w3 f3 m3 => ?_) (fun q _ w3 f3 m3 => absurd q hz)
    exact agE (c := 1) h.1 h.2.2 f2 f3 m3 rfl (by decide)
  · refine rSetWeight h.1.1 (h.mi2 (frP_rf w) f2) hv hx (fun t' y' e1' e2' ht' hy' w3 f3 m3 => absurd ⟨by omega, by omega⟩ hz2) (fun hz w3 f3 m3 => absurd hz1 hz) (fun _ _ w3 f3 m3 => ?_)
    exact agE (c := 2) h.1 h.2.2 f2 f3 m3 rfl (by decide)
theorem oSetLimit (h : LJ w S) {v : Int} (hv : inI v) : jmw jm114 [.ref 0, .int (zI v)] w (Agree 0 [0] (fun _ => 1) jm193 [.ref 100, .int (zI v)] w) := by
  refine cSetLimit h.1 hv (fun l e hl w1 f1 c1 => ⟨tyI, f1, fun w2 f2 => ?_⟩) (fun hz => ⟨tyE (by decide), frP_rf w, fun w2 f2 => ?_⟩)
  · refine rSetLimit (h.mi2 f1 f2) hv (fun l' e' hl' w3 f3 m3 => ?_) (fun hz w3 f3 m3 => absurd ⟨by omega, by omega⟩ hz)
    obtain rfl : l' = l := by omega
    exact agI c1 h.2.2 f2 f3 m3 (by decide)
  · refine rSetLimit (h.mi2 (frP_rf w) f2) hv (fun l' e' hl' w3 f3 m3 => absurd ⟨by omega, by omega⟩ hz) (fun hz w3 f3 m3 => ?_)
    exact agE (c := 1) h.1 h.2.2 f2 f3 m3 rfl (by decide)
theorem oMove (h : LJ w S) {v m : Int} (hv : inI v) (hm : inI m) : jmw jm115 [.ref 0, .int (zI v), .int (zI m)] w (Agree 0 [0, 1] (fun e => if e = 0 then 1 else 2) jm195 [.ref 100, .int (zI v), .int (zI m)] w) := by
  refine cMove h.1 hv hm (fun d k e1 e2 hd hk hs w1 f1 c1 => ⟨tyI, f1, fun w2 f2 => ?_⟩) (fun hz => ⟨tyE (by decide), frP_rf w, fun w2 f2 => ?_⟩) (fun d k e1 e2 hd hk hs => ⟨tyE (by decide), frP_rf w, fun w2 f2 => ?_⟩)
  · refine rMove h.1.1 (h.mi2 f1 f2) hv hm (fun d' k' e1' e2' hd' hk' hs' w3 f3 m3 => ?_) (fun hz w3 f3 m3 => absurd ⟨by omega, by omega, by omega, by omega⟩ hz) (fun d' k' e1' e2' hd' hk' hs' w3 f3 m3 => ?_)
    · obtain rfl : d' = d := by omega
      obtain rfl : k' = k := by omega
      exact agI c1 h.2.2 f2 f3 m3 (by decide)
    · obtain rfl : d' = d := by omega
      obtain rfl : k' = k := by omega
      exact absurd hs' hs
  · refine rMove h.1.1 (h.mi2 (frP_rf w) f2) hv hm (fun d' k' e1' e2' hd' hk' hs' w3 f3 m3 => absurd ⟨by omega, by omega, by omega, by omega⟩ hz) (fun hz w3 f3 m3 => ?_) (fun d' k' e1' e2' hd' hk' hs' w3 f3 m3 => absurd ⟨by omega, by omega, by omega, by omega⟩ hz)
    exact agE (c := 1) h.1 h.2.2 f2 f3 m3 rfl (by decide)
  · refine rMove h.1.1 (h.mi2 (frP_rf w) f2) hv hm (fun d' k' e1' e2' hd' hk' hs' w3 f3 m3 => ?_) (fun hz w3 f3 m3 => absurd ⟨by omega, by omega, by omega, by omega⟩ hz) (fun d' k' e1' e2' hd' hk' hs' w3 f3 m3 => ?_)
    · obtain rfl : d' = d := by omega
      obtain rfl : k' = k := by omega
      exact absurd hs hs'
    · exact agE (c := 2) h.1 h.2.2 f2 f3 m3 rfl (by decide)
theorem oUndo (h : LJ w S) {v : Int} (hv : inI v) : jmw jm116 [.ref 0, .int (zI v)] w (Agree 0 [0] (fun _ => 1) jm196 [.ref 100, .int (zI v)] w) := by
  refine cUndo h.1 hv (fun m u e hm hu w1 f1 c1 => ⟨tyI, f1, fun w2 f2 => ?_⟩) (fun hz => ⟨tyE (by decide), frP_rf w, fun w2 f2 => ?_⟩)
  · refine rUndo h.1.1 (h.mi2 f1 f2) hv (fun m' u' e' hm' hu' w3 f3 m3 => ?_) (fun hz w3 f3 m3 => absurd ⟨by omega, by omega⟩ hz)
    obtain rfl : m' = m := by omega
    obtain rfl : u' = u := hu'.trans hu.symm
    exact agI c1 h.2.2 f2 f3 m3 (by decide)
  · refine rUndo h.1.1 (h.mi2 (frP_rf w) f2) hv (fun m' u' e' hm' hu' w3 f3 m3 => absurd ⟨by omega, by omega⟩ hz) (fun hz w3 f3 m3 => ?_)
    exact agE (c := 1) h.1 h.2.2 f2 f3 m3 rfl (by decide)
theorem oSetMacro (h : LJ w S) {v : Int} (hv : inI v) {L : Int64} : jmw jm117 [.ref 0, .int (zI v), .long L] w (Agree 0 [2, 0] (fun e => if e = 2 then 1 else 2) jm198 [.ref 100, .int (zI v), .long L] w) := by
  refine cSetMacro h.1 hv (fun c e hc hk w1 f1 c1 => ⟨tyI, f1, fun w2 f2 => ?_⟩) (fun hz => ⟨tyE (by decide), frP_rf w, fun w2 f2 => ?_⟩) (fun hz1 hz2 => ⟨tyE (by decide), frP_rf w, fun w2 f2 => ?_⟩)
  · refine rSetMacro h.1.1 (h.mi2 f1 f2) hv (fun c' e' hc' hk' w3 f3 m3 => ?_) (fun hz w3 f3 m3 => absurd ⟨by omega, by omega⟩ hz) (fun _ hz w3 f3 m3 => absurd hk hz)
    obtain rfl : c' = c := by omega
    exact agI c1 h.2.2 f2 f3 m3 (by decide)
  · refine rSetMacro h.1.1 (h.mi2 (frP_rf w) f2) hv (fun c' e' hc' hk' w3 f3 m3 => absurd ⟨by omega, by omega⟩ hz) (fun hz w3 f3 m3 => ?_) (fun q _ w3 f3 m3 => absurd q hz)
    exact agE (c := 1) h.1 h.2.2 f2 f3 m3 rfl (by decide)
  · refine rSetMacro h.1.1 (h.mi2 (frP_rf w) f2) hv (fun c' e' hc' hk' w3 f3 m3 => absurd hk' hz2) (fun hz w3 f3 m3 => absurd hz1 hz) (fun _ _ w3 f3 m3 => ?_)
    exact agE (c := 2) h.1 h.2.2 f2 f3 m3 rfl (by decide)
theorem oPlay (h : LJ w S) {v m : Int} (hv : inI v) (hm : inI m) : jmw jm118 [.ref 0, .int (zI v), .int (zI m)] w (Agree 0 [2, 0, 3] (fun e => if e = 2 then 1 else if e = 0 then 2 else 3) jm199 [.ref 100, .int (zI v), .int (zI m)] w) := by
  refine cPlay h.1 hv hm (fun c t e1 e2 hc ht hz0 w1 f1 c1 => ⟨tyI, f1, fun w2 f2 => ?_⟩) (fun hz => ⟨tyE (by decide), frP_rf w, fun w2 f2 => ?_⟩) (fun hz1 hz2 => ⟨tyE (by decide), frP_rf w, fun w2 f2 => ?_⟩) (fun c e1 hc hm2 hz0 => ⟨tyE (by decide), frP_rf w, fun w2 f2 => ?_⟩)
  · refine rPlay h.1.1 (h.mi2 f1 f2) hv hm (fun c' t' e1' e2' hc' ht' hz0' w3 f3 m3 => ?_) (fun hz w3 f3 m3 => absurd ⟨by omega, by omega⟩ hz) (fun _ hz w3 f3 m3 => absurd ⟨by omega, by omega⟩ hz) (fun c' e1' hc' hm2' hz0' w3 f3 m3 => ?_)
    · obtain rfl : c' = c := by omega
      obtain rfl : t' = t := by omega
      exact agI c1 h.2.2 f2 f3 m3 (by decide)
    · obtain rfl : c' = c := by omega
      exact absurd hz0' hz0
  · refine rPlay h.1.1 (h.mi2 (frP_rf w) f2) hv hm (fun c' t' e1' e2' hc' ht' hz0' w3 f3 m3 => absurd ⟨by omega, by omega⟩ hz) (fun hz w3 f3 m3 => ?_) (fun q _ w3 f3 m3 => absurd q hz) (fun c' e1' hc' hm2' hz0' w3 f3 m3 => absurd ⟨by omega, by omega⟩ hz)
    exact agE (c := 1) h.1 h.2.2 f2 f3 m3 rfl (by decide)
  · refine rPlay h.1.1 (h.mi2 (frP_rf w) f2) hv hm (fun c' t' e1' e2' hc' ht' hz0' w3 f3 m3 => absurd ⟨by omega, by omega⟩ hz2) (fun hz w3 f3 m3 => absurd hz1 hz) (fun _ _ w3 f3 m3 => ?_) (fun c' e1' hc' hm2' hz0' w3 f3 m3 => absurd hm2' hz2)
    exact agE (c := 2) h.1 h.2.2 f2 f3 m3 rfl (by decide)
  · refine rPlay h.1.1 (h.mi2 (frP_rf w) f2) hv hm (fun c' t' e1' e2' hc' ht' hz0' w3 f3 m3 => ?_) (fun hz w3 f3 m3 => absurd ⟨by omega, by omega⟩ hz) (fun _ q w3 f3 m3 => absurd hm2 q) (fun c' e1' hc' hm2' hz0' w3 f3 m3 => ?_)
    · obtain rfl : c' = c := by omega
      exact absurd hz0 hz0'
    · exact agE (c := 3) h.1 h.2.2 f2 f3 m3 rfl (by decide)
theorem oKeep (h : LJ w S) {v : Int} (hv : inI v) : jmw jm119 [.ref 0, .int (zI v)] w (Agree 1 [2] (fun _ => 1) jm200 [.ref 100, .int (zI v)] w) := by
  refine cKeep h.1 hv (fun i e hi w1 y a hy ha f1 c1 => ⟨tyL, f1, fun w2 f2 => ?_⟩) (fun hz => ⟨tyE (by decide), frP_rf w, fun w2 f2 => ?_⟩)
  · refine rKeep (yi := fun _ => y) (ai := fun _ => a) h.1.1 (h.mi2 f1 f2) hv (fun i' e' hi' w3 f3 m3 => ?_) (fun hz w3 f3 m3 => absurd ⟨by omega, by omega⟩ hz)
    obtain rfl : i' = i := by omega
    exact agL c1 h.2.2 f2 f3 (m3 y a hy ha)
  · refine rKeep (yi := fun _ => xY S) (ai := fun _ => xA S) h.1.1 (h.mi2 (frP_rf w) f2) hv (fun i' e' hi' w3 f3 m3 => absurd ⟨by omega, by omega⟩ hz) (fun hz w3 f3 m3 => ?_)
    exact agEl (c := 1) h.1 h.2.2 f2 f3 m3 rfl
theorem oRestore (h : LJ w S) {v : Int} (hv : inI v) : jmw jm120 [.ref 0, .int (zI v)] w (Agree 0 [2, 1] (fun e => if e = 2 then 1 else 2) jm201 [.ref 100, .int (zI v)] w) := by
  refine cRestore h.1 hv (fun i e hi z hz w1 y a hy ha f1 c1 => ⟨tyI, f1, fun w2 f2 => ?_⟩) (fun hz => ⟨tyE (by decide), frP_rf w, fun w2 f2 => ?_⟩) (fun i e hi hz => ⟨tyE (by decide), frP_rf w, fun w2 f2 => ?_⟩)
  · refine rRestore h.1.1 (h.mi2 f1 f2) hv (fun i' e' hi' z' hz' w3 f3 m3 => ?_) (fun hz w3 f3 m3 => absurd ⟨by omega, by omega⟩ hz) (fun i' e' hi' hz' w3 f3 m3 => ?_)
    · obtain rfl : i' = i := by omega
      rw [hz] at hz'
      injection hz' with hz'
      subst hz'
      have hn : 0 < xN S := by have := h.1.1.rng; omega
      rw [← hy.2 0 hn]
      exact agI c1 prZ_px f2 f3 (m3 y a hy ha) (by decide)
    · obtain rfl : i' = i := by omega
      rw [hz] at hz'; cases hz'
  · refine rRestore h.1.1 (h.mi2 (frP_rf w) f2) hv (fun i' e' hi' z' hz' w3 f3 m3 => absurd ⟨by omega, by omega⟩ hz) (fun hz w3 f3 m3 => ?_) (fun i' e' hi' hz' w3 f3 m3 => absurd ⟨by omega, by omega⟩ hz)
    exact agE (c := 1) h.1 h.2.2 f2 f3 m3 rfl (by decide)
  · refine rRestore h.1.1 (h.mi2 (frP_rf w) f2) hv (fun i' e' hi' z' hz' w3 f3 m3 => ?_) (fun hz w3 f3 m3 => absurd ⟨by omega, by omega⟩ hz) (fun i' e' hi' hz' w3 f3 m3 => ?_)
    · obtain rfl : i' = i := by omega
      rw [hz] at hz'; cases hz'
    · exact agE (c := 2) h.1 h.2.2 f2 f3 m3 rfl (by decide)
theorem oTileAt (h : LJ w S) {v : Int} (hv : inI v) : jmw jm121 [.ref 0, .int (zI v)] w (Agree 0 [2] (fun _ => 1) jm202 [.ref 100, .int (zI v)] w) := by
  refine cTileAt h.1 hv (fun c e hc => ⟨tyI, frP_rf w, fun w2 f2 => ?_⟩) (fun hz => ⟨tyE (by decide), frP_rf w, fun w2 f2 => ?_⟩)
  · refine rTileAt h.1.1 (h.mi2 (frP_rf w) f2) hv (fun c' e' hc' w3 f3 m3 => ?_) (fun hz w3 f3 m3 => absurd ⟨by omega, by omega⟩ hz)
    obtain rfl : c' = c := by omega
    exact agI h.1 h.2.2 f2 f3 m3 (by decide)
  · refine rTileAt h.1.1 (h.mi2 (frP_rf w) f2) hv (fun c' e' hc' w3 f3 m3 => absurd ⟨by omega, by omega⟩ hz) (fun hz w3 f3 m3 => ?_)
    exact agE (c := 1) h.1 h.2.2 f2 f3 m3 rfl (by decide)
end OA
