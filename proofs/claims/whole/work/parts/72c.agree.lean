/-! both sides agree, call by call (2) -/
section OB
variable {w : jW} {S : ST}
theorem oRank (h : LJ w S) : jmw jm122 [.ref 0] w (Agree 1 [] (fun _ => 0) jm203 [.ref 100] w) :=
  cRank h.1 ⟨tyL, frP_rf w, fun w2 f2 => rRank h.1.1 (h.mi2 (frP_rf w) f2) (fun w3 f3 m3 => agL h.1 h.2.2 f2 f3 m3)⟩
theorem oInversions (h : LJ w S) : jmw jm123 [.ref 0] w (Agree 0 [] (fun _ => 0) jm205 [.ref 100] w) :=
  cInversions h.1 ⟨tyI, frP_rf w, fun w2 f2 => rInversions h.1.1 (h.mi2 (frP_rf w) f2) (fun w3 f3 m3 => agI h.1 h.2.2 f2 f3 m3 (by decide))⟩
theorem oReaches (h : LJ w S) : jmw jm124 [.ref 0] w (Agree 2 [1] (fun _ => 1) jm208 [.ref 100] w) := by
  obtain ⟨gi, hg⟩ := h.1.1.2.2.1.1
  refine cReaches h.1 (fun e1 e2 w1 gi' hg' f1 c1 => ⟨?_, f1, fun w2 f2 => ?_⟩) (fun hz => ⟨tyE (by decide), frP_rf w, fun w2 f2 => ?_⟩)
  · exact Or.inr (Or.inr (Or.inl ⟨rfl, decide ((invN (fun j => vO (xN S) ((xY S).1 j)) (xN S) + invN (fun j => vO (xN S) (gi' j)) (xN S) + bST (xB S) (16 * (xY S).2 0 + (xA S).1 0)) % 2 = 0), by simp only [decide_eq_true_eq]⟩))
  · exact rReaches h.1.1 (h.mi2 f1 f2) hg' (fun _ _ w3 f3 m3 => agI c1 h.2.2 f2 f3 m3 (by decide)) (fun hz w3 f3 m3 => absurd ⟨e1, e2⟩ hz)
  · refine rReaches h.1.1 (h.mi2 (frP_rf w) f2) hg (fun e1 e2 w3 f3 m3 => absurd ⟨e1, e2⟩ hz) (fun hz w3 f3 m3 => ?_)
    exact agE (c := 1) h.1 h.2.2 f2 f3 m3 rfl (by decide)
theorem oEstimate (h : LJ w S) {v : Int} (hv : inI v) : jmw jm125 [.ref 0, .int (zI v)] w (Agree 0 [0] (fun _ => 1) jm209 [.ref 100, .int (zI v)] w) := by
  refine cEstimate h.1 hv (fun k e hk w1 f1 c1 => ⟨tyI, f1, fun w2 f2 => ?_⟩) (fun hz => ⟨tyE (by decide), frP_rf w, fun w2 f2 => ?_⟩)
  · refine rEstimate h.1.1 (h.mi2 f1 f2) hv (fun k' e' hk' w3 f3 m3 => ?_) (fun hz w3 f3 m3 => absurd ⟨by omega, by omega⟩ hz)
    obtain rfl : k' = k := by omega
    exact agI c1 h.2.2 f2 f3 m3 (by decide)
  · refine rEstimate h.1.1 (h.mi2 (frP_rf w) f2) hv (fun k' e' hk' w3 f3 m3 => absurd ⟨by omega, by omega⟩ hz) (fun hz w3 f3 m3 => ?_)
    exact agE (c := 1) h.1 h.2.2 f2 f3 m3 rfl (by decide)
theorem oSolve (h : LJ w S) {v : Int} (hv : inI v) : jmw jm126 [.ref 0, .int (zI v)] w (Agree 0 [0, 1] (fun e => if e = 0 then 1 else 2) jm219 [.ref 100, .int (zI v)] w) := by
  refine cSolve h.1 hv (fun k e hk res er hz w1 f1 c1 => ⟨tyI, f1, fun w2 f2 => ?_⟩) (fun hz => ⟨tyE (by decide), frP_rf w, fun w2 f2 => ?_⟩) (fun k e hk hz w1 f1 c1 => ⟨tyE (by decide), f1, fun w2 f2 => ?_⟩)
  · refine rSolve h.1.1 (h.mi2 f1 f2) hv (fun k' e' hk' res' er' hz' w3 f3 m3 => ?_) (fun hz w3 f3 m3 => absurd ⟨by omega, by omega⟩ hz) (fun k' e' hk' hz' w3 f3 m3 => ?_)
    · obtain rfl : k' = k := by omega
      obtain rfl : res' = res := er'.trans er.symm
      exact agI c1 h.2.2 f2 f3 m3 (by decide)
    · obtain rfl : k' = k := by omega
      rw [← er] at hz'
      exact absurd hz' hz
  · refine rSolve h.1.1 (h.mi2 (frP_rf w) f2) hv (fun k' e' hk' res' er' hz' w3 f3 m3 => absurd ⟨by omega, by omega⟩ hz) (fun hz w3 f3 m3 => ?_) (fun k' e' hk' hz' w3 f3 m3 => absurd ⟨by omega, by omega⟩ hz)
    exact agE (c := 1) h.1 h.2.2 f2 f3 m3 rfl (by decide)
  · refine rSolve h.1.1 (h.mi2 f1 f2) hv (fun k' e' hk' res' er' hz' w3 f3 m3 => ?_) (fun hz w3 f3 m3 => absurd ⟨by omega, by omega⟩ hz) (fun k' e' hk' hz' w3 f3 m3 => ?_)
    · obtain rfl : k' = k := by omega
      rw [er'] at hz'
      exact absurd hz hz'
    · exact agE (c := 2) c1 h.2.2 f2 f3 m3 rfl (by decide)
theorem oDeepen (h : LJ w S) {v : Int} (hv : inI v) : jmw jm127 [.ref 0, .int (zI v)] w (Agree 0 [0, 1] (fun e => if e = 0 then 1 else 2) jm223 [.ref 100, .int (zI v)] w) := by
  refine cDeepen h.1 hv (fun k e hk res er hz w1 f1 c1 => ⟨tyI, f1, fun w2 f2 => ?_⟩) (fun hz => ⟨tyE (by decide), frP_rf w, fun w2 f2 => ?_⟩) (fun k e hk hz w1 f1 c1 => ⟨tyE (by decide), f1, fun w2 f2 => ?_⟩)
  · refine rDeepen h.1.1 (h.mi2 f1 f2) hv (fun k' e' hk' res' er' hz' w3 f3 m3 => ?_) (fun hz w3 f3 m3 => absurd ⟨by omega, by omega⟩ hz) (fun k' e' hk' hz' w3 f3 m3 => ?_)
    · obtain rfl : k' = k := by omega
      obtain rfl : res' = res := er'.trans er.symm
      exact agI c1 h.2.2 f2 f3 m3 (by decide)
    · obtain rfl : k' = k := by omega
      rw [← er] at hz'
      exact absurd hz' hz
  · refine rDeepen h.1.1 (h.mi2 (frP_rf w) f2) hv (fun k' e' hk' res' er' hz' w3 f3 m3 => absurd ⟨by omega, by omega⟩ hz) (fun hz w3 f3 m3 => ?_) (fun k' e' hk' hz' w3 f3 m3 => absurd ⟨by omega, by omega⟩ hz)
    exact agE (c := 1) h.1 h.2.2 f2 f3 m3 rfl (by decide)
  · refine rDeepen h.1.1 (h.mi2 f1 f2) hv (fun k' e' hk' res' er' hz' w3 f3 m3 => ?_) (fun hz w3 f3 m3 => absurd ⟨by omega, by omega⟩ hz) (fun k' e' hk' hz' w3 f3 m3 => ?_)
    · obtain rfl : k' = k := by omega
      rw [er'] at hz'
      exact absurd hz hz'
    · exact agE (c := 2) c1 h.2.2 f2 f3 m3 rfl (by decide)
theorem oBoth (h : LJ w S) : jmw jm128 [.ref 0] w (Agree 0 [1] (fun _ => 1) jm227 [.ref 100] w) := by
  obtain ⟨gi, hg⟩ := h.1.1.2.2.1.1
  refine cBoth h.1 (fun ef gi' hg' res er hz w1 f1 c1 => ⟨tyI, f1, fun w2 f2 => ?_⟩) (fun hz => ⟨tyE (by decide), frP_rf w, fun w2 f2 => ?_⟩) (fun ef gi' hg' hz w1 f1 c1 => ⟨tyE (by decide), f1, fun w2 f2 => ?_⟩)
  · refine rBoth h.1.1 (h.mi2 f1 f2) hg' (fun _ res' er' hz' w3 f3 m3 => ?_) (fun hz w3 f3 m3 => absurd ef hz) (fun _ hz' w3 f3 m3 => ?_)
    · obtain rfl : res' = res := er'.trans er.symm
      exact agI c1 h.2.2 f2 f3 m3 (by decide)
    · rw [← er] at hz'
      exact absurd hz' hz
  · refine rBoth h.1.1 (h.mi2 (frP_rf w) f2) hg (fun ef res' er' hz' w3 f3 m3 => absurd ef hz) (fun hz w3 f3 m3 => ?_) (fun ef hz' w3 f3 m3 => absurd ef hz)
    exact agE (c := 1) h.1 h.2.2 f2 f3 m3 rfl (by decide)
  · refine rBoth h.1.1 (h.mi2 f1 f2) hg' (fun _ res' er' hz' w3 f3 m3 => ?_) (fun hz w3 f3 m3 => absurd ef hz) (fun _ hz' w3 f3 m3 => ?_)
    · rw [er'] at hz'
      exact absurd hz hz'
    · exact agE (c := 1) c1 h.2.2 f2 f3 m3 rfl (by decide)
theorem oSearched (h : LJ w S) {v : Int} (hv : inI v) : jmw jm129 [.ref 0, .int (zI v)] w (Agree 0 [0] (fun _ => 1) jm228 [.ref 100, .int (zI v)] w) := by
  refine cSearched h.1 hv (fun hr => ⟨tyI, frP_rf w, fun w2 f2 => ?_⟩) (fun hz => ⟨tyE (by decide), frP_rf w, fun w2 f2 => ?_⟩)
  · exact rSearched (h.mi2 (frP_rf w) f2) hv (fun _ w3 f3 m3 => agI h.1 h.2.2 f2 f3 m3 (by decide)) (fun hz w3 f3 m3 => absurd hr hz)
  · refine rSearched (h.mi2 (frP_rf w) f2) hv (fun hr w3 f3 m3 => absurd hr hz) (fun hz w3 f3 m3 => ?_)
    exact agE (c := 1) h.1 h.2.2 f2 f3 m3 rfl (by decide)
theorem oWayAt (h : LJ w S) {v : Int} (hv : inI v) : jmw jm130 [.ref 0, .int (zI v)] w (Agree 0 [3] (fun _ => 1) jm229 [.ref 100, .int (zI v)] w) := by
  refine cWayAt h.1 hv (fun j e hj => ⟨tyI, frP_rf w, fun w2 f2 => ?_⟩) (fun hz => ⟨tyE (by decide), frP_rf w, fun w2 f2 => ?_⟩)
  · refine rWayAt h.1.1 (h.mi2 (frP_rf w) f2) hv (fun j' e' hj' w3 f3 m3 => ?_) (fun hz w3 f3 m3 => absurd ⟨by omega, by omega⟩ hz)
    obtain rfl : j' = j := by omega
    exact agI h.1 h.2.2 f2 f3 m3 (by decide)
  · refine rWayAt h.1.1 (h.mi2 (frP_rf w) f2) hv (fun j' e' hj' w3 f3 m3 => absurd ⟨by omega, by omega⟩ hz) (fun hz w3 f3 m3 => ?_)
    exact agE (c := 1) h.1 h.2.2 f2 f3 m3 rfl (by decide)
theorem oHint (h : LJ w S) : jmw jm131 [.ref 0] w (Agree 0 [1] (fun _ => 1) jm230 [.ref 100] w) := by
  refine cHint h.1 (fun x hx w1 f1 c1 => ⟨tyI, f1, fun w2 f2 => ?_⟩) (fun hz w1 f1 c1 => ⟨tyE (by decide), f1, fun w2 f2 => ?_⟩)
  · refine rHint h.1.1 (h.mi2 f1 f2) (fun x' hx' w3 f3 m3 => ?_) (fun hz w3 f3 m3 => ?_)
    · rw [hx] at hx'
      injection hx' with hx'
      subst hx'
      exact agI c1 h.2.2 f2 f3 m3 (by decide)
    · rw [hx] at hz; cases hz
  · refine rHint h.1.1 (h.mi2 f1 f2) (fun x' hx' w3 f3 m3 => ?_) (fun _ w3 f3 m3 => ?_)
    · rw [hz] at hx'; cases hx'
    · exact agE (c := 1) c1 h.2.2 f2 f3 m3 rfl (by decide)
theorem oFar (h : LJ w S) {v : Int} (hv : inI v) : jmw jm132 [.ref 0, .int (zI v)] w (Agree 0 [0, 1] (fun e => if e = 0 then 1 else 2) jm234 [.ref 100, .int (zI v)] w) := by
  refine cFar h.1 hv (fun k e hk hn f wy kn gr fa x ha hx w1 f1 c1 => ⟨tyI, f1, fun w2 f2 => ?_⟩) (fun hz => ⟨tyE (by decide), frP_rf w, fun w2 f2 => ?_⟩) (fun hz1 hz2 => ⟨tyE (by decide), frP_rf w, fun w2 f2 => ?_⟩)
  · refine rFar (f := f) (wy := wy) (kn := kn) (gr := gr) (fa := fa) (x := x) h.1.1 (h.mi2 f1 f2) hv (fun k' e' _ _ => ?_) (fun k' e' hk' hn' w3 f3 m3 => agI c1 h.2.2 f2 f3 m3 (by decide)) (fun hz w3 f3 m3 => absurd ⟨by omega, by omega⟩ hz) (fun _ hz w3 f3 m3 => absurd hn hz)
    obtain rfl : k' = k := by omega
    exact ⟨ha, hx⟩
  · refine rFar (f := fun _ => 0) (wy := fun _ => 0) (kn := 0) (gr := 0) (fa := 0) (x := 0) h.1.1 (h.mi2 (frP_rf w) f2) hv (fun k' e' q _ => absurd ⟨by omega, by omega⟩ hz) (fun k' e' hk' hn' w3 f3 m3 => absurd ⟨by omega, by omega⟩ hz) (fun hz w3 f3 m3 => ?_) (fun q _ w3 f3 m3 => absurd q hz)
    exact agE (c := 1) h.1 h.2.2 f2 f3 m3 rfl (by decide)
  · refine rFar (f := fun _ => 0) (wy := fun _ => 0) (kn := 0) (gr := 0) (fa := 0) (x := 0) h.1.1 (h.mi2 (frP_rf w) f2) hv (fun k' e' _ q => absurd q hz2) (fun k' e' hk' hn' w3 f3 m3 => absurd hn' hz2) (fun hz w3 f3 m3 => absurd hz1 hz) (fun _ _ w3 f3 m3 => ?_)
    exact agE (c := 2) h.1 h.2.2 f2 f3 m3 rfl (by decide)
theorem oOnlyWay (h : LJ w S) {v : Int} (hv : inI v) : jmw jm133 [.ref 0, .int (zI v)] w (Agree 0 [0, 1] (fun e => if e = 0 then 1 else 2) jm235 [.ref 100, .int (zI v)] w) := by
  refine cOnlyWay h.1 hv (fun hk hn f wy kn gr fa x ha hx w1 f1 c1 => ⟨tyI, f1, fun w2 f2 => ?_⟩) (fun hz => ⟨tyE (by decide), frP_rf w, fun w2 f2 => ?_⟩) (fun hz1 hz2 => ⟨tyE (by decide), frP_rf w, fun w2 f2 => ?_⟩)
  · exact rOnlyWay (f := f) (wy := wy) (kn := kn) (gr := gr) (fa := fa) (x := x) h.1.1 (h.mi2 f1 f2) hv (fun _ _ => ⟨ha, hx⟩) (fun _ _ w3 f3 m3 => agI c1 h.2.2 f2 f3 m3 (by decide)) (fun hz w3 f3 m3 => absurd hk hz) (fun _ hz w3 f3 m3 => absurd hn hz)
  · refine rOnlyWay (f := fun _ => 0) (wy := fun _ => 0) (kn := 0) (gr := 0) (fa := 0) (x := 0) h.1.1 (h.mi2 (frP_rf w) f2) hv (fun q _ => absurd q hz) (fun q _ w3 f3 m3 => absurd q hz) (fun hz w3 f3 m3 => ?_) (fun q _ w3 f3 m3 => absurd q hz)
    exact agE (c := 1) h.1 h.2.2 f2 f3 m3 rfl (by decide)
  · refine rOnlyWay (f := fun _ => 0) (wy := fun _ => 0) (kn := 0) (gr := 0) (fa := 0) (x := 0) h.1.1 (h.mi2 (frP_rf w) f2) hv (fun _ q => absurd q hz2) (fun _ q w3 f3 m3 => absurd q hz2) (fun hz w3 f3 m3 => absurd hz1 hz) (fun _ _ w3 f3 m3 => ?_)
    exact agE (c := 2) h.1 h.2.2 f2 f3 m3 rfl (by decide)
theorem oIsFair (h : LJ w S) {v : Int} (hv : inI v) : jmw jm134 [.ref 0, .int (zI v)] w (Agree 2 [0, 1] (fun e => if e = 0 then 1 else 2) jm237 [.ref 100, .int (zI v)] w) := by
  refine cIsFair h.1 hv (fun k e hk hn f wy kn gr fa b ha hb w1 f1 c1 => ⟨tyB, f1, fun w2 f2 => ?_⟩) (fun hz => ⟨tyE (by decide), frP_rf w, fun w2 f2 => ?_⟩) (fun hz1 hz2 => ⟨tyE (by decide), frP_rf w, fun w2 f2 => ?_⟩)
  · refine rIsFair (f := f) (wy := wy) (kn := kn) (gr := gr) (fa := fa) (b := b) h.1.1 (h.mi2 f1 f2) hv (fun k' e' _ _ => ?_) (fun k' e' hk' hn' w3 f3 m3 => agI c1 h.2.2 f2 f3 m3 (by decide)) (fun hz w3 f3 m3 => absurd ⟨by omega, by omega⟩ hz) (fun _ hz w3 f3 m3 => absurd hn hz)
    obtain rfl : k' = k := by omega
    exact ⟨ha, hb⟩
  · refine rIsFair (f := fun _ => 0) (wy := fun _ => 0) (kn := 0) (gr := 0) (fa := 0) (b := true) h.1.1 (h.mi2 (frP_rf w) f2) hv (fun k' e' q _ => absurd ⟨by omega, by omega⟩ hz) (fun k' e' hk' hn' w3 f3 m3 => absurd ⟨by omega, by omega⟩ hz) (fun hz w3 f3 m3 => ?_) (fun q _ w3 f3 m3 => absurd q hz)
    exact agE (c := 1) h.1 h.2.2 f2 f3 m3 rfl (by decide)
  · refine rIsFair (f := fun _ => 0) (wy := fun _ => 0) (kn := 0) (gr := 0) (fa := 0) (b := true) h.1.1 (h.mi2 (frP_rf w) f2) hv (fun k' e' _ q => absurd q hz2) (fun k' e' hk' hn' w3 f3 m3 => absurd hn' hz2) (fun hz w3 f3 m3 => absurd hz1 hz) (fun _ _ w3 f3 m3 => ?_)
    exact agE (c := 2) h.1 h.2.2 f2 f3 m3 rfl (by decide)
theorem oPart (h : LJ w S) {v : Int} (hv : inI v) : jmw jm135 [.ref 0, .int (zI v)] w (Agree 0 [0, 1] (fun e => if e = 0 then 1 else 2) jm185 [.ref 100, .int (zI v)] w) := by
  refine cPart h.1 hv (fun m e hp hr w1 ts f hts f1 c1 => ⟨tyI, f1, fun w2 f2 => ?_⟩) (fun hz => ⟨tyE (by decide), frP_rf w, fun w2 f2 => ?_⟩) (fun m e hp hr => ⟨tyE (by decide), frP_rf w, fun w2 f2 => ?_⟩)
  · refine rPart (ts := ts) (f := f) h.1.1 (h.mi2 f1 f2) h.2.2 hv (fun m' e' _ _ => ?_) (fun m' e' hp' hr' w3 f3 m3 => ?_) (fun hz w3 f3 m3 => absurd ⟨m, e, hp⟩ hz) (fun m' e' hp' hr' w3 f3 m3 => ?_)
    · obtain rfl : m' = m := by omega
      exact ⟨hts, c1.1⟩
    · obtain rfl : m' = m := by omega
      exact agI c1 (prAdd_px h.2.2 hp rfl hts) f2 f3 m3 (by decide)
    · obtain rfl : m' = m := by omega
      exact absurd hr hr'
  · refine rPart (ts := fun _ => 0) (f := fun _ => 0) h.1.1 (h.mi2 (frP_rf w) f2) h.2.2 hv (fun m' e' hp' _ => absurd ⟨m', e', hp'⟩ hz) (fun m' e' hp' hr' w3 f3 m3 => absurd ⟨m', e', hp'⟩ hz) (fun hz w3 f3 m3 => ?_) (fun m' e' hp' hr' w3 f3 m3 => absurd ⟨m', e', hp'⟩ hz)
    exact agE (c := 1) h.1 h.2.2 f2 f3 m3 rfl (by decide)
  · refine rPart (ts := fun _ => 0) (f := fun _ => 0) h.1.1 (h.mi2 (frP_rf w) f2) h.2.2 hv (fun m' e' _ hr' => ?_) (fun m' e' hp' hr' w3 f3 m3 => ?_) (fun hz w3 f3 m3 => absurd ⟨m, e, hp⟩ hz) (fun m' e' hp' hr' w3 f3 m3 => ?_)
    · obtain rfl : m' = m := by omega
      exact absurd hr' hr
    · obtain rfl : m' = m := by omega
      exact absurd hr' hr
    · exact agE (c := 2) h.1 h.2.2 f2 f3 m3 rfl (by decide)
theorem oErrors (h : LJ w S) : jmw jm138 [.ref 0] w (Agree 0 [] (fun _ => 0) jm241 [.ref 100] w) := by
  refine cErrors h.1 (fun hn w1 f1 c1 => ⟨tyI, f1, fun w2 f2 => ?_⟩) (fun hn f wy kn gr fa ha w1 f1 c1 => ⟨tyI, f1, fun w2 f2 => ?_⟩)
  · exact rErrors (f := fun _ => 0) (wy := fun _ => 0) (kn := 0) (gr := 0) (fa := 0) h.1.1 (h.mi2 f1 f2) (fun q => absurd q hn) (fun _ w3 f3 m3 => agI c1 h.2.2 f2 f3 m3 (by decide)) (fun q => absurd q hn)
  · exact rErrors (f := f) (wy := wy) (kn := kn) (gr := gr) (fa := fa) h.1.1 (h.mi2 f1 f2) (fun _ => ha) (fun q => absurd hn q) (fun _ w3 f3 m3 => agI c1 h.2.2 f2 f3 m3 (by decide))
def f2All : Bool := (List.range 17).all (fun a => (List.range 17).all (fun b => decide (b = 0) || decide ((FP.f2d (FP.fdiv (FP.i2f (zI (a : Int))) (FP.i2f (zI (b : Int))))) &&& 0x7fffffffffffffff ≤ (0x7ff0000000000000 : UInt64))))
theorem f2All_ok : f2All = true := by decide +kernel
theorem f20_ok : (FP.f2d FP.fconst0) &&& 0x7fffffffffffffff ≤ (0x7ff0000000000000 : UInt64) := by decide +kernel
theorem stV_f2 {n fb : Nat} {go pl : Nat → Nat} (hn : n ≤ 16) : (FP.f2d (stV n fb go pl)) &&& 0x7fffffffffffffff ≤ (0x7ff0000000000000 : UInt64) := by
  unfold stV
  split
  · exact f20_ok
  · rename_i hz
    have c1 := cnt_le (hmP n fb go pl) (n - 1)
    have c2 := cnt_le (bnP n fb) (n - 1)
    have := List.all_eq_true.mp f2All_ok (cnt (hmP n fb go pl) (n - 1)) (List.mem_range.mpr (by omega))
    have := List.all_eq_true.mp this (cnt (bnP n fb) (n - 1)) (List.mem_range.mpr (by omega))
    rw [decide_eq_false hz, Bool.false_or] at this
    exact of_decide_eq_true this
end OB
