/-! all estimates are consistent -/
section PM
variable {B : BD} {go we tl pl ts : Nat → Nat} {c q d : Nat}
/-- a move, as a part sees it: y is what the part sees then -/
theorem part_edge (hN : NbOk (bN B) (bNB B)) (hA : Arr (bN B) tl pl) (hn : 0 < bN B) (hd : d < 4) (e1 : bNB B (4 * pl 0 + d) = (q : Int)) (e2 : q < bN B) (e3 : ¬ q = pl 0) (hts : ∀ j, j < c → 0 < ts j ∧ ts j < bN B) (hinj : ∀ i j, i < c → j < c → ts i = ts j → i = j) :
    ((∀ j, j < c → ¬ ts j = tl q) → pE B we ts c (enc (mvP pl (pl 0) q (tl q) 0) (fun j => mvP pl (pl 0) q (tl q) (ts j)) c) 0 (enc (pl 0) (fun j => pl (ts j)) c)) ∧
    (∀ j, j < c → ts j = tl q → pE B we ts c (enc (mvP pl (pl 0) q (tl q) 0) (fun j => mvP pl (pl 0) q (tl q) (ts j)) c) (we (tl q)) (enc (pl 0) (fun j => pl (ts j)) c)) := by
  have p0 := hA.2 0 hn
  have pinj : ∀ s t, s < bN B → t < bN B → pl s = pl t → s = t := fun s t hs ht e => by rw [← (hA.2 s hs).2, ← (hA.2 t ht).2, e]
  have hV : pV (bN B) c (pl 0) (fun j => pl (ts j)) := ⟨p0.1, fun j hj => ⟨(hA.2 _ (hts j hj).2).1, fun z => by have := pinj _ _ (hts j hj).2 hn z; have := (hts j hj).1; omega⟩, fun i j hi hj e => hinj i j hi hj (pinj _ _ (hts i hi).2 (hts j hj).2 e)⟩
  have pq : ∀ j, j < c → (pl (ts j) = q ↔ ts j = tl q) := fun j hj => by
    constructor
    · intro z; rw [← z, (hA.2 _ (hts j hj).2).2]
    · intro z; rw [z, (hA.1 q e2).2]
  have t0 : ∀ j, j < c → ¬ ts j = 0 := fun j hj z => by have := (hts j hj).1; omega
  refine ⟨fun hno => ?_, fun j hj hjt => ?_⟩
  · refine ⟨pl 0, fun j => pl (ts j), d, hV, rfl, hd, q, e1, Or.inl ⟨fun j hj z => hno j hj ((pq j hj).mp z), ?_, rfl⟩⟩
    rw [mvP_0]
    exact enc_congr (fun j hj => mvP_o (t0 j hj) (hno j hj))
  · refine ⟨pl 0, fun j => pl (ts j), d, hV, rfl, hd, q, e1, Or.inr ⟨j, hj, (pq j hj).mpr hjt, ?_, by rw [hjt]⟩⟩
    rw [mvP_0]
    refine enc_congr (fun i hi => ?_)
    by_cases z : i = j
    · rw [z, un_eq, hjt]
      exact mvP_t (fun z => t0 j hj (by rw [hjt, z]))
    · rw [un_ne z]
      exact mvP_o (t0 i hi) (fun y => z (hinj i j hi hj (by rw [y, hjt])))
end PM
section GQ
variable {B : BD} {go we tl pl : Nat → Nat} {fb q d : Nat} {pr : PR}
theorem mvP_back {n : Nat} (hA : Arr n tl pl) (hn : 0 < n) (e2 : q < n) (e3 : ¬ q = pl 0) : ∀ s, s < n → mvP (mvP pl (pl 0) q (tl q)) q (pl 0) (tl q) s = pl s := fun s hs => by
  have tq := hA.1 q e2
  have tq0 : ¬ tl q = 0 := fun z => e3 (by rw [← tq.2, z])
  by_cases c : s = 0
  · rw [c, mvP_0]
  · by_cases c2 : s = tl q
    · rw [c2, mvP_t tq0, tq.2]
    · rw [mvP_o c c2, mvP_o c c2]
theorem part_mv (hB : BGood B) (hO : PrOk B go we fb pr) (hA : Arr (bN B) tl pl) (hd : d < 4) (e1 : bNB B (4 * pl 0 + d) = (q : Int)) (e2 : q < bN B) (e3 : ¬ q = pl 0) {p : Nat} (hp : p < qN pr) :
    ((∀ j, j < qC pr p → ¬ qT pr p j = tl q) → prV pr pl p ≤ prV pr (mvP pl (pl 0) q (tl q)) p) ∧ prV pr pl p ≤ prV pr (mvP pl (pl 0) q (tl q)) p + we (tl q) := by
  have n3 := hB.rng
  have hN := hB.nb
  obtain ⟨o1, o2, o3, o4, o5, o6, o7, o8⟩ := hO.1 p hp
  have p0 := hA.2 0 (by omega)
  have tq := hA.1 q e2
  have A' := hA.mv (by omega) e2 e3
  have eb : bNB B (4 * q + (3 - d)) = (pl 0 : Int) := by
    rcases hN (pl 0) d p0.1 hd with z | ⟨x, z1, z2, z3, z4⟩
    · omega
    · have : x = q := by omega
      rw [← this]; exact z4
  have ed := part_edge (we := we) (c := qC pr p) (ts := qT pr p) hN hA (by omega) hd e1 e2 e3 (fun j hj => ⟨(o3 j hj).1, (o3 j hj).2.1⟩) o4
  have g' : mvP pl (pl 0) q (tl q) 0 = q := mvP_0
  have tg' : mvT tl (pl 0) q (pl 0) = tl q := mvT_g (fun z => e3 z.symm)
  have er := part_edge (we := we) (c := qC pr p) (ts := qT pr p) (tl := mvT tl (pl 0) q) (pl := mvP pl (pl 0) q (tl q)) (d := 3 - d) (q := pl 0) hN A' (by omega) (by omega) (by rw [g']; exact eb) p0.1 (by rw [g']; exact fun z => e3 z.symm) (fun j hj => ⟨(o3 j hj).1, (o3 j hj).2.1⟩) o4
  rw [g', tg'] at er
  have back := mvP_back hA (by omega) e2 e3
  have ex : enc (mvP (mvP pl (pl 0) q (tl q)) q (pl 0) (tl q) 0) (fun j => mvP (mvP pl (pl 0) q (tl q)) q (pl 0) (tl q) (qT pr p j)) (qC pr p) = enc (pl 0) (fun j => pl (qT pr p j)) (qC pr p) := by
    rw [back 0 (by omega)]
    exact enc_congr (fun j hj => back _ (o3 j hj).2.1)
  rw [ex] at er
  rw [g'] at ed
  have iV : prI pr pl p = qF pr p (enc (pl 0) (fun j => pl (qT pr p j)) (qC pr p)) := rfl
  have iV' : prI pr (mvP pl (pl 0) q (tl q)) p = qF pr p (enc q (fun j => mvP pl (pl 0) q (tl q) (qT pr p j)) (qC pr p)) := by unfold prI; rw [g']
  generalize enc (pl 0) (fun j => pl (qT pr p j)) (qC pr p) = x at *
  generalize enc q (fun j => mvP pl (pl 0) q (tl q) (qT pr p j)) (qC pr p) = x' at *
  have v1 := (prV_le (pl := pl) hO hp).2
  have v2 := (prV_le (pl := mvP pl (pl 0) q (tl q)) hO hp).2
  rw [iV] at v1
  rw [iV'] at v2
  have r1 := o8 x
  have r2 := o8 x'
  have key : ∀ cst : Nat, pE B we (qT pr p) (qC pr p) x cst x' → pE B we (qT pr p) (qC pr p) x' cst x → prV pr pl p ≤ prV pr (mvP pl (pl 0) q (tl q)) p + cst := fun cst h1 h2 => by
    by_cases c : qF pr p x = -1
    · rw [if_pos c] at v1; omega
    · have a := (o6.2.1 x' cst x h2 c).1
      have b := (o6.2.1 x cst x' h1 a).2
      rw [if_neg c] at v1
      rw [if_neg a] at v2
      omega
  refine ⟨fun hno => by have := key 0 (er.1 hno) (ed.1 hno); omega, ?_⟩
  by_cases h : ∃ j, j < qC pr p ∧ qT pr p j = tl q
  · obtain ⟨j, h1, h2⟩ := h
    exact key _ (er.2 j h1 h2) (ed.2 j h1 h2)
  · have := key 0 (er.1 (fun j hj z => h ⟨j, hj, z⟩)) (ed.1 (fun j hj z => h ⟨j, hj, z⟩))
    omega
theorem parts_mv (hB : BGood B) (hO : PrOk B go we fb pr) (hA : Arr (bN B) tl pl) (hd : d < 4) (e1 : bNB B (4 * pl 0 + d) = (q : Int)) (e2 : q < bN B) (e3 : ¬ q = pl 0) :
    sm (prV pr pl) (qN pr) ≤ sm (prV pr (mvP pl (pl 0) q (tl q))) (qN pr) + we (tl q) := by
  by_cases h : ∃ p, p < qN pr ∧ ∃ j, j < qC pr p ∧ qT pr p j = tl q
  · obtain ⟨p, hp, j, hj, hjt⟩ := h
    refine sm_leX hp (fun i hi hne => (part_mv hB hO hA hd e1 e2 e3 hi).1 (fun k hk hkt => ?_)) (part_mv hB hO hA hd e1 e2 e3 hp).2
    have a := ((hO.1 p hp).2.2.1 j hj).2.2.2
    have b := ((hO.1 i hi).2.2.1 k hk).2.2.2
    rw [hjt] at a
    rw [hkt] at b
    have := congrArg (fun z => Nat.testBit z (tl q)) (hO.2 p i hp hi (fun z => hne z.symm))
    simp [a, b] at this
  · have := sm_le (f := prV pr pl) (g := prV pr (mvP pl (pl 0) q (tl q))) (n := qN pr) (fun i hi => (part_mv hB hO hA hd e1 e2 e3 hi).1 (fun k hk hkt => h ⟨i, hi, k, hk, hkt⟩))
    omega
theorem gs_mv {R C m k : Nat} (hBr : BrOk B R C m) (hO : PrOk B go we fb pr) (hA : Arr (bN B) tl pl) (hgo : ∀ t, t < bN B → go t < bN B) (hwe : ∀ t, t < bN B → we t ≤ 9) (hd : d < 4) (e1 : bNB B (4 * pl 0 + d) = (q : Int)) (e2 : q < bN B) (e3 : ¬ q = pl 0) :
    gsF B fb go we pr k tl pl ≤ we (tl q) + gsF B fb go we pr k (mvT tl (pl 0) q) (mvP pl (pl 0) q (tl q)) := by
  obtain ⟨hR, hC, hm, hT, hS⟩ := id hBr
  have hB : BGood B := ⟨R, C, m, hR, hC, hm, hT, hS⟩
  have n3 := hB.rng
  have hN := hB.nb
  have p0 := hA.2 0 (by omega)
  have tq := hA.1 q e2
  have tq0 : 0 < tl q := Nat.pos_of_ne_zero (fun z => e3 (by rw [← tq.2, z]))
  have gt := hgo _ tq.1
  have eb : bNB B (4 * q + (3 - d)) = (pl 0 : Int) := by
    rcases hN (pl 0) d p0.1 hd with z | ⟨x, z1, z2, z3, z4⟩
    · omega
    · have : x = q := by omega
      rw [← this]; exact z4
  have st : bST B (16 * q + go (tl q)) ≤ 1 + bST B (16 * pl 0 + go (tl q)) := by
    rw [hS.2.2.2.2.2.2.1 _ _ p0.1 gt, hS.2.2.2.2.2.2.1 _ _ e2 gt]
    exact fw_step (nbok_self hN) e2 p0.1 (isNb_d.mpr ⟨3 - d, by omega, eb⟩)
  have w1 := way_mv (B := B) (go := go) (we := we) (fb := fb) (pl := pl) (g := pl 0) ⟨tq0, tq.1⟩ tq.2 st
  unfold gsF
  by_cases k1 : k = 1
  · rw [if_pos k1, if_pos k1]
    have := dsp_mv (go := go) (we := we) (fb := fb) (pl := pl) (q := q) (t := tl q) (g := pl 0) ⟨tq0, tq.1⟩
    omega
  · rw [if_neg k1, if_neg k1]
    by_cases k2 : k = 2
    · rw [if_pos k2, if_pos k2]; omega
    · rw [if_neg k2, if_neg k2]
      by_cases k3 : k = 3
      · rw [if_pos k3, if_pos k3]
        obtain ⟨Y, y1, y2⟩ := pairs_mv (go := go) (we := we) (fb := fb) hBr hA hgo hwe hd e1 e2 e3 rfl ⟨tq0, tq.1⟩
        rcases y2 with rfl | ⟨rfl, hb, hs⟩
        · omega
        · have := way_mv2 (B := B) (go := go) (we := we) (fb := fb) (pl := pl) (g := pl 0) ⟨tq0, tq.1⟩ tq.2 hb hs
          omega
      · rw [if_neg k3, if_neg k3]
        by_cases k4 : k = 4
        · rw [if_pos k4, if_pos k4]
          have := parts_mv hB hO hA hd e1 e2 e3
          omega
        · rw [if_neg k4]; exact Nat.zero_le _
theorem gs_200k {k : Nat} (hB : BGood B) (hO : PrOk B go we fb pr) (h2 : qN pr ≤ 2) (hA : Arr (bN B) tl pl) (hgo : ∀ t, t < bN B → go t < bN B) (hwe : ∀ t, t < bN B → we t ≤ 9) : gsF B fb go we pr k tl pl ≤ 200000 := by
  have n3 := hB.rng
  have w1 := way_le (fb := fb) hB.st hwe hgo (fun t ht => (hA.2 t ht).1) (bN B) (Nat.le_refl _)
  have w2 := sm_36 (dtL B fb go we tl) (fun l => dt_36 l) 8
  unfold gsF
  by_cases k1 : k = 1
  · rw [if_pos k1]
    have := sm_bd (f := dspF fb go we pl) (m := 9) (c := bN B) (fun j hj => by unfold dspF; split; (· omega); exact hwe j hj)
    omega
  · rw [if_neg k1]
    by_cases k2 : k = 2
    · rw [if_pos k2]; omega
    · rw [if_neg k2]
      by_cases k3 : k = 3
      · rw [if_pos k3]; omega
      · rw [if_neg k3]
        by_cases k4 : k = 4
        · rw [if_pos k4]
          have := sm_bd (f := prV pr pl) (m := 59049) (c := qN pr) (fun j hj => (prV_le hO hj).1)
          omega
        · rw [if_neg k4]; omega
theorem gok {R C m : Nat} (hBr : BrOk B R C m) (hO : PrOk B go we fb pr) (h2 : qN pr ≤ 2) (hgo : ∀ t, t < bN B → go t < bN B) (hwe : ∀ t, t < bN B → 1 ≤ we t ∧ we t ≤ 9) (k : Nat) : GOK (grF B go we fb pr k) (VR (bN B)) := by
  obtain ⟨hR, hC, hm, hT, hS⟩ := id hBr
  have hB : BGood B := ⟨R, C, m, hR, hC, hm, hT, hS⟩
  have n3 := hB.rng
  refine ⟨fun r d r' c hv hd hx => ?_, fun r => ?_⟩
  · obtain ⟨g1, g2, g3, tl, pl, q, a1, a2, a3, a4, a5, a6, a7, a8, a9⟩ := gr_rev hB go we fb k pr hv hd hx
    have A' := a1.mv (by omega) a4 a5
    refine ⟨g1, g2, ?_, ?_, g3, ?_⟩
    · rw [a7]; exact (hwe _ a9).1
    · rw [a7]; exact (hwe _ a9).2
    · rw [← a2, a6, a7, gr_guess hB hO a1, gr_guess hB hO A']
      exact gs_mv hBr hO a1 hgo (fun t ht => (hwe t ht).2) hd a3 a4 a5
  · show grH B go we fb pr k r ≤ _
    unfold grH
    by_cases c : VR (bN B) r
    · rw [if_pos c]
      exact gs_200k hB hO h2 (arR_v c).1 hgo (fun t ht => (hwe t ht).2)
    · rw [if_neg c]; omega
end GQ
