/-! deepening: what is done, by numbers alone -/
/-- depth, row, costs, nexts, ranks, how many it came to, the least beyond (0: none) -/
abbrev DS : Type := Nat × (Nat → Nat) × (Nat → Nat) × (Nat → Nat) × (Nat → Nat) × Nat × Nat
def dD (s : DS) : Nat := s.1
def dW (s : DS) : Nat → Nat := s.2.1
def dC (s : DS) : Nat → Nat := s.2.2.1
def dX (s : DS) : Nat → Nat := s.2.2.2.1
def dR (s : DS) : Nat → Nat := s.2.2.2.2.1
def dK (s : DS) : Nat := s.2.2.2.2.2.1
def dL (s : DS) : Nat := s.2.2.2.2.2.2
def dEnd (s : DS) (d sum : Nat) : DS := (dD s, un (dW s) (dD s) d, dC s, dX s, dR s, dK s + 1, if dL s = 0 ∨ sum < dL s then sum else dL s)
def dOn (s : DS) (d r cost : Nat) : DS := (dD s + 1, un (dW s) (dD s) d, un (dC s) (dD s + 1) cost, un (dX s) (dD s + 1) 0, un (dR s) (dD s + 1) r, dK s + 1, dL s)
/-- 0: goes on, 1: the round is over, 2: more than the limit, 3: reached -/
def dCome (G : GR) (bd : Nat) (s : DS) (d r cost : Nat) : DS × Nat := if bd < cost + gH G r then (dEnd s d (cost + gH G r), 0) else if gG G r = true then (dOn s d r cost, 3) else (dOn s d r cost, 0)
def dTry (G : GR) (lim bd : Nat) (s : DS) (d : Nat) : DS × Nat := if 0 < dD s ∧ d = 3 - dW s (dD s - 1) then (s, 0) else match gN G (dR s (dD s)) d with
  | none => (s, 0)
  | some p => if lim ≤ dK s then (s, 2) else dCome G bd s d p.1 (dC s (dD s) + p.2)
def dPop (s : DS) : DS := (dD s - 1, dW s, dC s, dX s, dR s, dK s, dL s)
def dNx (s : DS) : DS := (dD s, dW s, dC s, un (dX s) (dD s) (dX s (dD s) + 1), dR s, dK s, dL s)
def dStep (G : GR) (lim bd : Nat) (s : DS) : DS × Nat := if 3 < dX s (dD s) then (if dD s = 0 then (s, 1) else (dPop s, 0)) else dTry G lim bd (dNx s) (dX s (dD s))
def dLoop (G : GR) (lim bd : Nat) : Nat → DS → DS × Nat
  | 0, s => (s, 4)
  | f + 1, s => if (dStep G lim bd s).2 = 0 then dLoop G lim bd f (dStep G lim bd s).1 else dStep G lim bd s
def dS0 (r K : Nat) : DS := (0, (fun _ => 0), (fun _ => 0), (fun _ => 0), (fun _ => r), K, 0)
def dRnd (G : GR) (lim bd r K : Nat) : DS × Nat := if lim ≤ K then (dS0 r K, 2) else if gG G r = true then (dS0 r (K + 1), 3) else dLoop G lim bd (5 * lim + 1) (dS0 r (K + 1))
/-- the cost, to how many it came, the rounds, the length of the way, the way -/
def dSeek (G : GR) (lim r : Nat) : Nat → Nat → Nat → Nat → Int × Nat × Nat × Nat × (Nat → Nat)
  | 0, _, K, rd => (-2, K, rd, 0, fun _ => 0)
  | f + 1, bd, K, rd => if (dRnd G lim bd r K).2 = 3 then ((dC (dRnd G lim bd r K).1 (dD (dRnd G lim bd r K).1) : Int), dK (dRnd G lim bd r K).1, rd + 1, dD (dRnd G lim bd r K).1, dW (dRnd G lim bd r K).1)
    else if (dRnd G lim bd r K).2 = 1 then (if dL (dRnd G lim bd r K).1 = 0 then (-1, dK (dRnd G lim bd r K).1, rd + 1, 0, fun _ => 0) else dSeek G lim r f (dL (dRnd G lim bd r K).1) (dK (dRnd G lim bd r K).1) (rd + 1))
    else (-2, dK (dRnd G lim bd r K).1, rd + 1, 0, fun _ => 0)
def dRes (G : GR) (r lim : Nat) : Int × Nat × Nat × Nat × (Nat → Nat) := dSeek G lim r lim (gH G r) 0 0
def dInv (G : GR) (V : Nat → Prop) (lim bd : Nat) (s : DS) : Prop := dD s + 1 ≤ dK s ∧ dK s ≤ lim ∧ (∀ i, i ≤ dD s → V (dR s i) ∧ dX s i ≤ 4 ∧ dC s i ≤ 9 * i) ∧ (∀ i, i < dD s → dW s i < 4 ∧ ∃ c, gN G (dR s i) (dW s i) = some (dR s (i + 1), c)) ∧ (dL s = 0 ∨ (bd < dL s ∧ dL s ≤ 300000))
def dPhi (lim : Nat) (s : DS) : Nat := 5 * (lim - dK s) + sm (fun i => 5 - dX s i) (dD s + 1)
theorem dStep_ok {G : GR} {V : Nat → Prop} {lim bd : Nat} {s : DS} (hG : GOK G V) (hl : lim ≤ 1000) (h : dInv G V lim bd s) :
    1 ≤ dPhi lim s ∧ ((dStep G lim bd s).2 = 0 → dInv G V lim bd (dStep G lim bd s).1 ∧ dPhi lim (dStep G lim bd s).1 < dPhi lim s) ∧ ((dStep G lim bd s).2 = 3 → dInv G V lim bd (dStep G lim bd s).1) ∧ ((dStep G lim bd s).2 = 1 → dInv G V lim bd (dStep G lim bd s).1 ∧ dD (dStep G lim bd s).1 = 0) ∧ (dStep G lim bd s).2 ≤ 3 := by
  obtain ⟨h1, h2, h3, h4, h5⟩ := id h
  have x4 := (h3 _ (Nat.le_refl _)).2.1
  have ph : dPhi lim s = 5 * (lim - dK s) + (sm (fun i => 5 - dX s i) (dD s) + (5 - dX s (dD s))) := rfl
  refine ⟨by omega, ?_⟩
  unfold dStep
  by_cases c1 : 3 < dX s (dD s)
  · rw [if_pos c1]
    by_cases c2 : dD s = 0
    · rw [if_pos c2]
      exact ⟨(fun z => by cases z), (fun z => by cases z), fun _ => ⟨h, c2⟩, by simp⟩
    · rw [if_neg c2]
      refine ⟨fun _ => ⟨⟨?_, h2, fun i hi => ?_, fun i hi => ?_, h5⟩, ?_⟩, (fun z => by cases z), (fun z => by cases z), by exact Nat.zero_le _⟩
      · show dD s - 1 + 1 ≤ dK s
        omega
      · have hi' : i ≤ dD s - 1 := hi
        exact h3 i (by omega)
      · have hi' : i < dD s - 1 := hi
        exact h4 i (by omega)
      · obtain ⟨e, he⟩ : ∃ e, dD s = e + 1 := ⟨dD s - 1, by omega⟩
        have a : dPhi lim (dPop s) = 5 * (lim - dK s) + sm (fun i => 5 - dX s i) (dD s - 1 + 1) := rfl
        rw [a, ph, he]
        show 5 * (lim - dK s) + sm (fun i => 5 - dX s i) (e + 1) < _
        rw [he] at x4 c1
        omega
  · rw [if_neg c1]
    have hN : dInv G V lim bd (dNx s) := ⟨h1, h2, fun i hi => ⟨(h3 i hi).1, by
      show un (dX s) (dD s) (dX s (dD s) + 1) i ≤ 4
      by_cases e : i = dD s
      · rw [e, un_eq]; omega
      · rw [un_ne e]; exact (h3 i hi).2.1, (h3 i hi).2.2⟩, h4, h5⟩
    have pN : dPhi lim (dNx s) + 1 = dPhi lim s := by
      have a : dPhi lim (dNx s) = 5 * (lim - dK s) + (sm (fun i => 5 - un (dX s) (dD s) (dX s (dD s) + 1) i) (dD s) + (5 - un (dX s) (dD s) (dX s (dD s) + 1) (dD s))) := rfl
      have b : sm (fun i => 5 - un (dX s) (dD s) (dX s (dD s) + 1) i) (dD s) = sm (fun i => 5 - dX s i) (dD s) := sm_congr (fun i hi => by rw [un_ne (by omega)])
      rw [a, b, un_eq, ph]
      omega
    unfold dTry
    have eD : dD (dNx s) = dD s := rfl
    by_cases c2 : 0 < dD (dNx s) ∧ dX s (dD s) = 3 - dW (dNx s) (dD (dNx s) - 1)
    · rw [if_pos c2]
      exact ⟨fun _ => ⟨hN, by show dPhi lim (dNx s) < _; omega⟩, (fun z => by cases z), (fun z => by cases z), by exact Nat.zero_le _⟩
    · rw [if_neg c2]
      cases hx : gN G (dR (dNx s) (dD (dNx s))) (dX s (dD s)) with
      | none =>
        exact ⟨fun _ => ⟨hN, by show dPhi lim (dNx s) < _; omega⟩, (fun z => by cases z), (fun z => by cases z), by exact Nat.zero_le _⟩
      | some p =>
        obtain ⟨r, c⟩ := p
        dsimp only
        by_cases c3 : lim ≤ dK (dNx s)
        · rw [if_pos c3]
          exact ⟨(fun z => by cases z), (fun z => by cases z), (fun z => by cases z), by simp⟩
        · rw [if_neg c3]
          obtain ⟨n1, n2, n3, n4, n5⟩ := id hN
          have eK : dK (dNx s) = dK s := rfl
          obtain ⟨g1, g2, g3, g4, g5, g6⟩ := hG.1 _ _ _ _ (n3 _ (Nat.le_refl _)).1 (show dX s (dD s) < 4 by omega) hx
          have gh := hG.2 r
          have cc := (n3 _ (Nat.le_refl _)).2.2
          have iOn : dInv G V lim bd (dOn (dNx s) (dX s (dD s)) r (dC (dNx s) (dD (dNx s)) + c)) := by
            refine ⟨?_, ?_, fun i hi => ?_, fun i hi => ?_, n5⟩
            · show dD (dNx s) + 1 + 1 ≤ dK (dNx s) + 1
              omega
            · show dK (dNx s) + 1 ≤ lim
              omega
            · have hi' : i ≤ dD (dNx s) + 1 := hi
              show V (un (dR (dNx s)) (dD (dNx s) + 1) r i) ∧ un (dX (dNx s)) (dD (dNx s) + 1) 0 i ≤ 4 ∧ un (dC (dNx s)) (dD (dNx s) + 1) (dC (dNx s) (dD (dNx s)) + c) i ≤ 9 * i
              by_cases e : i = dD (dNx s) + 1
              · rw [e, un_eq, un_eq, un_eq]; exact ⟨g1, by omega, by omega⟩
              · rw [un_ne e, un_ne e, un_ne e]; exact n3 i (by omega)
            · have hi' : i < dD (dNx s) + 1 := hi
              show un (dW (dNx s)) (dD (dNx s)) (dX s (dD s)) i < 4 ∧ ∃ c', gN G (un (dR (dNx s)) (dD (dNx s) + 1) r i) (un (dW (dNx s)) (dD (dNx s)) (dX s (dD s)) i) = some (un (dR (dNx s)) (dD (dNx s) + 1) r (i + 1), c')
              by_cases e : i = dD (dNx s)
              · rw [e, un_eq, un_eq, un_ne (by omega)]; exact ⟨by omega, c, hx⟩
              · rw [un_ne e, un_ne (by omega), un_ne (by omega)]; exact n4 i (by omega)
          have pOn : dPhi lim (dOn (dNx s) (dX s (dD s)) r (dC (dNx s) (dD (dNx s)) + c)) = dPhi lim (dNx s) := by
            have a : dPhi lim (dOn (dNx s) (dX s (dD s)) r (dC (dNx s) (dD (dNx s)) + c)) = 5 * (lim - (dK (dNx s) + 1)) + (sm (fun i => 5 - un (dX (dNx s)) (dD (dNx s) + 1) 0 i) (dD (dNx s) + 1) + (5 - un (dX (dNx s)) (dD (dNx s) + 1) 0 (dD (dNx s) + 1))) := rfl
            have b : sm (fun i => 5 - un (dX (dNx s)) (dD (dNx s) + 1) 0 i) (dD (dNx s) + 1) = sm (fun i => 5 - dX (dNx s) i) (dD (dNx s) + 1) := sm_congr (fun i hi => by rw [un_ne (by omega)])
            have e : dPhi lim (dNx s) = 5 * (lim - dK (dNx s)) + sm (fun i => 5 - dX (dNx s) i) (dD (dNx s) + 1) := rfl
            rw [a, b, un_eq, e]
            omega
          unfold dCome
          by_cases c4 : bd < dC (dNx s) (dD (dNx s)) + c + gH G r
          · rw [if_pos c4]
            refine ⟨fun _ => ⟨⟨?_, ?_, n3, fun i hi => ?_, ?_⟩, ?_⟩, (fun z => by cases z), (fun z => by cases z), by exact Nat.zero_le _⟩
            · show dD (dNx s) + 1 ≤ dK (dNx s) + 1
              omega
            · show dK (dNx s) + 1 ≤ lim
              omega
            · have hi' : i < dD (dNx s) := hi
              show un (dW (dNx s)) (dD (dNx s)) (dX s (dD s)) i < 4 ∧ ∃ c', gN G (dR (dNx s) i) (un (dW (dNx s)) (dD (dNx s)) (dX s (dD s)) i) = _
              rw [un_ne (by omega)]; exact n4 i hi'
            · right
              show bd < (if dL (dNx s) = 0 ∨ dC (dNx s) (dD (dNx s)) + c + gH G r < dL (dNx s) then dC (dNx s) (dD (dNx s)) + c + gH G r else dL (dNx s)) ∧ (if dL (dNx s) = 0 ∨ dC (dNx s) (dD (dNx s)) + c + gH G r < dL (dNx s) then dC (dNx s) (dD (dNx s)) + c + gH G r else dL (dNx s)) ≤ 300000
              have : dD s ≤ 1000 := by omega
              split
              · exact ⟨c4, by omega⟩
              · rcases n5 with q | q
                · rename_i z; exact absurd (Or.inl q) z
                · exact q
            · have a : dPhi lim (dEnd (dNx s) (dX s (dD s)) (dC (dNx s) (dD (dNx s)) + c + gH G r)) = 5 * (lim - (dK (dNx s) + 1)) + sm (fun i => 5 - dX (dNx s) i) (dD (dNx s) + 1) := rfl
              have e : dPhi lim (dNx s) = 5 * (lim - dK (dNx s)) + sm (fun i => 5 - dX (dNx s) i) (dD (dNx s) + 1) := rfl
              show dPhi lim (dEnd (dNx s) (dX s (dD s)) (dC (dNx s) (dD (dNx s)) + c + gH G r)) < _
              omega
          · rw [if_neg c4]
            by_cases c5 : gG G r = true
            · rw [if_pos c5]
              exact ⟨(fun z => by cases z), fun _ => iOn, (fun z => by cases z), by simp⟩
            · rw [if_neg c5]
              exact ⟨fun _ => ⟨iOn, by show dPhi lim (dOn (dNx s) (dX s (dD s)) r (dC (dNx s) (dD (dNx s)) + c)) < _; omega⟩, (fun z => by cases z), (fun z => by cases z), by exact Nat.zero_le _⟩
theorem dInv.start {G : GR} {V : Nat → Prop} {lim bd r K : Nat} (hV : V r) (hK : K < lim) : dInv G V lim bd (dS0 r (K + 1)) ∧ dPhi lim (dS0 r (K + 1)) ≤ 5 * lim := by
  refine ⟨⟨by show 0 + 1 ≤ K + 1; omega, by show K + 1 ≤ lim; omega, fun i hi => ⟨hV, Nat.zero_le _, Nat.zero_le _⟩, fun i hi => absurd hi (Nat.not_lt_zero _), Or.inl rfl⟩, ?_⟩
  show 5 * (lim - (K + 1)) + (0 + (5 - 0)) ≤ 5 * lim
  omega
