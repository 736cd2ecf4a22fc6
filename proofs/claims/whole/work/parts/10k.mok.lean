/-! a method's facts out of the checks -/
def jthrb (TT : List (Nat × Nat × Nat × Nat)) (by9 : ByteArray) (pc e : Nat) : Bool := TT.any fun q => Nat.beq q.2.2.2 e && (decide (decode by9 pc = .ok (.new q.1, 3)) && (decide (decode by9 (pc + 3) = .ok (.dup, 1)) &&
  ((decide (decode by9 (pc + 4) = .ok (.ldc q.2.1, 2)) && (decide (decode by9 (pc + 6) = .ok (.invokespecial q.2.2.1, 3)) && decide (decode by9 (pc + 9) = .ok (.athrow, 1)))) ||
   (!Nat.beq q.2.2.2 3 && decide (decode by9 (pc + 4) = .ok (.ldc_w q.2.1, 3)) && (decide (decode by9 (pc + 7) = .ok (.invokespecial q.2.2.1, 3)) && decide (decode by9 (pc + 10) = .ok (.athrow, 1)))))))
def jTTok (Ts NW : List Cond) (SR : List (String × Nat × String)) (own : String) (q : Nat × Nat × Nat × Nat) : Prop :=
  Cond.classLink own q.1 (jexn q.2.2.2) ∈ Ts ∧ Cond.initialized (jexn q.2.2.2) ∈ Ts ∧ (∃ text, (own, q.2.1, text) ∈ SR) ∧ (jAtA Ts NW own q.2.2.1 q.2.2.2 ∨ (q.2.2.2 = 3 ∧ jAtB Ts NW own q.2.2.1 q.2.2.2)) ∧ Bundle.fit (jexn q.2.2.2) = true
theorem jthrb_ok {Ts NW : List Cond} {SR : List (String × Nat × String)} {own : String} {TT : List (Nat × Nat × Nat × Nat)} (hTT : ∀ q ∈ TT, jTTok Ts NW SR own q) {by9 : ByteArray} {pc e : Nat} (h : jthrb TT by9 pc e = true) : jThrOk Ts NW SR own by9 pc e := by
  obtain ⟨q, hq, h1⟩ := List.any_eq_true.mp h
  simp only [Bool.and_eq_true, Bool.or_eq_true, decide_eq_true_eq] at h1
  obtain ⟨e1, h2, h3, h4⟩ := h1
  have e1 := Nat.eq_of_beq_eq_true e1
  subst e1
  obtain ⟨g1, g2, ⟨text, g3⟩, g4, g5⟩ := hTT q hq
  have h5 : (decode by9 (pc + 4) = .ok (.ldc q.2.1, 2) ∧ decode by9 (pc + 6) = .ok (.invokespecial q.2.2.1, 3) ∧ decode by9 (pc + 9) = .ok (.athrow, 1)) ∨ (decode by9 (pc + 4) = .ok (.ldc_w q.2.1, 3) ∧ decode by9 (pc + 7) = .ok (.invokespecial q.2.2.1, 3) ∧ decode by9 (pc + 10) = .ok (.athrow, 1)) := by
    rcases h4 with h4 | h4
    · exact Or.inl h4
    · exact Or.inr ⟨h4.1.2, h4.2⟩
  refine ⟨q.1, q.2.1, q.2.2.1, text, h2, h3, h5, g1, g2, g3, ?_, g5⟩
  rcases g4 with g4 | ⟨g6, g4⟩
  · exact Or.inl g4
  · refine Or.inr ⟨g4, ?_⟩
    rcases h4 with h4 | h4
    · exact h4.1
    · have := h4.1.1
      rw [g6] at this
      cases this
theorem jMok_of {mt : List jM} {Ts NW : List Cond} {SR : List (String × Nat × String)} {own : String} {T : jTab} (hT : jTok mt Ts NW own T) (hN : jcastOk NW) (harr : Cond.arrayClass .int ∈ Ts ∧ Cond.arrayClass .boolean ∈ Ts ∧ Cond.arrayClass .long ∈ Ts) {TT : List (Nat × Nat × Nat × Nat)} (hTT : ∀ q ∈ TT, jTTok Ts NW SR own q)
    (pcs : List Nat) (M : jM) (ini : Bool) (h1 : (jM_nm M).cls = own) (h2 : plainName own = true) (h3 : pcs[0]? = some 0) (hini : ini = true → (jM_nm M).name = "<init>") (hck : jchkB T (jthrb TT (jM_by M)) ini M pcs pcs (jM_bl M) = true) (hno : jM_hh M = [] → jM_hs M = []) (hthr : TT = [] ∨ jM_hh M = []) : jMok mt Ts NW SR M := by
  subst h1
  refine ⟨fun t => pcs[t]?, fun pc => jHok Ts NW (jM_nm M).cls (jM_hh M) (jM_hs M) (fun t => pcs[t]?) pc, fun pc e => jthrb TT (jM_by M) pc e = true, h2, h3, jchkB_ok hT hN hini (fun _ _ h => h) harr hck, fun pc e h => ⟨?_, jthrb_ok hTT h⟩, hno, fun _ h => h⟩
  rcases hthr with h9 | h9
  · rw [h9] at h; cases h
  · exact h9
