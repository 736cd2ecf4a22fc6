/-! weakest preconditions over the pure machine -/
def jle (ih ih' : jRun) : Prop := ∀ M is lv st w x y, ih M is lv st w x = some y → ih' M is lv st w x = some y
theorem jgo_le {ih ih' : jRun} (h : jle ih ih') {M : jM} {t : Nat} {lv : jL} {st : List Value} {w : jW} {x : Nat} {y : jRes} (e : jgo ih M t lv st w x = some y) : jgo ih' M t lv st w x = some y := by
  unfold jgo at e ⊢
  split at e
  · next bl e1 => exact h _ _ _ _ _ _ _ e
  · cases e
theorem jgoO_le {ih ih' : jRun} (h : jle ih ih') {M : jM} {t : Option Nat} {lv : jL} {st : List Value} {w : jW} {x : Nat} {y : jRes} (e : jgoO ih M t lv st w x = some y) : jgoO ih' M t lv st w x = some y := by
  unfold jgoO at e ⊢
  split at e
  · exact jgo_le h e
  · cases e
theorem jcond_le {c : Bool} {o o' p p' : Option jRes} {y : jRes} (h1 : o = some y → o' = some y) (h2 : p = some y → p' = some y) (e : (bif c then o else p) = some y) : (bif c then o' else p') = some y := by
  cases c
  · exact h2 e
  · exact h1 e
theorem jcatch_le {ih ih' : jRun} (h : jle ih ih') {M : jM} {e9 : Nat} {lv : jL} {w : jW} {x : Nat} {y : jRes} (e : jcatch ih M e9 lv w x = some y) : jcatch ih' M e9 lv w x = some y := by
  unfold jcatch at e ⊢
  split at e
  · cases e
  · split at e
    · exact jcond_le (h _ _ _ _ _ _ _) (fun q => q) e
    · exact jcond_le (h _ _ _ _ _ _ _) (fun q => q) e
    · cases e
theorem jback_le {ih ih' : jRun} (h : jle ih ih') {M : jM} {is : List jI} {lv : jL} {rest : List Value} {o o' : Option jRes} {y : jRes} (ho : ∀ z, o = some z → o' = some z) (e : jback ih M is lv rest o = some y) : jback ih' M is lv rest o' = some y := by
  cases o with
  | none => cases e
  | some z =>
    rw [ho z rfl]
    obtain ⟨r, w1, x1⟩ := z
    cases r with
    | inl v => exact h _ _ _ _ _ _ _ e
    | inr e9 => exact jcatch_le h e
theorem jinv_le {mt : List jM} {ih0 ih0' ih ih' : jRun} (h0 : jle ih0 ih0') (h : jle ih ih') {M : jM} {is : List jI} {a b : Nat} {isV isI : Bool} {lv : jL} {st : List Value} {w : jW} {x : Nat} {y : jRes} (e : jinv mt ih0 ih M is a b isV isI lv st w x = some y) : jinv mt ih0' ih' M is a b isV isI lv st w x = some y := by
  unfold jinv at e ⊢
  split at e
  · cases e
  · exact jcond_le (jback_le h (fun z hz => jgo_le h0 hz)) (fun q => q) e
theorem jplain_le {ih ih' : jRun} (h : jle ih ih') {scr : Option (Nat × (Nat → Int32))} {M : jM} {is : List jI} {i : Instr} {a b : Nat} {lv : jL} {st : List Value} {w : jW} {x : Nat} {y : jRes} (e : jplain scr ih M is i a b lv st w x = some y) : jplain scr ih' M is i a b lv st w x = some y := by
  unfold jplain at e ⊢
  split at e
  · exact h _ _ _ _ _ _ _ e
  · cases e
theorem jnat_le {ih ih' : jRun} (h : jle ih ih') {M : jM} {is : List jI} {lv : jL} {st : List Value} {w : jW} {x : Nat} {y : jRes} (e : jnat ih M is lv st w x = some y) : jnat ih' M is lv st w x = some y := by
  unfold jnat at e ⊢
  refine jcond_le (fun e => ?_) (fun q => q) e
  split at e
  · exact h _ _ _ _ _ _ _ e
  · cases e
theorem jobj_le {ih ih' : jRun} (h : jle ih ih') {M : jM} {is : List jI} {lv : jL} {st : List Value} {w : jW} {x : Nat} {y : jRes} (e : jobj ih M is lv st w x = some y) : jobj ih' M is lv st w x = some y := by
  unfold jobj at e ⊢
  split at e
  · exact jcond_le (h _ _ _ _ _ _ _) (fun q => q) e
  · cases e
theorem jmn_le {ih ih' : jRun} (h : jle ih ih') {M : jM} {is : List jI} {lv : jL} {st : List Value} {w : jW} {x : Nat} {y : jRes} (e : jmn ih M is lv st w x = some y) : jmn ih' M is lv st w x = some y := by
  unfold jmn at e ⊢
  split at e
  · exact jcond_le (h _ _ _ _ _ _ _) (fun q => q) e
  · cases e
theorem jmnl_le {ih ih' : jRun} (h : jle ih ih') {M : jM} {is : List jI} {lv : jL} {st : List Value} {w : jW} {x : Nat} {y : jRes} (e : jmnl ih M is lv st w x = some y) : jmnl ih' M is lv st w x = some y := by
  unfold jmnl at e ⊢
  split at e
  · exact jcond_le (h _ _ _ _ _ _ _) (fun q => q) e
  · cases e
set_option maxHeartbeats 4000000 in
theorem jbody_le {mt : List jM} {scr : Option (Nat × (Nat → Int32))} {ih0 ih0' ih ih' : jRun} (h0 : jle ih0 ih0') (h : jle ih ih') : jle (jbody mt scr ih0 ih) (jbody mt scr ih0' ih') := by
  intro M is lv st w x y e
  cases is with
  | nil => cases e
  | cons x0 is' =>
    obtain ⟨i, len, a, b⟩ := x0
    cases hc : jctl i with
    | false => rw [jbody_plain hc] at e ⊢; exact jplain_le h e
    | true =>
      cases i <;> (try (cases hc; done)) <;> simp only [jbody] at e ⊢
      all_goals first
        | exact e
        | exact jgo_le h e
        | exact jinv_le h0 h e
        | exact jcond_le (jobj_le h) (jinv_le h0 h) e
        | exact jcond_le (jnat_le h) (jcond_le (jmn_le h) (jcond_le (jmnl_le h) (jinv_le h0 h))) e
        | exact jcond_le (fun q => q) (jplain_le h) e
        | (split at e <;> first | exact jcond_le (jgo_le h) (h _ _ _ _ _ _ _) e | (cases e))
        | (split at e
           · split at e
             · exact jcond_le (jgoO_le h) (jgoO_le h) e
             · cases e
           · cases e)
        | (split at e
           · split at e
             · exact jgo_le h e
             · cases e
           · cases e)
theorem jrun_le1 (mt : List jM) : ∀ (n : Nat) (scr : Option (Nat × (Nat → Int32))), jle (jrun mt n scr) (jrun mt (n + 1) scr)
  | 0, _ => fun _ _ _ _ _ _ _ h => by cases h
  | n + 1, scr => jbody_le (jrun_le1 mt n none) (jrun_le1 mt n scr)
theorem jrun_le (mt : List jM) (scr : Option (Nat × (Nat → Int32))) (n : Nat) : ∀ k, jle (jrun mt n scr) (jrun mt (n + k) scr)
  | 0 => fun _ _ _ _ _ _ _ h => h
  | k + 1 => fun _ _ _ _ _ _ _ h => jrun_le1 mt (n + k) scr _ _ _ _ _ _ _ (jrun_le mt scr n k _ _ _ _ _ _ _ h)
theorem jrun_max {mt : List jM} {scr : Option (Nat × (Nat → Int32))} {n m : Nat} (h : n ≤ m) : jle (jrun mt n scr) (jrun mt m scr) := by
  obtain ⟨k, rfl⟩ := Nat.exists_eq_add_of_le h
  exact jrun_le mt scr n k
