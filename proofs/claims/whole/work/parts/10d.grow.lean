/-! a run only adds cells -/
def jG (w : jW) (o : Option (jL × List Value × jW)) : Prop := ∀ y, o = some y → w.length ≤ y.2.2.length ∧ jsl w ≤ jsl y.2.2
theorem jG_none (w : jW) : jG w none := fun _ h => nomatch h
theorem jG_same (w : jW) (a : jL) (b : List Value) : jG w (some (a, b, w)) := fun _ h => by cases h; exact ⟨Nat.le_refl _, Nat.le_refl _⟩
theorem jG_app (w v : jW) (a : jL) (b : List Value) : jG w (some (a, b, w ++ v)) := fun _ h => by cases h; exact ⟨by simp, by rw [jsl_app]; exact Nat.le_add_right _ _⟩
theorem jG_set {w : jW} {q : Nat} {c c0 : jC} (a : jL) (b : List Value) (h : w[q]? = some c0) (he : jcs c = jcs c0) : jG w (some (a, b, w.set q c)) := fun _ z => by
  cases z; exact ⟨by simp, by rw [jsl_set h he]; exact Nat.le_refl _⟩
theorem jG_cond {w : jW} {c : Bool} {o : Option (jL × List Value × jW)} (h : jG w o) : jG w (bif c then o else none) := by
  cases c
  · exact jG_none w
  · exact h
theorem jG_cond' {w : jW} {c : Bool} {o : Option (jL × List Value × jW)} (h : jG w o) : jG w (bif c then none else o) := by
  cases c
  · exact h
  · exact jG_none w
set_option maxHeartbeats 4000000 in
theorem jstep_grow (scr : Option (Nat × (Nat → Int32))) (nl : Nat) (i : Instr) (a b : Nat) (lv : jL) (st : List Value) (w : jW) : jG w (jstep scr nl i a b lv st w) := by
  unfold jstep
  (repeat' split) <;> (try apply jG_cond) <;> (try apply jG_cond') <;> first
    | exact jG_none _
    | exact jG_same _ _ _
    | exact jG_app _ _ _ _
    | (rw [List.append_assoc]; exact jG_app _ _ _ _)
    | (refine jG_set _ _ (by assumption) ?_; simp [jcs])
    | (split <;> first | exact jG_none _ | exact jG_same _ _ _)
def jGr (w : jW) (x : Nat) (o : Option jRes) : Prop := ∀ y, o = some y → w.length ≤ y.2.1.length ∧ jsl w ≤ jsl y.2.1 ∧ x ≤ y.2.2
theorem jGr_none (w : jW) (x : Nat) : jGr w x none := fun _ h => nomatch h
theorem jGr_tr {w w1 : jW} {x x1 : Nat} {o : Option jRes} (h1 : w.length ≤ w1.length ∧ jsl w ≤ jsl w1 ∧ x ≤ x1) (h : jGr w1 x1 o) : jGr w x o := fun y hy => by
  have := h y hy
  exact ⟨Nat.le_trans h1.1 this.1, Nat.le_trans h1.2.1 this.2.1, Nat.le_trans h1.2.2 this.2.2⟩
def jGR (ih : jRun) : Prop := ∀ M is lv st w x, jGr w x (ih M is lv st w x)
theorem jGr_cond {w : jW} {x : Nat} {c : Bool} {o : Option jRes} (h : jGr w x o) : jGr w x (bif c then o else none) := by
  cases c
  · exact jGr_none w x
  · exact h
theorem jGr_cond2 {w : jW} {x : Nat} {c : Bool} {o o' : Option jRes} (h : jGr w x o) (h' : jGr w x o') : jGr w x (bif c then o else o') := by
  cases c
  · exact h'
  · exact h
theorem jgo_grow {ih : jRun} (h : jGR ih) (M : jM) (t : Nat) (lv : jL) (st : List Value) (w : jW) (x : Nat) : jGr w x (jgo ih M t lv st w x) := by
  unfold jgo
  split
  · exact h _ _ _ _ _ _
  · exact jGr_none _ _
theorem jgoO_grow {ih : jRun} (h : jGR ih) (M : jM) (t : Option Nat) (lv : jL) (st : List Value) (w : jW) (x : Nat) : jGr w x (jgoO ih M t lv st w x) := by
  unfold jgoO
  split
  · exact jgo_grow h _ _ _ _ _ _
  · exact jGr_none _ _
theorem jcatch_grow {ih : jRun} (h : jGR ih) (M : jM) (e : Nat) (lv : jL) (w : jW) (x : Nat) : jGr w x (jcatch ih M e lv w x) := by
  unfold jcatch
  (repeat' split) <;> first | exact jGr_none _ _ | exact jGr_cond (h _ _ _ _ _ _)
theorem jback_grow {ih : jRun} (h : jGR ih) (M : jM) (is : List jI) (lv : jL) (rest : List Value) (w : jW) (x : Nat) (o : Option jRes) (ho : jGr w x o) : jGr w x (jback ih M is lv rest o) := by
  unfold jback
  split
  · exact jGr_none _ _
  · exact jGr_tr (ho _ rfl) (h _ _ _ _ _ _)
  · exact jGr_tr (ho _ rfl) (jcatch_grow h _ _ _ _ _)
theorem jinv_grow {mt : List jM} {ih0 ih : jRun} (h0 : jGR ih0) (h : jGR ih) (M : jM) (is : List jI) (a b : Nat) (isV isI : Bool) (lv : jL) (st : List Value) (w : jW) (x : Nat) : jGr w x (jinv mt ih0 ih M is a b isV isI lv st w x) := by
  unfold jinv
  split
  · exact jGr_none _ _
  · exact jGr_cond (jback_grow h _ _ _ _ _ _ _ (jgo_grow h0 _ _ _ _ _ _))
theorem jcopy_grow (st r : List Value) (w w' : jW) (h : jcopy st w = some (r, w')) : w'.length = w.length ∧ jsl w' = jsl w := by
  unfold jcopy at h
  split at h
  · split at h
    · next e1 e2 =>
      simp only [Bool.cond_eq_ite] at h
      split at h
      · cases h
        exact ⟨by simp, jsl_set e2 rfl⟩
      · cases h
    · cases h
  · cases h
theorem jplain_grow {ih : jRun} (h : jGR ih) (scr : Option (Nat × (Nat → Int32))) (M : jM) (is : List jI) (i : Instr) (a b : Nat) (lv : jL) (st : List Value) (w : jW) (x : Nat) : jGr w x (jplain scr ih M is i a b lv st w x) := by
  unfold jplain
  split
  · next e =>
    have := jstep_grow scr (jM_nl M) i a b lv st w _ e
    exact jGr_tr ⟨this.1, this.2, Nat.le_refl _⟩ (h _ _ _ _ _ _)
  · exact jGr_none _ _
theorem jretn_grow (M : jM) (st : List Value) (w : jW) (x : Nat) : jGr w x (jretn M st w x) := by
  unfold jretn
  split
  · intro y hy; cases hy; exact ⟨Nat.le_refl _, Nat.le_refl _, Nat.le_refl _⟩
  · exact jGr_none _ _
theorem jnat_grow {ih : jRun} (h : jGR ih) (M : jM) (is : List jI) (lv : jL) (st : List Value) (w : jW) (x : Nat) : jGr w x (jnat ih M is lv st w x) := by
  unfold jnat
  apply jGr_cond
  split
  · next e =>
    have := jcopy_grow _ _ _ _ e
    exact jGr_tr ⟨Nat.le_of_eq this.1.symm, Nat.le_of_eq this.2.symm, Nat.le_refl _⟩ (h _ _ _ _ _ _)
  · exact jGr_none _ _
theorem jobj_grow {ih : jRun} (h : jGR ih) (M : jM) (is : List jI) (lv : jL) (st : List Value) (w : jW) (x : Nat) : jGr w x (jobj ih M is lv st w x) := by
  unfold jobj
  split
  · exact jGr_cond (h _ _ _ _ _ _)
  · exact jGr_none _ _
theorem jmn_grow {ih : jRun} (h : jGR ih) (M : jM) (is : List jI) (lv : jL) (st : List Value) (w : jW) (x : Nat) : jGr w x (jmn ih M is lv st w x) := by
  unfold jmn
  split
  · exact jGr_cond (h _ _ _ _ _ _)
  · exact jGr_none _ _
theorem jmnl_grow {ih : jRun} (h : jGR ih) (M : jM) (is : List jI) (lv : jL) (st : List Value) (w : jW) (x : Nat) : jGr w x (jmnl ih M is lv st w x) := by
  unfold jmnl
  split
  · exact jGr_cond (h _ _ _ _ _ _)
  · exact jGr_none _ _
set_option maxHeartbeats 4000000 in
theorem jbody_grow (mt : List jM) (scr : Option (Nat × (Nat → Int32))) {ih0 ih : jRun} (h0 : jGR ih0) (h : jGR ih) : jGR (jbody mt scr ih0 ih) := by
  intro M is lv st w x
  unfold jbody
  (repeat' split) <;> first
    | exact jGr_none _ _
    | exact jretn_grow _ _ _ _
    | exact jgo_grow h _ _ _ _ _ _
    | exact jGr_cond2 (jgo_grow h _ _ _ _ _ _) (h _ _ _ _ _ _)
    | exact jGr_cond2 (jgoO_grow h _ _ _ _ _ _) (jgoO_grow h _ _ _ _ _ _)
    | exact jinv_grow h0 h _ _ _ _ _ _ _ _ _ _
    | exact jGr_cond2 (jobj_grow h _ _ _ _ _ _) (jinv_grow h0 h _ _ _ _ _ _ _ _ _ _)
    | exact jGr_cond2 (jnat_grow h _ _ _ _ _ _) (jGr_cond2 (jmn_grow h _ _ _ _ _ _) (jGr_cond2 (jmnl_grow h _ _ _ _ _ _) (jinv_grow h0 h _ _ _ _ _ _ _ _ _ _)))
    | exact jplain_grow h _ _ _ _ _ _ _ _ _ _
    | exact jGr_cond2 (jGr_cond (fun y hy => by cases hy; exact ⟨Nat.le_refl _, Nat.le_refl _, Nat.le_succ _⟩)) (jplain_grow h _ _ _ _ _ _ _ _ _ _)
theorem jrun_grow (mt : List jM) : ∀ (n : Nat) (scr : Option (Nat × (Nat → Int32))), jGR (jrun mt n scr)
  | 0, _ => fun _ _ _ _ _ _ => jGr_none _ _
  | n + 1, scr => jbody_grow mt scr (jrun_grow mt n none) (jrun_grow mt n scr)
