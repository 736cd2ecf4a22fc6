/-! the machine's values, locals, stacks and cells beside the pure ones; ads: the address of each cell; sb: the script's address -/
def jV (sb : Option Nat) (ads : List Nat) (v v' : Value) : Prop := match v with
  | .ref k => ∃ a, ads[k]? = some a ∧ v' = .ref a
  | .retAddr _ => ∃ b, sb = some b ∧ v' = .ref b
  | v => v' = v
def jS (sb : Option Nat) (ads : List Nat) : List Value → List Value → Prop
  | [], [] => True
  | v :: vs, v' :: vs' => jV sb ads v v' ∧ jS sb ads vs vs'
  | [], _ :: _ => False
  | _ :: _, [] => False
def jLR (sb : Option Nat) (ads : List Nat) : jL → jL → Prop
  | [], [] => True
  | v :: vs, v' :: vs' => (v.1 = v'.1 ∧ jV sb ads v.2 v'.2) ∧ jLR sb ads vs vs'
  | [], _ :: _ => False
  | _ :: _, [] => False
def jH (sb : Option Nat) (ads : List Nat) (ls : Array Slot) (nl : Nat) (lv : jL) : Prop := ∃ l', lv_has ls nl l' ∧ jLR sb ads lv l'
def jOp (ads : List Nat) (o o' : Option Nat) : Prop := match o with
  | none => o' = none
  | some k => ∃ a, ads[k]? = some a ∧ o' = some a
def jE (sb : Option Nat) (ads : List Nat) (dA : Nat → ClassId) (c : jC) (e : va_E) : Prop := match c with
  | .inl (t, n, .inl f) => e = .inl (dA t, n, .inl f)
  | .inl (t, n, .inr (.inl f)) => e = .inl (dA t, n, .inr (.inl f))
  | .inl (t, n, .inr (.inr f)) => ∃ f', e = .inl (dA t, n, .inr (.inr (.inr (.inr f')))) ∧ ∀ i, jOp ads (f i) (f' i)
  | .inr o => ∃ fs', e = .inr (o.1, fs') ∧ jS sb ads o.2 fs'
def jWR (sb : Option Nat) (ads : List Nat) (dA : Nat → ClassId) (w : jW) (ws : va_W) : Prop :=
  ads.length = w.length ∧ ws.length = w.length ∧ ∀ (k : Nat) (c : jC), w[k]? = some c → ∃ (a : Nat) (e : va_E), ads[k]? = some a ∧ ws[k]? = some (a, e) ∧ jE sb ads dA c e
theorem jad {ads l : List Nat} {k a : Nat} (h : ads[k]? = some a) : (ads ++ l)[k]? = some a := by
  rw [List.getElem?_append_left (List.getElem?_eq_some_iff.mp h).1]; exact h
theorem jV_mono {sb : Option Nat} {ads : List Nat} (l : List Nat) {v v' : Value} (h : jV sb ads v v') : jV sb (ads ++ l) v v' := by
  cases v with
  | ref k => obtain ⟨a, h1, h2⟩ := h; exact ⟨a, jad h1, h2⟩
  | _ => exact h
theorem jS_mono {sb : Option Nat} {ads : List Nat} (l : List Nat) : ∀ {st st' : List Value}, jS sb ads st st' → jS sb (ads ++ l) st st'
  | [], [], _ => trivial
  | _ :: _, _ :: _, h => ⟨jV_mono l h.1, jS_mono l h.2⟩
theorem jLR_mono {sb : Option Nat} {ads : List Nat} (l : List Nat) : ∀ {st st' : jL}, jLR sb ads st st' → jLR sb (ads ++ l) st st'
  | [], [], _ => trivial
  | _ :: _, _ :: _, h => ⟨⟨h.1.1, jV_mono l h.1.2⟩, jLR_mono l h.2⟩
theorem jH_mono {sb : Option Nat} {ads : List Nat} (l : List Nat) {ls : Array Slot} {nl : Nat} {lv : jL} (h : jH sb ads ls nl lv) : jH sb (ads ++ l) ls nl lv := by
  obtain ⟨l', h1, h2⟩ := h; exact ⟨l', h1, jLR_mono l h2⟩
theorem jOp_mono {ads : List Nat} (l : List Nat) {o o' : Option Nat} (h : jOp ads o o') : jOp (ads ++ l) o o' := by
  cases o with
  | none => exact h
  | some k => obtain ⟨a, h1, h2⟩ := h; exact ⟨a, jad h1, h2⟩
theorem jE_mono {sb : Option Nat} {ads : List Nat} (l : List Nat) {dA : Nat → ClassId} {c : jC} {e : va_E} (h : jE sb ads dA c e) : jE sb (ads ++ l) dA c e := by
  rcases c with ⟨t, n, f | f | f⟩ | o
  · exact h
  · exact h
  · obtain ⟨f', h1, h2⟩ := h; exact ⟨f', h1, fun i => jOp_mono l (h2 i)⟩
  · obtain ⟨fs', h1, h2⟩ := h; exact ⟨fs', h1, jS_mono l h2⟩
theorem jV_cat {sb : Option Nat} {ads : List Nat} {v v' : Value} (h : jV sb ads v v') : v'.category = v.category := by
  cases v with
  | ref k => obtain ⟨a, -, rfl⟩ := h; rfl
  | retAddr k => obtain ⟨a, -, rfl⟩ := h; rfl
  | _ => cases h; rfl
theorem jS_cons {sb : Option Nat} {ads : List Nat} {v : Value} {r stc : List Value} (h : jS sb ads (v :: r) stc) : ∃ v' r', stc = v' :: r' ∧ jV sb ads v v' ∧ jS sb ads r r' := by
  cases stc with
  | nil => exact absurd h (fun q => q)
  | cons v' r' => exact ⟨v', r', rfl, h.1, h.2⟩
theorem jS_int {sb : Option Nat} {ads : List Nat} {x : Int32} {r stc : List Value} (h : jS sb ads (.int x :: r) stc) : ∃ r', stc = .int x :: r' ∧ jS sb ads r r' := by
  obtain ⟨v', r', rfl, h1, h2⟩ := jS_cons h; cases h1; exact ⟨r', rfl, h2⟩
theorem jS_long {sb : Option Nat} {ads : List Nat} {x : Int64} {r stc : List Value} (h : jS sb ads (.long x :: r) stc) : ∃ r', stc = .long x :: r' ∧ jS sb ads r r' := by
  obtain ⟨v', r', rfl, h1, h2⟩ := jS_cons h; cases h1; exact ⟨r', rfl, h2⟩
theorem jS_float {sb : Option Nat} {ads : List Nat} {x : UInt32} {r stc : List Value} (h : jS sb ads (.float x :: r) stc) : ∃ r', stc = .float x :: r' ∧ jS sb ads r r' := by
  obtain ⟨v', r', rfl, h1, h2⟩ := jS_cons h; cases h1; exact ⟨r', rfl, h2⟩
theorem jS_double {sb : Option Nat} {ads : List Nat} {x : UInt64} {r stc : List Value} (h : jS sb ads (.double x :: r) stc) : ∃ r', stc = .double x :: r' ∧ jS sb ads r r' := by
  obtain ⟨v', r', rfl, h1, h2⟩ := jS_cons h; cases h1; exact ⟨r', rfl, h2⟩
theorem jS_ref {sb : Option Nat} {ads : List Nat} {k : Nat} {r stc : List Value} (h : jS sb ads (.ref k :: r) stc) : ∃ a r', stc = .ref a :: r' ∧ ads[k]? = some a ∧ jS sb ads r r' := by
  obtain ⟨v', r', rfl, h1, h2⟩ := jS_cons h; obtain ⟨a, h3, rfl⟩ := h1; exact ⟨a, r', rfl, h3, h2⟩
theorem jS_scr {sb : Option Nat} {ads : List Nat} {k : Nat} {r stc : List Value} (h : jS sb ads (.retAddr k :: r) stc) : ∃ b r', stc = .ref b :: r' ∧ sb = some b ∧ jS sb ads r r' := by
  obtain ⟨v', r', rfl, h1, h2⟩ := jS_cons h; obtain ⟨a, h3, rfl⟩ := h1; exact ⟨a, r', rfl, h3, h2⟩
theorem jS_nil {sb : Option Nat} {ads : List Nat} {stc : List Value} (h : jS sb ads [] stc) : stc = [] := by
  cases stc with
  | nil => rfl
  | cons v' r' => exact absurd h (fun q => q)
theorem jS_len {sb : Option Nat} {ads : List Nat} : ∀ {st st' : List Value}, jS sb ads st st' → st'.length = st.length
  | [], [], _ => rfl
  | _ :: _, _ :: _, h => by simp [jS_len h.2]
theorem jS_app {sb : Option Nat} {ads : List Nat} : ∀ {st st' r r' : List Value}, jS sb ads st st' → jS sb ads r r' → jS sb ads (st ++ r) (st' ++ r')
  | [], [], _, _, _, h => h
  | _ :: _, _ :: _, _, _, h, h2 => ⟨h.1, jS_app h.2 h2⟩
theorem jS_rev {sb : Option Nat} {ads : List Nat} : ∀ {st st' : List Value}, jS sb ads st st' → jS sb ads st.reverse st'.reverse
  | [], [], _ => trivial
  | v :: r, v' :: r', h => by
    rw [List.reverse_cons, List.reverse_cons]
    exact jS_app (jS_rev h.2) ⟨h.1, trivial⟩
theorem jS_take {sb : Option Nat} {ads : List Nat} : ∀ (n : Nat) {st st' : List Value}, jS sb ads st st' → jS sb ads (st.take n) (st'.take n)
  | 0, _, _, _ => by simp [jS]
  | n + 1, [], [], _ => trivial
  | n + 1, _ :: _, _ :: _, h => ⟨h.1, jS_take n h.2⟩
theorem jS_drop {sb : Option Nat} {ads : List Nat} : ∀ (n : Nat) {st st' : List Value}, jS sb ads st st' → jS sb ads (st.drop n) (st'.drop n)
  | 0, _, _, h => h
  | n + 1, [], [], _ => trivial
  | n + 1, _ :: _, _ :: _, h => jS_drop n h.2
theorem jS_cat {sb : Option Nat} {ads : List Nat} : ∀ {st st' : List Value}, jS sb ads st st' → (st'.map fun v => v.category).sum = jcat st
  | [], [], _ => rfl
  | v :: r, v' :: r', h => by
    have := jS_cat h.2
    simp only [jcat, List.map_cons, List.sum_cons] at this ⊢
    rw [this, jV_cat h.1]
theorem jS_get {sb : Option Nat} {ads : List Nat} : ∀ {st st' : List Value} (_ : jS sb ads st st') {k : Nat} {v : Value}, st[k]? = some v → ∃ v', st'[k]? = some v' ∧ jV sb ads v v'
  | [], [], _, k, v, h => by simp at h
  | x :: r, x' :: r', h, 0, v, hk => by
    rw [List.getElem?_cons_zero] at hk
    cases hk
    exact ⟨x', rfl, h.1⟩
  | x :: r, x' :: r', h, k + 1, v, hk => by
    rw [List.getElem?_cons_succ] at hk
    obtain ⟨v', h1, h2⟩ := jS_get h.2 hk
    exact ⟨v', by rw [List.getElem?_cons_succ]; exact h1, h2⟩
theorem jS_set {sb : Option Nat} {ads : List Nat} : ∀ {st st' : List Value} (_ : jS sb ads st st') (k : Nat) {v v' : Value}, jV sb ads v v' → jS sb ads (st.set k v) (st'.set k v')
  | [], [], _, _, _, _, _ => trivial
  | x :: r, x' :: r', h, 0, v, v', hv => ⟨hv, h.2⟩
  | x :: r, x' :: r', h, k + 1, v, v', hv => ⟨h.1, jS_set h.2 k hv⟩
theorem jLR_lk {sb : Option Nat} {ads : List Nat} : ∀ {lv lc : jL} (_ : jLR sb ads lv lc) {i : Nat} {v : Value}, jlk lv i = some v → ∃ v' , (i, v') ∈ lc ∧ jV sb ads v v' ∧ (i, v) ∈ lv
  | [], [], _, i, v, h => by simp [jlk] at h
  | x :: r, x' :: r', h, i, v, hk => by
    simp only [jlk] at hk
    cases hb : Nat.beq x.1 i with
    | true =>
      rw [hb] at hk
      cases (Option.some.inj hk)
      have e : x.1 = i := Nat.eq_of_beq_eq_true hb
      refine ⟨x'.2, ?_, h.1.2, ?_⟩
      · rw [← e, h.1.1]; exact List.mem_cons_self
      · rw [← e]; exact List.mem_cons_self
    | false =>
      rw [hb] at hk
      obtain ⟨v', h1, h2, h3⟩ := jLR_lk h.2 hk
      exact ⟨v', List.mem_cons_of_mem _ h1, h2, List.mem_cons_of_mem _ h3⟩
theorem jLR_filter {sb : Option Nat} {ads : List Nat} (p : Nat × Value → Bool) (hp : ∀ (i : Nat) (v v' : Value), v'.category = v.category → p (i, v) = p (i, v')) : ∀ {lv lc : jL}, jLR sb ads lv lc → jLR sb ads (lv.filter p) (lc.filter p)
  | [], [], _ => trivial
  | x :: r, x' :: r', h => by
    have e : p x = p x' := by
      have h1 := hp x.1 x.2 x'.2 (jV_cat h.1.2)
      have h2 : x' = (x.1, x'.2) := by rw [h.1.1]
      rw [h2]; exact h1
    rw [List.filter_cons, List.filter_cons, ← e]
    cases p x with
    | true => exact ⟨h.1, jLR_filter p hp h.2⟩
    | false => exact jLR_filter p hp h.2
theorem jlk_at {sb : Option Nat} {ads : List Nat} {ls : Array Slot} {nl : Nat} {lv : jL} (h : jH sb ads ls nl lv) {i : Nat} {v : Value} (hk : jlk lv i = some v) : ∃ v', ls[i]? = some (.val v') ∧ jV sb ads v v' := by
  obtain ⟨l', h1, h2⟩ := h
  obtain ⟨v', h3, h4, -⟩ := jLR_lk h2 hk
  exact ⟨v', h1.2.2 _ h3, h4⟩
theorem jWR_get {sb : Option Nat} {ads : List Nat} {dA : Nat → ClassId} {w : jW} {ws : va_W} (h : jWR sb ads dA w ws) {k a : Nat} {c : jC} (hk : w[k]? = some c) (ha : ads[k]? = some a) : ∃ e, ws[k]? = some (a, e) ∧ jE sb ads dA c e := by
  obtain ⟨a', e, h1, h2, h3⟩ := h.2.2 k c hk
  rw [ha] at h1
  cases h1
  exact ⟨e, h2, h3⟩
theorem jWR_set {sb : Option Nat} {ads : List Nat} {dA : Nat → ClassId} {w : jW} {ws : va_W} (h : jWR sb ads dA w ws) {k a : Nat} {c : jC} {e : va_E} (ha : ads[k]? = some a) (he : jE sb ads dA c e) : jWR sb ads dA (w.set k c) (ws.set k (a, e)) := by
  refine ⟨by simpa using h.1, by simpa using h.2.1, fun j c' hj => ?_⟩
  by_cases hjk : j = k
  · subst hjk
    have hl : j < w.length := by
      have := (List.getElem?_eq_some_iff.mp hj).1
      simpa using this
    rw [List.getElem?_set_self hl] at hj
    cases hj
    exact ⟨a, e, ha, List.getElem?_set_self (by rw [h.2.1]; exact hl), he⟩
  · rw [List.getElem?_set_ne (Ne.symm hjk)] at hj
    obtain ⟨a', e', h1, h2, h3⟩ := h.2.2 j c' hj
    exact ⟨a', e', h1, by rw [List.getElem?_set_ne (Ne.symm hjk)]; exact h2, h3⟩
theorem jWR_push {sb : Option Nat} {ads : List Nat} {dA : Nat → ClassId} {w : jW} {ws : va_W} (h : jWR sb ads dA w ws) {q : Nat} {c : jC} {e : va_E} (he : jE sb (ads ++ [q]) dA c e) : jWR sb (ads ++ [q]) dA (w ++ [c]) (ws ++ [(q, e)]) := by
  refine ⟨by simp [h.1], by simp [h.2.1], fun j c' hj => ?_⟩
  by_cases hl : j < w.length
  · rw [List.getElem?_append_left hl] at hj
    obtain ⟨a', e', h1, h2, h3⟩ := h.2.2 j c' hj
    exact ⟨a', e', jad h1, by rw [List.getElem?_append_left (by rw [h.2.1]; exact hl)]; exact h2, jE_mono [q] h3⟩
  · rw [List.getElem?_append_right (by omega)] at hj
    have h0 : j - w.length < 1 := (List.getElem?_eq_some_iff.mp hj).1
    have h1 : j = w.length := by omega
    subst h1
    rw [Nat.sub_self] at hj
    cases hj
    refine ⟨q, e, ?_, ?_, he⟩
    · rw [List.getElem?_append_right (by rw [h.1]; exact Nat.le_refl _), h.1, Nat.sub_self]; rfl
    · rw [List.getElem?_append_right (by rw [h.2.1]; exact Nat.le_refl _), h.2.1, Nat.sub_self]; rfl
theorem jWR_ad {sb : Option Nat} {ads : List Nat} {dA : Nat → ClassId} {w : jW} {ws : va_W} (h : jWR sb ads dA w ws) {q : Nat} : (ads ++ [q])[w.length]? = some q := by
  rw [List.getElem?_append_right (by rw [h.1]; exact Nat.le_refl _), h.1, Nat.sub_self]; rfl
theorem jst1_ok {sb : Option Nat} {ads : List Nat} {lv lc : jL} (h : jLR sb ads lv lc) (i : Nat) {v v' : Value} (hv : jV sb ads v v') : jLR sb ads (jst1 lv i v) ((i, v') :: lc.filter (fun q => !(q.1 == i) && !(q.1 + 1 == i && q.2.category == 2))) :=
  ⟨⟨rfl, hv⟩, jLR_filter _ (fun j u u' hu => by simp only [hu]) h⟩
theorem jst2_ok {sb : Option Nat} {ads : List Nat} {lv lc : jL} (h : jLR sb ads lv lc) (i : Nat) {v v' : Value} (hv : jV sb ads v v') : jLR sb ads (jst2 lv i v) ((i, v') :: lc.filter (fun q => !(q.1 == i) && (!(q.1 == i + 1) && !(q.1 + 1 == i && q.2.category == 2)))) :=
  ⟨⟨rfl, hv⟩, jLR_filter _ (fun j u u' hu => by simp only [hu]) h⟩
theorem jin_of {i : Int32} {n : Nat} (h : jin i n = true) : vp_in i n := vp_in_iff.mpr (of_decide_eq_true h)
theorem jRA_one {U : State} {c1 c2 : ClassId} {ty : FieldType} (h1 : va_RA U c1 ty) (h2 : va_RA U c2 ty) : c1 = c2 := by
  cases ty with
  | object C =>
    obtain ⟨-, -, -, -, -, a⟩ := h1
    obtain ⟨-, -, -, -, -, b⟩ := h2
    exact Option.some.inj (a.symm.trans b)
  | _ => exact Option.some.inj (Eq.trans (Eq.symm h1) h2)
theorem jsl_set {w : jW} {k : Nat} {c c0 : jC} (h : w[k]? = some c0) (he : jcs c = jcs c0) : jsl (w.set k c) = jsl w := by
  induction w generalizing k with
  | nil => rfl
  | cons x r ih =>
    cases k with
    | zero =>
      rw [List.getElem?_cons_zero] at h
      cases h
      simp [jsl, he]
    | succ k =>
      rw [List.getElem?_cons_succ] at h
      have := ih h
      simp only [jsl, List.set_cons_succ, List.map_cons, List.sum_cons] at this ⊢
      omega
theorem jsl_app (w v : jW) : jsl (w ++ v) = jsl w + jsl v := by simp [jsl]
