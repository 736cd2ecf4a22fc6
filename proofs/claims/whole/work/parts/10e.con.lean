/-! contracts of the pure machine's methods, and calls by them -/
def jexn : Nat → String := fun e => match e with
  | 0 => "java/lang/IllegalArgumentException"
  | 1 => "java/lang/IllegalStateException"
  | 2 => "java/lang/IndexOutOfBoundsException"
  | _ => "java/util/NoSuchElementException"
def jSR (SR : List (String × Nat × String)) (U : State) : Prop := ∀ q ∈ SR, ∃ a, vk_R q.1 q.2.1 q.2.2 a U
def jZ (A : Nat → Prop) (U : State) (H : Heap) : Prop := vx_Zq Bundle.tN "UNASSIGNED_STACK" Bundle.steD A U H ∧ vx_Zq Bundle.tN "SUPPRESSED_SENTINEL" Bundle.listD A U H
def jwarms (w : Cond) : Prop := ∀ s U : State, s.WarmedH U.vm → va_Nw w s → va_Nw w U
def jO (sb : Option Nat) (ads : List Nat) (v v' : Option Value) : Prop := match v with
  | none => v' = none
  | some x => ∃ u, v' = some u ∧ jV sb ads x u
def jPre (D : va_G) (dA : Nat → ClassId) (NW : List Cond) (SR : List (String × Nat × String)) (wsc : va_W) (sz : Nat) (U : State) : Prop :=
  U.heap.size = sz ∧ va_P D vwCl wsc U.heap ∧ va_K D vwCl (jtl dA) U ∧ va_D (fun _ => True) wsc ∧ jNW NW U ∧ jSR SR U ∧ jZ (va_A wsc sz) U U.heap
def jQ (sb : Option Nat) (dA : Nat → ClassId) (D : va_G) (ads : List Nat) (wsc : va_W) (sz : Nat) (r : Option Value ⊕ Nat) (w' : jW) : Array Value → State → Outcome → State → Prop := fun _ st oc t => match r with
  | .inl v => (∃ (v' : Option Value) (l9 : List Nat) (wsc' : va_W), oc = .returned v' ∧ jO sb (ads ++ l9) v v' ∧ jWR sb (ads ++ l9) dA w' wsc' ∧ va_P D vwCl wsc' t.heap ∧ va_D (va_A wsc sz) wsc') ∧ va_F (va_A wsc sz) st t
  | .inr _ => False
def jX (sb : Option Nat) (dA : Nat → ClassId) (D : va_G) (ads : List Nat) (wsc : va_W) (sz : Nat) (r : Option Value ⊕ Nat) (w' : jW) : String → State → State → Prop := fun E st t => match r with
  | .inl _ => False
  | .inr e => E = jexn e ∧ (∃ (l9 : List Nat) (wsc' : va_W), jWR sb (ads ++ l9) dA w' wsc' ∧ va_P D vwCl wsc' t.heap ∧ va_D (va_A wsc sz) wsc') ∧ va_F (va_A wsc sz) st t
def jcode (N : jM) : Cond := match jM_hh N with
  | [] => .code (jM_nm N) (jM_by N) (jM_nl N) (jM_rt N)
  | h :: t => .codeWith (jM_nm N) (jM_by N) (jM_nl N) (jM_rt N) (h :: t)
def jrm (N : jM) (w w' : jW) (x x' : Nat) : Room := { frames := jM_fr N, cells := (w'.length + x') - (w.length + x), slots := (jsl w' + 6 * x') - (jsl w + 6 * x), locals := jM_lo N }
theorem jNW_warm {NW : List Cond} (hw : ∀ w ∈ NW, jwarms w) {s U : State} (hW : s.WarmedH U.vm) (h : jNW NW s) : jNW NW U := fun w hm => hw w hm s U hW (h w hm)
theorem jSR_warm {SR : List (String × Nat × String)} {s U : State} (hW : s.WarmedH U.vm) (h : jSR SR s) : jSR SR U := fun q hq => by
  obtain ⟨a, h1⟩ := h q hq
  exact ⟨a, vk_R.warm hW h1⟩
theorem jZ_moved {A : Nat → Prop} {u U : State} {H : Heap} (hvm : u.vm.Alike U.vm) (h : jZ A u H) : jZ A U H := ⟨h.1.moved hvm, h.2.moved hvm⟩
theorem jZ_kept {A : Nat → Prop} {U : State} {H H1 : Heap} (h : jZ A U H) (hq : ∀ a : Nat, a < H.size → ¬ A a → H1[a]? = H[a]?) : jZ A U H1 := ⟨h.1.kept hq, h.2.kept hq⟩
theorem jZ_narrow {A B : Nat → Prop} {U : State} {H : Heap} (h : jZ A U H) (hAB : ∀ q, B q → A q) : jZ B U H := ⟨h.1.narrow hAB, h.2.narrow hAB⟩
theorem jZ_same {A : Nat → Prop} {u U : State} {H : Heap} (hvm : u.vm.Alike U.vm) (h : jZ A u H) : jZ A U H := jZ_moved hvm h
theorem jPre_of {D : va_G} {dA : Nat → ClassId} {NW : List Cond} {SR : List (String × Nat × String)} {wsc : va_W} {s : State} {A : Nat → Prop} {H : Heap} {locs : List Loc} (hw : ∀ w ∈ NW, jwarms w) (hK : va_K D vwCl (jtl dA) s) (hNW : jNW NW s) (hSR : jSR SR s) (hZ : jZ A s s.heap)
    (hP : va_P D vwCl wsc H) (hD : va_D A wsc) (hS : va_S A s.heap H locs) (hAA : ∀ q, s.heap.size ≤ q → A q) {U : State} (hU : U.heap = H) (hW : s.WarmedH U.vm) : jPre D dA NW SR wsc H.size U := by
  refine ⟨by rw [hU], by rw [hU]; exact hP, hK.moved hW.alike, hD.weaken (fun _ _ _ _ => trivial), jNW_warm hw hW hNW, jSR_warm hW hSR, ?_⟩
  rw [hU]
  refine jZ_narrow (jZ_kept (jZ_moved hW.alike hZ) hS.2.1) (fun q hq => ?_)
  rcases hq with ⟨k, e, h⟩ | h
  · exact hD.2 k (q, e) h
  · exact hAA q (Nat.le_trans hS.1 h)
theorem jPre_blind {D : va_G} {dA : Nat → ClassId} {NW : List Cond} {SR : List (String × Nat × String)} {wsc : va_W} {sz : Nat} (hw : ∀ w ∈ NW, jwarms w) (asc : List Value) : FrameBlind (va_Pc asc (jPre D dA NW SR wsc sz)) := by
  intro a U g mk q
  obtain ⟨q0, q1, q2, q3, q4, q5, q6, q7⟩ := q
  have hW : U.WarmedH (U.calling g mk a).vm := State.WarmedH.refl U
  exact ⟨q0, q1, q2, q3.moved hW.alike, q4, jNW_warm hw hW q5, jSR_warm hW q6, jZ_moved hW.alike q7⟩
section JC
variable {p : Program} {l : Launch} {e : Env} {R : Room} {s : State} {m : MethodId} {args : Array Value} {below : List Frame} {meth : Method} {c : Code} {H : Heap} {locs : List Loc} {cells slots mc ms : Nat} {Q : State → Prop}
variable {pc : Nat} {ls : Array Slot} {D : va_G} {A : Nat → Prop} {H0 : Heap} {sb : Option Nat} {dA : Nat → ClassId} {ads : List Nat} {wsc : va_W} {a : Array Value} {st0 rest : List Value} {r : Option Value ⊕ Nat} {w' : jW}
theorem j_call (hr : vx_Run p l e R s m args below meth c H locs cells slots mc ms (F0 m pc ls st0) rest (jQ sb dA D ads wsc H.size r w' a) (jX sb dA D ads wsc H.size r w') (va_A wsc H.size)) (hS : va_S A H0 H locs) (hA1 : ∀ q, va_A wsc H.size q → A q)
    (kk : ∀ v, r = .inl v → ∀ (v' : Option Value) (l9 : List Nat) (wsc' : va_W) (H1 : Heap) (locs1 : List Loc), jO sb (ads ++ l9) v v' → jWR sb (ads ++ l9) dA w' wsc' → va_P D vwCl wsc' H1 → va_D A wsc' → va_S A H0 H1 locs1 → W p l e R s m args below meth c H1 locs1 (cells + mc) (slots + ms) Q (F0 m (pc + 3) ls (v'.toList ++ rest)))
    (kx : ∀ x, r = .inr x → ∀ (ce : Cell) (q9 : Addr) (l9 : List Nat) (wsc' : va_W) (H1 : Heap) (locs1 : List Loc), jWR sb (ads ++ l9) dA w' wsc' → va_P D vwCl wsc' H1 → va_D A wsc' → va_S A H0 H1 locs1 → H1[q9]? = some ce → ce.vm = .none → s.vm.findClass (jexn x) = some ce.cls → vx_W p l e R s m args below meth c H1 locs1 (cells + mc) (slots + ms) Q (F0 m pc ls rest) q9) :
    W p l e R s m args below meth c H locs cells slots Q (F0 m pc ls st0) := by
  intro T hT X
  rcases hr T hT X with ⟨v, st₀, t, T', L, h0, X', hL, e1, e2, hq, st⟩ | ⟨q, st₀, t, T', L, E, ce, h0, X', hL, e1, e2, hq, hce, hcv, hcl, st⟩
  · cases r with
    | inr x => exact absurd hq (fun z => z)
    | inl v9 =>
      obtain ⟨⟨v', l9, wsc', hv, hO, hR, hP, hD⟩, hF⟩ := hq
      cases hv
      obtain ⟨k1, k2, k3⟩ := vx_keep (A1 := va_A wsc H.size) h0 e1 hS (fun q _ h => hA1 q h) hA1 hL hF
      obtain ⟨t2, a1, b1⟩ := kk v9 rfl v l9 wsc' T'.heap (locs ++ L) hO hR (by rw [e1]; exact hP) (hD.weaken (fun _ _ _ h => hA1 _ h)) k3 T' rfl X'
      exact ⟨t2, st t2 a1, b1⟩
  · cases r with
    | inl v9 => exact absurd hq (fun z => z)
    | inr x =>
      obtain ⟨hE, ⟨l9, wsc', hR, hP, hD⟩, hF⟩ := hq
      obtain ⟨k1, k2, k3⟩ := vx_keep (A1 := va_A wsc H.size) h0 e1 hS (fun q _ h => hA1 q h) hA1 hL hF
      obtain ⟨t2, a1, b1⟩ := kx x rfl ce q l9 wsc' T'.heap (locs ++ L) hR (by rw [e1]; exact hP) (hD.weaken (fun _ _ _ h => hA1 _ h)) k3 (by rw [e1]; exact hce) hcv (by rw [← hE]; exact hcl) T' rfl X'
      exact ⟨t2, st.trans a1, b1⟩
end JC
