/-! how many cheapest ways -/
def CAP : Nat := 1000000
/-- the edges of a graph within the first V; its goals -/
def gE (G : GR) (V : Nat) (x c y : Nat) : Prop := x < V ∧ ∃ d, d < 4 ∧ gN G x d = some (y, c)
def gGl (G : GR) (V : Nat) (x : Nat) : Prop := x < V ∧ gG G x = true
/-- all of the first V, and moves that can be taken back -/
def GV (G : GR) (V : Nat) : Prop := ∀ r d r' c, r < V → d < 4 → gN G r d = some (r', c) → r' < V ∧ ¬ r' = r ∧ 1 ≤ c ∧ c ≤ 9 ∧ gN G r' (3 - d) = some (r, c)
/-- what the direction d of y adds; m is being dealt with, its directions before e are done -/
def tmS (G : GR) (f : Nat → Int) (wy : Nat → Nat) (wt : Nat → Bool) (m e y d : Nat) : Nat := match gN G y d with
  | none => 0
  | some p => if (¬ f p.1 = -1 ∧ wt p.1 = false ∧ (¬ p.1 = m ∨ 3 - d < e)) ∧ (p.2 : Int) + f p.1 = f y then wy p.1 else 0
def bs (G : GR) (y : Nat) : Nat := if gG G y = true then 1 else 0
def WI (G : GR) (V : Nat) (f : Nat → Int) (wy : Nat → Nat) (wt : Nat → Bool) (m e : Nat) : Prop := ∀ y, y < V → (f y = -1 → wy y = 0) ∧ (¬ f y = -1 → wy y = min CAP (bs G y + sm (tmS G f wy wt m e y) 4))
theorem tmS_some {G : GR} {f : Nat → Int} {wy : Nat → Nat} {wt : Nat → Bool} {m e y d x c : Nat} (h : gN G y d = some (x, c)) : tmS G f wy wt m e y d = if (¬ f x = -1 ∧ wt x = false ∧ (¬ x = m ∨ 3 - d < e)) ∧ (c : Int) + f x = f y then wy x else 0 := by
  unfold tmS; rw [h]
theorem tmS_none {G : GR} {f : Nat → Int} {wy : Nat → Nat} {wt : Nat → Bool} {m e y d : Nat} (h : gN G y d = none) : tmS G f wy wt m e y d = 0 := by
  unfold tmS; rw [h]
/-- a sum in which one is another -/
theorem sm_ch {f g : Nat → Nat} {j : Nat} : ∀ {n : Nat}, j < n → (∀ i, i < n → ¬ i = j → f i = g i) → sm f n + g j = sm g n + f j
  | 0, h, _ => absurd h (by omega)
  | n + 1, h, e => by
    show sm f n + f n + g j = sm g n + g n + f j
    by_cases c : j = n
    · subst c
      have : sm f j = sm g j := sm_congr (fun i hi => e i (by omega) (by omega))
      omega
    · have := sm_ch (n := n) (by omega) (fun i hi hne => e i (by omega) hne)
      have := e n (by omega) (fun q => c q.symm)
      omega
section WY
variable {G : GR} {V : Nat} {f : Nat → Int} {wy : Nat → Nat} {wt : Nat → Bool} {L m e : Nat} {D : Nat → Nat → Nat → Prop}
theorem WI.congr (h : WI G V f wy wt m 4) {wt' : Nat → Bool} {m' : Nat} (hw : wt m' = true) (e : ∀ x, wt' x = if x = m' then false else wt x) : WI G V f wy wt' m' 0 := fun y hy => by
  obtain ⟨h1, h2⟩ := h y hy
  refine ⟨h1, fun z => ?_⟩
  rw [h2 z]
  congr 1
  congr 1
  refine sm_congr (fun d hd => ?_)
  cases hx : gN G y d with
  | none => rw [tmS_none hx, tmS_none hx]
  | some p =>
    obtain ⟨x, c⟩ := p
    rw [tmS_some hx, tmS_some hx, e x]
    by_cases q : x = m'
    · subst q
      rw [if_neg (fun z => by rw [hw] at z; cases z.1.2.1), if_neg]
      rintro ⟨⟨_, _, z⟩, _⟩
      rcases z with z | z
      · exact z rfl
      · omega
    · rw [if_neg q]
      by_cases c1 : (¬ f x = -1 ∧ wt x = false) ∧ (c : Int) + f x = f y
      · rw [if_pos ⟨⟨c1.1.1, c1.1.2, Or.inr (by omega)⟩, c1.2⟩, if_pos ⟨⟨c1.1.1, c1.1.2, Or.inl q⟩, c1.2⟩]
      · rw [if_neg (fun z => c1 ⟨⟨z.1.1, z.1.2.1⟩, z.2⟩), if_neg (fun z => c1 ⟨⟨z.1.1, z.1.2.1⟩, z.2⟩)]
/-- nothing that changes a done edge: a direction without a move -/
theorem WI.skip (hG : GV G V) (h : WI G V f wy wt m e) (hm : m < V) (he : e < 4) (hn : gN G m e = none) : WI G V f wy wt m (e + 1) := fun y hy => by
  obtain ⟨h1, h2⟩ := h y hy
  refine ⟨h1, fun z => ?_⟩
  rw [h2 z]
  congr 1
  congr 1
  refine sm_congr (fun d hd => ?_)
  cases hx : gN G y d with
  | none => rw [tmS_none hx, tmS_none hx]
  | some p =>
    obtain ⟨x, c⟩ := p
    rw [tmS_some hx, tmS_some hx]
    by_cases q : x = m
    · subst q
      have hr := (hG _ _ _ _ hy hd hx).2.2.2.2
      have ne : ¬ 3 - d = e := fun z => by rw [z, hn] at hr; cases hr
      by_cases c1 : 3 - d < e
      · by_cases c2 : (¬ f x = -1 ∧ wt x = false) ∧ (c : Int) + f x = f y
        · rw [if_pos ⟨⟨c2.1.1, c2.1.2, Or.inr c1⟩, c2.2⟩, if_pos ⟨⟨c2.1.1, c2.1.2, Or.inr (by omega)⟩, c2.2⟩]
        · rw [if_neg (fun z => c2 ⟨⟨z.1.1, z.1.2.1⟩, z.2⟩), if_neg (fun z => c2 ⟨⟨z.1.1, z.1.2.1⟩, z.2⟩)]
      · rw [if_neg (fun z => by rcases z.1.2.2 with z | z; (· exact z rfl); omega), if_neg (fun z => by rcases z.1.2.2 with z | z; (· exact z rfl); omega)]
    · by_cases c2 : (¬ f x = -1 ∧ wt x = false) ∧ (c : Int) + f x = f y
      · rw [if_pos ⟨⟨c2.1.1, c2.1.2, Or.inl q⟩, c2.2⟩, if_pos ⟨⟨c2.1.1, c2.1.2, Or.inl q⟩, c2.2⟩]
      · rw [if_neg (fun z => c2 ⟨⟨z.1.1, z.1.2.1⟩, z.2⟩), if_neg (fun z => c2 ⟨⟨z.1.1, z.1.2.1⟩, z.2⟩)]
/-- what a done edge tells -/
def Dn (G : GR) (V : Nat) (f : Nat → Int) (wt : Nat → Bool) (m e : Nat) : Prop := ∀ y d x c, y < V → d < 4 → gN G y d = some (x, c) → ¬ f x = -1 → wt x = false → (¬ x = m ∨ 3 - d < e) → ¬ f y = -1 ∧ f y ≤ c + f x
/-- the move e of m leads to y; f, wy, wt become others at y alone -/
theorem WI.step (hG : GV G V) (h : WI G V f wy wt m e) (hm : m < V) (he : e < 4) {y c : Nat} (hn : gN G m e = some (y, c)) (hfm : ¬ f m = -1) (hwm : wt m = false) {f' : Nat → Int} {wy' : Nat → Nat} {wt' : Nat → Bool}
    (o : ∀ x, ¬ x = y → f' x = f x ∧ wy' x = wy x ∧ wt' x = wt x)
    (k1 : (f' y = f y ∧ wt' y = wt y ∧ ((c : Int) + f m = f y → ¬ f y = -1 ∧ wt y = true ∧ wy' y = min CAP (wy y + wy m)) ∧ (¬ (c : Int) + f m = f y → wy' y = wy y)) ∨ (f' y = c + f m ∧ wt' y = true ∧ ¬ f' y = -1 ∧ bs G y = 0 ∧ wy' y = min CAP (wy m) ∧ (f y = -1 ∨ wt y = true) ∧ (f y = -1 ∨ (c : Int) + f m < f y) ∧ Dn G V f wt m e)) : WI G V f' wy' wt' m (e + 1) := fun z hz => by
  obtain ⟨y1, y2, y3, y4, y5⟩ := hG _ _ _ _ hm he hn
  -- a taken one is not y, if something changes there
  have tk : ∀ x, ¬ f' x = -1 → wt' x = false → x = y → f' y = f y ∧ wt' y = wt y ∧ wy' y = wy y := fun x a1 a2 a3 => by
    subst a3
    rcases k1 with ⟨b1, b2, b3, b4⟩ | ⟨b1, b2, _⟩
    · refine ⟨b1, b2, ?_⟩
      by_cases q : (c : Int) + f m = f x
      · have := (b3 q).2.1
        rw [b2, this] at a2; cases a2
      · exact b4 q
    · rw [b2] at a2; cases a2
  -- a term of one that is not y
  have tm1 : ∀ d, d < 4 → ¬ z = y → tmS G f' wy' wt' m (e + 1) z d = tmS G f wy wt m e z d := fun d hd hzy => by
    cases hx : gN G z d with
    | none => rw [tmS_none hx, tmS_none hx]
    | some p =>
      obtain ⟨x, cx⟩ := p
      rw [tmS_some hx, tmS_some hx, (o z hzy).1]
      have hr := (hG _ _ _ _ hz hd hx).2.2.2.2
      have nm : x = m → ¬ 3 - d = e := fun q q' => by
        rw [q, q', hn] at hr
        injection hr with hr; injection hr with hr _
        exact hzy hr.symm
      by_cases q : x = y
      · rw [q]
        -- y as a target: taken before and after, or neither
        by_cases c2 : (¬ f' y = -1 ∧ wt' y = false)
        · obtain ⟨u1, u2, u3⟩ := tk y c2.1 c2.2 rfl
          rw [u1, u2, u3]
          have ym : ¬ y = m := y2
          by_cases c3 : (¬ f y = -1 ∧ wt y = false) ∧ (cx : Int) + f y = f z
          · rw [if_pos ⟨⟨c3.1.1, c3.1.2, Or.inl ym⟩, c3.2⟩, if_pos ⟨⟨c3.1.1, c3.1.2, Or.inl ym⟩, c3.2⟩]
          · rw [if_neg (fun z => c3 ⟨⟨z.1.1, z.1.2.1⟩, z.2⟩), if_neg (fun z => c3 ⟨⟨z.1.1, z.1.2.1⟩, z.2⟩)]
        · rw [if_neg (fun z => c2 ⟨z.1.1, z.1.2.1⟩), if_neg]
          rintro ⟨⟨v1, v2, _⟩, _⟩
          rcases k1 with ⟨b1, b2, _⟩ | ⟨_, _, _, _, _, b6, _⟩
          · exact c2 ⟨by rw [b1]; exact v1, by rw [b2]; exact v2⟩
          · rcases b6 with b6 | b6
            · exact v1 b6
            · rw [b6] at v2; cases v2
      · obtain ⟨o1, o2, o3⟩ := o x q
        rw [o1, o2, o3]
        have iff : (¬ x = m ∨ 3 - d < e + 1) ↔ (¬ x = m ∨ 3 - d < e) := by
          constructor
          · rintro (a | a)
            · exact Or.inl a
            · by_cases b : x = m
              · have := nm b; exact Or.inr (by omega)
              · exact Or.inl b
          · rintro (a | a)
            · exact Or.inl a
            · exact Or.inr (by omega)
        simp only [iff]
  by_cases hzy : z = y
  · subst hzy
    have dd : 3 - (3 - e) = e := by omega
    -- the term of the edge that is done now
    have tN : tmS G f' wy' wt' m (e + 1) z (3 - e) = if (c : Int) + f m = f' z then wy m else 0 := by
      have om := o m (fun q => y2 q.symm)
      rw [tmS_some y5, om.1, om.2.1, om.2.2, dd]
      by_cases q : (c : Int) + f m = f' z
      · rw [if_pos q, if_pos ⟨⟨hfm, hwm, Or.inr (Nat.lt_succ_self e)⟩, q⟩]
      · rw [if_neg q, if_neg (fun z => q z.2)]
    have tO : tmS G f wy wt m e z (3 - e) = 0 := by
      rw [tmS_some y5, dd, if_neg]
      rintro ⟨⟨_, _, a⟩, _⟩
      rcases a with a | a
      · exact a rfl
      · omega
    -- the other terms
    have tR : ∀ d, d < 4 → ¬ d = 3 - e → f' z = f z → tmS G f' wy' wt' m (e + 1) z d = tmS G f wy wt m e z d := fun d hd hde hf => by
      cases hx : gN G z d with
      | none => rw [tmS_none hx, tmS_none hx]
      | some p =>
        obtain ⟨x, cx⟩ := p
        have xz := (hG _ _ _ _ hz hd hx).2.1
        obtain ⟨o1, o2, o3⟩ := o x xz
        rw [tmS_some hx, tmS_some hx, o1, o2, o3, hf]
        have iff : (¬ x = m ∨ 3 - d < e + 1) ↔ (¬ x = m ∨ 3 - d < e) := by
          constructor
          · rintro (a | a)
            · exact Or.inl a
            · exact Or.inr (by omega)
          · rintro (a | a)
            · exact Or.inl a
            · exact Or.inr (by omega)
        simp only [iff]
    obtain ⟨h1, h2⟩ := h z hz
    rcases k1 with ⟨b1, b2, b3, b4⟩ | ⟨b1, b2, b3, b4, b5, b6, b7, b8⟩
    · have sc := sm_ch (f := tmS G f' wy' wt' m (e + 1) z) (g := tmS G f wy wt m e z) (j := 3 - e) (n := 4) (by omega) (fun i hi hne => tR i hi hne b1)
      rw [tN, tO, b1] at sc
      by_cases q : (c : Int) + f m = f z
      · obtain ⟨w1, w2, w3⟩ := b3 q
        refine ⟨fun a => absurd a (by rw [b1]; exact w1), fun _ => ?_⟩
        rw [if_pos q] at sc
        have := h2 w1
        rw [w3]
        unfold CAP at *
        omega
      · rw [if_neg q] at sc
        rw [b4 q, b1]
        refine ⟨h1, fun a => ?_⟩
        rw [h2 a]
        congr 1
        omega
    · refine ⟨fun a => absurd a b3, fun _ => ?_⟩
      have z0 : sm (tmS G f' wy' wt' m (e + 1) z) 4 = wy m := by
        have all0 : ∀ d, d < 4 → ¬ d = 3 - e → tmS G f' wy' wt' m (e + 1) z d = 0 := fun d hd hde => by
          cases hx : gN G z d with
          | none => exact tmS_none hx
          | some p =>
            obtain ⟨x, cx⟩ := p
            have xz := (hG _ _ _ _ hz hd hx).2.1
            obtain ⟨o1, o2, o3⟩ := o x xz
            rw [tmS_some hx, o1, o2, o3, b1, if_neg]
            rintro ⟨⟨v1, v2, v3⟩, v4⟩
            have w := b8 z d x cx hz hd hx v1 v2 (by
              rcases v3 with v3 | v3
              · exact Or.inl v3
              · exact Or.inr (by omega))
            rcases b7 with b7 | b7
            · exact w.1 b7
            · omega
        have sc := sm_ch (f := tmS G f' wy' wt' m (e + 1) z) (g := fun _ => 0) (j := 3 - e) (n := 4) (by omega) (fun i hi hne => all0 i hi hne)
        rw [tN, b1, if_pos rfl, sm_zero] at sc
        omega
      rw [z0, b4, b5]
      congr 1
      omega
  · obtain ⟨h1, h2⟩ := h z hz
    obtain ⟨o1, o2, o3⟩ := o z hzy
    rw [o1, o2]
    refine ⟨h1, fun a => ?_⟩
    rw [h2 a]
    congr 1
    congr 1
    exact sm_congr (fun d hd => (tm1 d hd hzy).symm)
end WY
