/-! the law: what holds between its calls -/
def LQ (w : jW) (S : ST) : Prop := LJ w S ∧ w.length = 149 ∧ ∃ o, w[148]? = some (lA 1 o)
abbrev LV (i : Nat) : jL := [(0, .retAddr 0), (1, .ref 0), (2, .ref 100), (3, .ref 148), (4, .int (zI (i : Int)))]
theorem lg_self {x : Int64} : lg_cmp x x = zI 0 := (lg_c_eq x x).mpr rfl
theorem LQ.nx {w1 w2 w3 : jW} {S1 : ST} {c : Int} {o : Nat → Int64} (h1 : w1.length = 149) (f2 : frP (fun i => i = 148) w1 w2) (h148 : w2[148]? = some (lA 1 o)) (f3 : frP kP w2 w3) (ci : CI w3 S1) (px : PX (xPr S1)) (m3 : MT w3 S1 c) : LQ w3 S1 := ⟨⟨ci, m3.mi, px⟩, f3.1.trans (f2.1.trans h1), o, (f3.2 148 (by decide)).trans h148⟩
theorem q_tray {w : jW} {S : ST} (h : LJ w S) {a0 : Int32} {a1 : Int32} {a2 : Int32} : jmw jm108 [.ref 0, .int a0, .int a1, .int a2] w (Agree 0 [0] (fun _ => 1) jm167 [.ref 100, .int a0, .int a1, .int a2] w) := by
  obtain ⟨v0, rfl, b0⟩ := xz a0
  obtain ⟨v1, rfl, b1⟩ := xz a1
  obtain ⟨v2, rfl, b2⟩ := xz a2
  exact oTray h b0 b1 b2
theorem q_lay {w : jW} {S : ST} (h : LJ w S) {a0 : Int64} : jmw jm109 [.ref 0, .long a0] w (Agree 0 [0] (fun _ => 1) jm188 [.ref 100, .long a0] w) := by
  obtain ⟨v0, rfl, b0⟩ := xlz a0
  exact oLay h b0
theorem q_mix {w : jW} {S : ST} (h : LJ w S) {a0 : Int32} {a1 : Int32} : jmw jm110 [.ref 0, .int a0, .int a1] w (Agree 0 [0] (fun _ => 1) jm189 [.ref 100, .int a0, .int a1] w) := by
  obtain ⟨v0, rfl, -⟩ := xz a0
  obtain ⟨v1, rfl, b1⟩ := xz a1
  exact oMix h b1
theorem q_setGoal {w : jW} {S : ST} (h : LJ w S)  : jmw jm111 [.ref 0] w (Agree 1 [] (fun _ => 0) jm190 [.ref 100] w) := by
  exact oSetGoal h 
theorem q_setWeight {w : jW} {S : ST} (h : LJ w S) {a0 : Int32} {a1 : Int32} : jmw jm113 [.ref 0, .int a0, .int a1] w (Agree 0 [2, 0] (fun e => if e = 2 then 1 else 2) jm192 [.ref 100, .int a0, .int a1] w) := by
  obtain ⟨v0, rfl, b0⟩ := xz a0
  obtain ⟨v1, rfl, b1⟩ := xz a1
  exact oSetWeight h b0 b1
theorem q_setLimit {w : jW} {S : ST} (h : LJ w S) {a0 : Int32} : jmw jm114 [.ref 0, .int a0] w (Agree 0 [0] (fun _ => 1) jm193 [.ref 100, .int a0] w) := by
  obtain ⟨v0, rfl, b0⟩ := xz a0
  exact oSetLimit h b0
theorem q_move {w : jW} {S : ST} (h : LJ w S) {a0 : Int32} {a1 : Int32} : jmw jm115 [.ref 0, .int a0, .int a1] w (Agree 0 [0, 1] (fun e => if e = 0 then 1 else 2) jm195 [.ref 100, .int a0, .int a1] w) := by
  obtain ⟨v0, rfl, b0⟩ := xz a0
  obtain ⟨v1, rfl, b1⟩ := xz a1
  exact oMove h b0 b1
theorem q_undo {w : jW} {S : ST} (h : LJ w S) {a0 : Int32} : jmw jm116 [.ref 0, .int a0] w (Agree 0 [0] (fun _ => 1) jm196 [.ref 100, .int a0] w) := by
  obtain ⟨v0, rfl, b0⟩ := xz a0
  exact oUndo h b0
theorem q_setMacro {w : jW} {S : ST} (h : LJ w S) {a0 : Int32} {a1 : Int64} : jmw jm117 [.ref 0, .int a0, .long a1] w (Agree 0 [2, 0] (fun e => if e = 2 then 1 else 2) jm198 [.ref 100, .int a0, .long a1] w) := by
  obtain ⟨v0, rfl, b0⟩ := xz a0
  exact oSetMacro h b0
theorem q_play {w : jW} {S : ST} (h : LJ w S) {a0 : Int32} {a1 : Int32} : jmw jm118 [.ref 0, .int a0, .int a1] w (Agree 0 [2, 0, 3] (fun e => if e = 2 then 1 else if e = 0 then 2 else 3) jm199 [.ref 100, .int a0, .int a1] w) := by
  obtain ⟨v0, rfl, b0⟩ := xz a0
  obtain ⟨v1, rfl, b1⟩ := xz a1
  exact oPlay h b0 b1
theorem q_keep {w : jW} {S : ST} (h : LJ w S) {a0 : Int32} : jmw jm119 [.ref 0, .int a0] w (Agree 1 [2] (fun _ => 1) jm200 [.ref 100, .int a0] w) := by
  obtain ⟨v0, rfl, b0⟩ := xz a0
  exact oKeep h b0
theorem q_restore {w : jW} {S : ST} (h : LJ w S) {a0 : Int32} : jmw jm120 [.ref 0, .int a0] w (Agree 0 [2, 1] (fun e => if e = 2 then 1 else 2) jm201 [.ref 100, .int a0] w) := by
  obtain ⟨v0, rfl, b0⟩ := xz a0
  exact oRestore h b0
theorem q_tileAt {w : jW} {S : ST} (h : LJ w S) {a0 : Int32} : jmw jm121 [.ref 0, .int a0] w (Agree 0 [2] (fun _ => 1) jm202 [.ref 100, .int a0] w) := by
  obtain ⟨v0, rfl, b0⟩ := xz a0
  exact oTileAt h b0
theorem q_rank {w : jW} {S : ST} (h : LJ w S)  : jmw jm122 [.ref 0] w (Agree 1 [] (fun _ => 0) jm203 [.ref 100] w) := by
  exact oRank h 
theorem q_inversions {w : jW} {S : ST} (h : LJ w S)  : jmw jm123 [.ref 0] w (Agree 0 [] (fun _ => 0) jm205 [.ref 100] w) := by
  exact oInversions h 
theorem q_reaches {w : jW} {S : ST} (h : LJ w S)  : jmw jm124 [.ref 0] w (Agree 2 [1] (fun _ => 1) jm208 [.ref 100] w) := by
  exact oReaches h 
theorem q_estimate {w : jW} {S : ST} (h : LJ w S) {a0 : Int32} : jmw jm125 [.ref 0, .int a0] w (Agree 0 [0] (fun _ => 1) jm209 [.ref 100, .int a0] w) := by
  obtain ⟨v0, rfl, b0⟩ := xz a0
  exact oEstimate h b0
theorem q_solve {w : jW} {S : ST} (h : LJ w S) {a0 : Int32} : jmw jm126 [.ref 0, .int a0] w (Agree 0 [0, 1] (fun e => if e = 0 then 1 else 2) jm219 [.ref 100, .int a0] w) := by
  obtain ⟨v0, rfl, b0⟩ := xz a0
  exact oSolve h b0
theorem q_deepen {w : jW} {S : ST} (h : LJ w S) {a0 : Int32} : jmw jm127 [.ref 0, .int a0] w (Agree 0 [0, 1] (fun e => if e = 0 then 1 else 2) jm223 [.ref 100, .int a0] w) := by
  obtain ⟨v0, rfl, b0⟩ := xz a0
  exact oDeepen h b0
theorem q_both {w : jW} {S : ST} (h : LJ w S)  : jmw jm128 [.ref 0] w (Agree 0 [1] (fun _ => 1) jm227 [.ref 100] w) := by
  exact oBoth h 
theorem q_searched {w : jW} {S : ST} (h : LJ w S) {a0 : Int32} : jmw jm129 [.ref 0, .int a0] w (Agree 0 [0] (fun _ => 1) jm228 [.ref 100, .int a0] w) := by
  obtain ⟨v0, rfl, b0⟩ := xz a0
  exact oSearched h b0
theorem q_wayAt {w : jW} {S : ST} (h : LJ w S) {a0 : Int32} : jmw jm130 [.ref 0, .int a0] w (Agree 0 [3] (fun _ => 1) jm229 [.ref 100, .int a0] w) := by
  obtain ⟨v0, rfl, b0⟩ := xz a0
  exact oWayAt h b0
theorem q_hint {w : jW} {S : ST} (h : LJ w S)  : jmw jm131 [.ref 0] w (Agree 0 [1] (fun _ => 1) jm230 [.ref 100] w) := by
  exact oHint h 
theorem q_far {w : jW} {S : ST} (h : LJ w S) {a0 : Int32} : jmw jm132 [.ref 0, .int a0] w (Agree 0 [0, 1] (fun e => if e = 0 then 1 else 2) jm234 [.ref 100, .int a0] w) := by
  obtain ⟨v0, rfl, b0⟩ := xz a0
  exact oFar h b0
theorem q_onlyWay {w : jW} {S : ST} (h : LJ w S) {a0 : Int32} : jmw jm133 [.ref 0, .int a0] w (Agree 0 [0, 1] (fun e => if e = 0 then 1 else 2) jm235 [.ref 100, .int a0] w) := by
  obtain ⟨v0, rfl, b0⟩ := xz a0
  exact oOnlyWay h b0
theorem q_isFair {w : jW} {S : ST} (h : LJ w S) {a0 : Int32} : jmw jm134 [.ref 0, .int a0] w (Agree 2 [0, 1] (fun e => if e = 0 then 1 else 2) jm237 [.ref 100, .int a0] w) := by
  obtain ⟨v0, rfl, b0⟩ := xz a0
  exact oIsFair h b0
theorem q_part {w : jW} {S : ST} (h : LJ w S) {a0 : Int32} : jmw jm135 [.ref 0, .int a0] w (Agree 0 [0, 1] (fun e => if e = 0 then 1 else 2) jm185 [.ref 100, .int a0] w) := by
  obtain ⟨v0, rfl, b0⟩ := xz a0
  exact oPart h b0
theorem q_errors {w : jW} {S : ST} (h : LJ w S)  : jmw jm138 [.ref 0] w (Agree 0 [] (fun _ => 0) jm241 [.ref 100] w) := by
  exact oErrors h 
