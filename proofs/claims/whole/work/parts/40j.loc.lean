/-! locals, a rule a case -/
theorem jlk_hit {i : Nat} {v : Value} {t : jL} : jlk ((i, v) :: t) i = some v := by
  rw [jlk_cons, if_pos rfl]
theorem jlk_skip {k i : Nat} {v : Value} {t : jL} (h : ¬ k = i) : jlk ((k, v) :: t) i = jlk t i := by
  rw [jlk_cons, if_neg h]
theorem jup_hit {i : Nat} {u v : Value} {t : jL} : jup ((i, u) :: t) i v = (i, v) :: jov t i := by
  rw [jup_cons, if_pos rfl]
theorem jup_skip {k i : Nat} {u v : Value} {t : jL} (h : ¬ k = i) (h2 : ¬ k + 1 = i) : jup ((k, u) :: t) i v = (k, u) :: jup t i v := by
  rw [jup_cons, if_neg h, if_neg h2]
theorem jup_onei {k i : Nat} {v : Value} {t : jL} {x : Int32} (h : k + 1 = i) : jup ((k, .int x) :: t) i v = (k, .int x) :: jup t i v := by
  rw [jup_cons, if_neg (by omega), if_pos h, if_neg (fun c => by cases c)]
theorem jup_oner {k i : Nat} {v : Value} {t : jL} {x : Nat} (h : k + 1 = i) : jup ((k, .ref x) :: t) i v = (k, .ref x) :: jup t i v := by
  rw [jup_cons, if_neg (by omega), if_pos h, if_neg (fun c => by cases c)]
theorem jup_onea {k i : Nat} {v : Value} {t : jL} {x : Nat} (h : k + 1 = i) : jup ((k, .retAddr x) :: t) i v = (k, .retAddr x) :: jup t i v := by
  rw [jup_cons, if_neg (by omega), if_pos h, if_neg (fun c => by cases c)]
theorem jup_onef {k i : Nat} {v : Value} {t : jL} {x : UInt32} (h : k + 1 = i) : jup ((k, .float x) :: t) i v = (k, .float x) :: jup t i v := by
  rw [jup_cons, if_neg (by omega), if_pos h, if_neg (fun c => by cases c)]
theorem jup_onen {k i : Nat} {v : Value} {t : jL}  (h : k + 1 = i) : jup ((k, .null) :: t) i v = (k, .null) :: jup t i v := by
  rw [jup_cons, if_neg (by omega), if_pos h, if_neg (fun c => by cases c)]
theorem jup_twol {k i : Nat} {v : Value} {t : jL} {x : Int64} (h : k + 1 = i) : jup ((k, .long x) :: t) i v = jup t i v := by
  rw [jup_cons, if_neg (by omega), if_pos h, jcat_long, if_pos rfl]
theorem jup_twod {k i : Nat} {v : Value} {t : jL} {x : UInt64} (h : k + 1 = i) : jup ((k, .double x) :: t) i v = jup t i v := by
  rw [jup_cons, if_neg (by omega), if_pos h, jcat_dbl, if_pos rfl]
theorem jup2_hit {i : Nat} {u v : Value} {t : jL} : jup2 ((i, u) :: t) i v = (i, v) :: jov2 t i := by
  rw [jup2_cons, if_pos rfl]
theorem jup2_skip {k i : Nat} {u v : Value} {t : jL} (h : ¬ k = i) (h1 : ¬ k = i + 1) (h2 : ¬ k + 1 = i) : jup2 ((k, u) :: t) i v = (k, u) :: jup2 t i v := by
  rw [jup2_cons, if_neg h, if_neg h1, if_neg h2]
theorem jup2_snd {k i : Nat} {u v : Value} {t : jL} (h1 : k = i + 1) : jup2 ((k, u) :: t) i v = jup2 t i v := by
  rw [jup2_cons, if_neg (by omega), if_pos h1]
theorem jup2_onei {k i : Nat} {v : Value} {t : jL} {x : Int32} (h : k + 1 = i) : jup2 ((k, .int x) :: t) i v = (k, .int x) :: jup2 t i v := by
  rw [jup2_cons, if_neg (by omega), if_neg (by omega), if_pos h, if_neg (fun c => by cases c)]
theorem jup2_oner {k i : Nat} {v : Value} {t : jL} {x : Nat} (h : k + 1 = i) : jup2 ((k, .ref x) :: t) i v = (k, .ref x) :: jup2 t i v := by
  rw [jup2_cons, if_neg (by omega), if_neg (by omega), if_pos h, if_neg (fun c => by cases c)]
theorem jup2_onea {k i : Nat} {v : Value} {t : jL} {x : Nat} (h : k + 1 = i) : jup2 ((k, .retAddr x) :: t) i v = (k, .retAddr x) :: jup2 t i v := by
  rw [jup2_cons, if_neg (by omega), if_neg (by omega), if_pos h, if_neg (fun c => by cases c)]
theorem jup2_onef {k i : Nat} {v : Value} {t : jL} {x : UInt32} (h : k + 1 = i) : jup2 ((k, .float x) :: t) i v = (k, .float x) :: jup2 t i v := by
  rw [jup2_cons, if_neg (by omega), if_neg (by omega), if_pos h, if_neg (fun c => by cases c)]
theorem jup2_onen {k i : Nat} {v : Value} {t : jL}  (h : k + 1 = i) : jup2 ((k, .null) :: t) i v = (k, .null) :: jup2 t i v := by
  rw [jup2_cons, if_neg (by omega), if_neg (by omega), if_pos h, if_neg (fun c => by cases c)]
theorem jup2_twol {k i : Nat} {v : Value} {t : jL} {x : Int64} (h : k + 1 = i) : jup2 ((k, .long x) :: t) i v = jup2 t i v := by
  rw [jup2_cons, if_neg (by omega), if_neg (by omega), if_pos h, jcat_long, if_pos rfl]
theorem jup2_twod {k i : Nat} {v : Value} {t : jL} {x : UInt64} (h : k + 1 = i) : jup2 ((k, .double x) :: t) i v = jup2 t i v := by
  rw [jup2_cons, if_neg (by omega), if_neg (by omega), if_pos h, jcat_dbl, if_pos rfl]
theorem jov_skip {k i : Nat} {u : Value} {t : jL} (h2 : ¬ k + 1 = i) : jov ((k, u) :: t) i = (k, u) :: jov t i := by
  rw [jov_cons, if_neg h2]
theorem jov_onei {k i : Nat} {t : jL} {x : Int32} (h : k + 1 = i) : jov ((k, .int x) :: t) i = (k, .int x) :: jov t i := by
  rw [jov_cons, if_pos h, if_neg (fun c => by cases c)]
theorem jov_oner {k i : Nat} {t : jL} {x : Nat} (h : k + 1 = i) : jov ((k, .ref x) :: t) i = (k, .ref x) :: jov t i := by
  rw [jov_cons, if_pos h, if_neg (fun c => by cases c)]
theorem jov_onea {k i : Nat} {t : jL} {x : Nat} (h : k + 1 = i) : jov ((k, .retAddr x) :: t) i = (k, .retAddr x) :: jov t i := by
  rw [jov_cons, if_pos h, if_neg (fun c => by cases c)]
theorem jov_onef {k i : Nat} {t : jL} {x : UInt32} (h : k + 1 = i) : jov ((k, .float x) :: t) i = (k, .float x) :: jov t i := by
  rw [jov_cons, if_pos h, if_neg (fun c => by cases c)]
theorem jov_onen {k i : Nat} {t : jL}  (h : k + 1 = i) : jov ((k, .null) :: t) i = (k, .null) :: jov t i := by
  rw [jov_cons, if_pos h, if_neg (fun c => by cases c)]
theorem jov_twol {k i : Nat} {t : jL} {x : Int64} (h : k + 1 = i) : jov ((k, .long x) :: t) i = jov t i := by
  rw [jov_cons, if_pos h, jcat_long, if_pos rfl]
theorem jov_twod {k i : Nat} {t : jL} {x : UInt64} (h : k + 1 = i) : jov ((k, .double x) :: t) i = jov t i := by
  rw [jov_cons, if_pos h, jcat_dbl, if_pos rfl]
theorem jov2_skip {k i : Nat} {u : Value} {t : jL} (h1 : ¬ k = i + 1) (h2 : ¬ k + 1 = i) : jov2 ((k, u) :: t) i = (k, u) :: jov2 t i := by
  rw [jov2_cons, if_neg h1, if_neg h2]
theorem jov2_snd {k i : Nat} {u : Value} {t : jL} (h1 : k = i + 1) : jov2 ((k, u) :: t) i = jov2 t i := by
  rw [jov2_cons, if_pos h1]
theorem jov2_onei {k i : Nat} {t : jL} {x : Int32} (h : k + 1 = i) : jov2 ((k, .int x) :: t) i = (k, .int x) :: jov2 t i := by
  rw [jov2_cons, if_neg (by omega), if_pos h, if_neg (fun c => by cases c)]
theorem jov2_oner {k i : Nat} {t : jL} {x : Nat} (h : k + 1 = i) : jov2 ((k, .ref x) :: t) i = (k, .ref x) :: jov2 t i := by
  rw [jov2_cons, if_neg (by omega), if_pos h, if_neg (fun c => by cases c)]
theorem jov2_onea {k i : Nat} {t : jL} {x : Nat} (h : k + 1 = i) : jov2 ((k, .retAddr x) :: t) i = (k, .retAddr x) :: jov2 t i := by
  rw [jov2_cons, if_neg (by omega), if_pos h, if_neg (fun c => by cases c)]
theorem jov2_onef {k i : Nat} {t : jL} {x : UInt32} (h : k + 1 = i) : jov2 ((k, .float x) :: t) i = (k, .float x) :: jov2 t i := by
  rw [jov2_cons, if_neg (by omega), if_pos h, if_neg (fun c => by cases c)]
theorem jov2_onen {k i : Nat} {t : jL}  (h : k + 1 = i) : jov2 ((k, .null) :: t) i = (k, .null) :: jov2 t i := by
  rw [jov2_cons, if_neg (by omega), if_pos h, if_neg (fun c => by cases c)]
theorem jov2_twol {k i : Nat} {t : jL} {x : Int64} (h : k + 1 = i) : jov2 ((k, .long x) :: t) i = jov2 t i := by
  rw [jov2_cons, if_neg (by omega), if_pos h, jcat_long, if_pos rfl]
theorem jov2_twod {k i : Nat} {t : jL} {x : UInt64} (h : k + 1 = i) : jov2 ((k, .double x) :: t) i = jov2 t i := by
  rw [jov2_cons, if_neg (by omega), if_pos h, jcat_dbl, if_pos rfl]
