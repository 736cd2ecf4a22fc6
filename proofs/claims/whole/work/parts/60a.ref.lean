/-! the reference: its own cell, number 100 -/
def mF (g : Nat → Int) : List Value := [.ref 101, .ref 102, .ref 103, .ref 104, .ref 105, .int (zI (g 5)), .int (zI (g 6)), .int (zI (g 7)), .int (zI (g 8)), .ref 106, .ref 107, .ref 108, .ref 109, .int (zI (g 13)), .ref 110, .ref 111, .ref 112, .int (zI (g 17)), .ref 113, .ref 114, .ref 115, .ref 116, .ref 117, .ref 118, .ref 119, .ref 120, .ref 121, .ref 122, .ref 123, .ref 124, .ref 125, .ref 126, .int (zI (g 32)), .ref 127, .ref 128, .ref 129, .ref 130, .ref 131, .ref 132, .ref 133, .ref 134, .ref 135, .int (zI (g 42)), .ref 136, .ref 137, .ref 138, .int (zI (g 46)), .int (zI (g 47)), .int (zI (g 48)), .int (zI (g 49)), .int (zI (g 50)), .int (zI (g 51)), .int (zI (g 52)), .int (zI (g 53)), .int (zI (g 54)), .int (zI (g 55)), .int (zI (g 56)), .ref 139, .ref 140, .ref 141, .ref 142, .ref 143, .ref 144, .ref 145, .ref 146, .int (zI (g 65)), .ref 147]
abbrev mO (g : Nat → Int) : jC := .inr (12, mF g)
theorem mF_len {g : Nat → Int} : (mF g).length = 67 := rfl
theorem mF_0 {g : Nat → Int} : (mF g)[0]? = some (.ref 101) := rfl
theorem mF_1 {g : Nat → Int} : (mF g)[1]? = some (.ref 102) := rfl
theorem mF_2 {g : Nat → Int} : (mF g)[2]? = some (.ref 103) := rfl
theorem mF_3 {g : Nat → Int} : (mF g)[3]? = some (.ref 104) := rfl
theorem mF_4 {g : Nat → Int} : (mF g)[4]? = some (.ref 105) := rfl
theorem mF_5 {g : Nat → Int} : (mF g)[5]? = some (.int (zI (g 5))) := rfl
theorem mF_s5 {g : Nat → Int} {v : Int} : (mF g).set 5 (.int (zI v)) = mF (up g 5 v) := rfl
theorem mF_6 {g : Nat → Int} : (mF g)[6]? = some (.int (zI (g 6))) := rfl
theorem mF_s6 {g : Nat → Int} {v : Int} : (mF g).set 6 (.int (zI v)) = mF (up g 6 v) := rfl
theorem mF_7 {g : Nat → Int} : (mF g)[7]? = some (.int (zI (g 7))) := rfl
theorem mF_s7 {g : Nat → Int} {v : Int} : (mF g).set 7 (.int (zI v)) = mF (up g 7 v) := rfl
theorem mF_8 {g : Nat → Int} : (mF g)[8]? = some (.int (zI (g 8))) := rfl
theorem mF_s8 {g : Nat → Int} {v : Int} : (mF g).set 8 (.int (zI v)) = mF (up g 8 v) := rfl
theorem mF_9 {g : Nat → Int} : (mF g)[9]? = some (.ref 106) := rfl
theorem mF_10 {g : Nat → Int} : (mF g)[10]? = some (.ref 107) := rfl
theorem mF_11 {g : Nat → Int} : (mF g)[11]? = some (.ref 108) := rfl
theorem mF_12 {g : Nat → Int} : (mF g)[12]? = some (.ref 109) := rfl
theorem mF_13 {g : Nat → Int} : (mF g)[13]? = some (.int (zI (g 13))) := rfl
theorem mF_s13 {g : Nat → Int} {v : Int} : (mF g).set 13 (.int (zI v)) = mF (up g 13 v) := rfl
theorem mF_14 {g : Nat → Int} : (mF g)[14]? = some (.ref 110) := rfl
theorem mF_15 {g : Nat → Int} : (mF g)[15]? = some (.ref 111) := rfl
theorem mF_16 {g : Nat → Int} : (mF g)[16]? = some (.ref 112) := rfl
theorem mF_17 {g : Nat → Int} : (mF g)[17]? = some (.int (zI (g 17))) := rfl
theorem mF_s17 {g : Nat → Int} {v : Int} : (mF g).set 17 (.int (zI v)) = mF (up g 17 v) := rfl
theorem mF_18 {g : Nat → Int} : (mF g)[18]? = some (.ref 113) := rfl
theorem mF_19 {g : Nat → Int} : (mF g)[19]? = some (.ref 114) := rfl
theorem mF_20 {g : Nat → Int} : (mF g)[20]? = some (.ref 115) := rfl
theorem mF_21 {g : Nat → Int} : (mF g)[21]? = some (.ref 116) := rfl
theorem mF_22 {g : Nat → Int} : (mF g)[22]? = some (.ref 117) := rfl
theorem mF_23 {g : Nat → Int} : (mF g)[23]? = some (.ref 118) := rfl
theorem mF_24 {g : Nat → Int} : (mF g)[24]? = some (.ref 119) := rfl
theorem mF_25 {g : Nat → Int} : (mF g)[25]? = some (.ref 120) := rfl
theorem mF_26 {g : Nat → Int} : (mF g)[26]? = some (.ref 121) := rfl
theorem mF_27 {g : Nat → Int} : (mF g)[27]? = some (.ref 122) := rfl
theorem mF_28 {g : Nat → Int} : (mF g)[28]? = some (.ref 123) := rfl
theorem mF_29 {g : Nat → Int} : (mF g)[29]? = some (.ref 124) := rfl
theorem mF_30 {g : Nat → Int} : (mF g)[30]? = some (.ref 125) := rfl
theorem mF_31 {g : Nat → Int} : (mF g)[31]? = some (.ref 126) := rfl
theorem mF_32 {g : Nat → Int} : (mF g)[32]? = some (.int (zI (g 32))) := rfl
theorem mF_s32 {g : Nat → Int} {v : Int} : (mF g).set 32 (.int (zI v)) = mF (up g 32 v) := rfl
theorem mF_33 {g : Nat → Int} : (mF g)[33]? = some (.ref 127) := rfl
theorem mF_34 {g : Nat → Int} : (mF g)[34]? = some (.ref 128) := rfl
theorem mF_35 {g : Nat → Int} : (mF g)[35]? = some (.ref 129) := rfl
theorem mF_36 {g : Nat → Int} : (mF g)[36]? = some (.ref 130) := rfl
theorem mF_37 {g : Nat → Int} : (mF g)[37]? = some (.ref 131) := rfl
theorem mF_38 {g : Nat → Int} : (mF g)[38]? = some (.ref 132) := rfl
theorem mF_39 {g : Nat → Int} : (mF g)[39]? = some (.ref 133) := rfl
theorem mF_40 {g : Nat → Int} : (mF g)[40]? = some (.ref 134) := rfl
theorem mF_41 {g : Nat → Int} : (mF g)[41]? = some (.ref 135) := rfl
theorem mF_42 {g : Nat → Int} : (mF g)[42]? = some (.int (zI (g 42))) := rfl
theorem mF_s42 {g : Nat → Int} {v : Int} : (mF g).set 42 (.int (zI v)) = mF (up g 42 v) := rfl
theorem mF_43 {g : Nat → Int} : (mF g)[43]? = some (.ref 136) := rfl
theorem mF_44 {g : Nat → Int} : (mF g)[44]? = some (.ref 137) := rfl
theorem mF_45 {g : Nat → Int} : (mF g)[45]? = some (.ref 138) := rfl
theorem mF_46 {g : Nat → Int} : (mF g)[46]? = some (.int (zI (g 46))) := rfl
theorem mF_s46 {g : Nat → Int} {v : Int} : (mF g).set 46 (.int (zI v)) = mF (up g 46 v) := rfl
theorem mF_47 {g : Nat → Int} : (mF g)[47]? = some (.int (zI (g 47))) := rfl
theorem mF_s47 {g : Nat → Int} {v : Int} : (mF g).set 47 (.int (zI v)) = mF (up g 47 v) := rfl
theorem mF_48 {g : Nat → Int} : (mF g)[48]? = some (.int (zI (g 48))) := rfl
theorem mF_s48 {g : Nat → Int} {v : Int} : (mF g).set 48 (.int (zI v)) = mF (up g 48 v) := rfl
theorem mF_49 {g : Nat → Int} : (mF g)[49]? = some (.int (zI (g 49))) := rfl
theorem mF_s49 {g : Nat → Int} {v : Int} : (mF g).set 49 (.int (zI v)) = mF (up g 49 v) := rfl
theorem mF_50 {g : Nat → Int} : (mF g)[50]? = some (.int (zI (g 50))) := rfl
theorem mF_s50 {g : Nat → Int} {v : Int} : (mF g).set 50 (.int (zI v)) = mF (up g 50 v) := rfl
theorem mF_51 {g : Nat → Int} : (mF g)[51]? = some (.int (zI (g 51))) := rfl
theorem mF_s51 {g : Nat → Int} {v : Int} : (mF g).set 51 (.int (zI v)) = mF (up g 51 v) := rfl
theorem mF_52 {g : Nat → Int} : (mF g)[52]? = some (.int (zI (g 52))) := rfl
theorem mF_s52 {g : Nat → Int} {v : Int} : (mF g).set 52 (.int (zI v)) = mF (up g 52 v) := rfl
theorem mF_53 {g : Nat → Int} : (mF g)[53]? = some (.int (zI (g 53))) := rfl
theorem mF_s53 {g : Nat → Int} {v : Int} : (mF g).set 53 (.int (zI v)) = mF (up g 53 v) := rfl
theorem mF_54 {g : Nat → Int} : (mF g)[54]? = some (.int (zI (g 54))) := rfl
theorem mF_s54 {g : Nat → Int} {v : Int} : (mF g).set 54 (.int (zI v)) = mF (up g 54 v) := rfl
theorem mF_55 {g : Nat → Int} : (mF g)[55]? = some (.int (zI (g 55))) := rfl
theorem mF_s55 {g : Nat → Int} {v : Int} : (mF g).set 55 (.int (zI v)) = mF (up g 55 v) := rfl
theorem mF_56 {g : Nat → Int} : (mF g)[56]? = some (.int (zI (g 56))) := rfl
theorem mF_s56 {g : Nat → Int} {v : Int} : (mF g).set 56 (.int (zI v)) = mF (up g 56 v) := rfl
theorem mF_57 {g : Nat → Int} : (mF g)[57]? = some (.ref 139) := rfl
theorem mF_58 {g : Nat → Int} : (mF g)[58]? = some (.ref 140) := rfl
theorem mF_59 {g : Nat → Int} : (mF g)[59]? = some (.ref 141) := rfl
theorem mF_60 {g : Nat → Int} : (mF g)[60]? = some (.ref 142) := rfl
theorem mF_61 {g : Nat → Int} : (mF g)[61]? = some (.ref 143) := rfl
theorem mF_62 {g : Nat → Int} : (mF g)[62]? = some (.ref 144) := rfl
theorem mF_63 {g : Nat → Int} : (mF g)[63]? = some (.ref 145) := rfl
theorem mF_64 {g : Nat → Int} : (mF g)[64]? = some (.ref 146) := rfl
theorem mF_65 {g : Nat → Int} : (mF g)[65]? = some (.int (zI (g 65))) := rfl
theorem mF_s65 {g : Nat → Int} {v : Int} : (mF g).set 65 (.int (zI v)) = mF (up g 65 v) := rfl
theorem mF_66 {g : Nat → Int} : (mF g)[66]? = some (.ref 147) := rfl
theorem ix_3 {a b : Nat} : (3 * (a : Int) + (b : Int)).toNat = 3 * a + b := by omega
theorem iz_3 {a : Nat} : (3 * (a : Int)).toNat = 3 * a := by omega
theorem ix_4 {a b : Nat} : (4 * (a : Int) + (b : Int)).toNat = 4 * a + b := by omega
theorem iz_4 {a : Nat} : (4 * (a : Int)).toNat = 4 * a := by omega
theorem ix_8 {a b : Nat} : (8 * (a : Int) + (b : Int)).toNat = 8 * a + b := by omega
theorem iz_8 {a : Nat} : (8 * (a : Int)).toNat = 8 * a := by omega
theorem ix_9 {a b : Nat} : (9 * (a : Int) + (b : Int)).toNat = 9 * a + b := by omega
theorem iz_9 {a : Nat} : (9 * (a : Int)).toNat = 9 * a := by omega
theorem ix_16 {a b : Nat} : (16 * (a : Int) + (b : Int)).toNat = 16 * a + b := by omega
theorem iz_16 {a : Nat} : (16 * (a : Int)).toNat = 16 * a := by omega
theorem ix_4101 {a b : Nat} : (4101 * (a : Int) + (b : Int)).toNat = 4101 * a + b := by omega
theorem iz_4101 {a : Nat} : (4101 * (a : Int)).toNat = 4101 * a := by omega
theorem ix_6561 {a b : Nat} : (6561 * (a : Int) + (b : Int)).toNat = 6561 * a + b := by omega
theorem iz_6561 {a : Nat} : (6561 * (a : Int)).toNat = 6561 * a := by omega
theorem nar0 : vp_nar .boolean (zI 0) = zI 0 := by decide
theorem nar1 : vp_nar .boolean (zI 1) = zI 1 := by decide
theorem narb {p : Bool} : vp_nar .boolean (zI (if p = true then 1 else 0)) = zI (if p = true then 1 else 0) := by cases p <;> decide
theorem bA_v {p : Nat → Bool} {v : Bool} {i j : Nat} : up (fun j => if p j = true then (1 : Int) else 0) i (if v = true then 1 else 0) j = if ub p i v j = true then 1 else 0 := by cases v <;> first | exact bA_t | exact bA_f
theorem bit_t : (if true = true then (1 : Int) else 0) = 1 := rfl
theorem bit_f : (if false = true then (1 : Int) else 0) = 0 := rfl
theorem up_up {g : Nat → Int} {k : Nat} {a b : Int} : up (up g k a) k b = up g k b := by
  funext j
  unfold up
  by_cases c : j = k
  · rw [if_pos c, if_pos c]
  · rw [if_neg c, if_neg c, if_neg c]
theorem zrem {a b : Nat} : (a : Int) - ((a / b * b : Nat) : Int) = ((a % b : Nat) : Int) := by
  have := Nat.div_add_mod a b
  rw [Nat.mul_comm] at this
  omega
theorem zdvN {a b : Nat} (h1 : a < 2147483648) (h2 : 0 < b) (h3 : b < 2147483648) : zI (a : Int) / zI (b : Int) = zI ((a / b : Nat) : Int) := zI_div (by omega) (by omega) (by omega) (by omega)
theorem zLdvN {a b : Nat} (h1 : a < 9223372036854775808) (h2 : 0 < b) (h3 : b < 9223372036854775808) : zL (a : Int) / zL (b : Int) = zL ((a / b : Nat) : Int) := zL_div (by omega) (by omega) (by omega) (by omega)
