/-! the cells are small: room -/
def Szc (w : jW) (i B : Nat) : Prop := ∃ c, w[i]? = some c ∧ jcs c ≤ B
theorem jsl_bd (B : Nat) : ∀ w : jW, (∀ (i : Nat) (c : jC), w[i]? = some c → jcs c ≤ B) → jsl w ≤ B * w.length
  | [], _ => Nat.zero_le _
  | c :: t, h => by
    have h0 := h 0 c rfl
    have h1 := jsl_bd B t (fun i c hc => h (i + 1) c hc)
    have e : jsl (c :: t) = jcs c + jsl t := by simp [jsl]
    rw [e, List.length_cons, Nat.mul_succ]
    omega
theorem rwS_all : ∀ i : Fin 148, (rwS i.val).2 ≤ 70000 := by decide +kernel
theorem rwS_le {i : Nat} (h : i < 148) : (rwS i).2 ≤ 70000 := rwS_all ⟨i, h⟩
theorem raw_sz {w : jW} {i : Nat} (hi : i < 148) (h : RawC w i) : Szc w i 70000 := by
  have b := rwS_le hi
  unfold RawC at h
  split at h
  · obtain ⟨f, hf⟩ := h; exact ⟨_, hf, b⟩
  · split at h
    · obtain ⟨f, hf⟩ := h; exact ⟨_, hf, b⟩
    · obtain ⟨f, hf⟩ := h; exact ⟨_, hf, b⟩
theorem za_sz {w : jW} {i N : Nat} (h : Za w i N) (hN : N ≤ 70000) : Szc w i 70000 := by
  obtain ⟨f, hf⟩ := h
  exact ⟨_, hf, hN⟩
theorem mi_sz {w : jW} {S : ST} (h : MI w S) : ∀ i, 100 ≤ i → i < 148 → Szc w i 70000 := by
  obtain ⟨g, c0, ⟨-, m1, m2, m3, ⟨st, m4, -⟩, iw, m5, -⟩, r6, ⟨a7, a8, fr, a9, -⟩, -, ⟨-, bk, h110, -⟩, ⟨⟨mm, b1, -⟩, ml, h112, -⟩, ⟨⟨kp, b2, -⟩, f1a, f2a, f3a, p4a, h113, h114, h115, h116, -⟩, -, -, hmr⟩ := h
  intro i h1 h2
  by_cases c : 118 ≤ i
  · exact raw_sz h2 (hmr i c h2)
  by_cases z100 : i = 100
  · subst z100; exact ⟨_, c0, Nat.le_of_ble_eq_true rfl⟩
  by_cases z101 : i = 101
  · subst z101; exact za_sz m1.za (by decide)
  by_cases z102 : i = 102
  · subst z102; exact za_sz m2.za (by decide)
  by_cases z103 : i = 103
  · subst z103; exact za_sz m3.za (by decide)
  by_cases z104 : i = 104
  · subst z104; exact ⟨_, m4, Nat.le_of_ble_eq_true rfl⟩
  by_cases z105 : i = 105
  · subst z105; exact ⟨_, m5, Nat.le_of_ble_eq_true rfl⟩
  by_cases z106 : i = 106
  · subst z106; exact za_sz r6.za (by decide)
  by_cases z107 : i = 107
  · subst z107; exact za_sz a7.za (by decide)
  by_cases z108 : i = 108
  · subst z108; exact za_sz a8.za (by decide)
  by_cases z109 : i = 109
  · subst z109; exact ⟨_, a9, Nat.le_of_ble_eq_true rfl⟩
  by_cases z110 : i = 110
  · subst z110; exact ⟨_, h110, Nat.le_of_ble_eq_true rfl⟩
  by_cases z111 : i = 111
  · subst z111; exact ⟨_, b1, Nat.le_of_ble_eq_true rfl⟩
  by_cases z112 : i = 112
  · subst z112; exact ⟨_, h112, Nat.le_of_ble_eq_true rfl⟩
  by_cases z113 : i = 113
  · subst z113; exact ⟨_, h113, Nat.le_of_ble_eq_true rfl⟩
  by_cases z114 : i = 114
  · subst z114; exact ⟨_, h114, Nat.le_of_ble_eq_true rfl⟩
  by_cases z115 : i = 115
  · subst z115; exact ⟨_, h115, Nat.le_of_ble_eq_true rfl⟩
  by_cases z116 : i = 116
  · subst z116; exact ⟨_, h116, Nat.le_of_ble_eq_true rfl⟩
  by_cases z117 : i = 117
  · subst z117; exact ⟨_, b2, Nat.le_of_ble_eq_true rfl⟩
  omega
theorem lie_sz {w : jW} {a m : Nat} {tl pl : Nat → Nat} {pk : Int64} (h : LieAt w a m tl pl pk) : Szc w a 20000 ∧ Szc w (a + 1) 20000 ∧ Szc w (a + 2) 20000 := ⟨⟨_, h.1, Nat.le_of_ble_eq_true rfl⟩, ⟨_, h.2.1, Nat.le_of_ble_eq_true rfl⟩, ⟨_, h.2.2, Nat.le_of_ble_eq_true rfl⟩⟩
theorem aim_sz {w : jW} {a m : Nat} {go we : Nat → Nat} {fb : Nat} (h : AimAt w a m go we fb) : Szc w a 20000 ∧ Szc w (a + 1) 20000 ∧ Szc w (a + 2) 20000 := ⟨⟨_, h.1, Nat.le_of_ble_eq_true rfl⟩, ⟨_, h.2.1, Nat.le_of_ble_eq_true rfl⟩, ⟨_, h.2.2, Nat.le_of_ble_eq_true rfl⟩⟩
theorem part_sz {w : jW} {a : Nat} (h : RawPart w a) : Szc w a 20000 ∧ Szc w (a + 1) 20000 ∧ Szc w (a + 2) 20000 ∧ Szc w (a + 3) 20000 := by
  obtain ⟨b, n, s, c, ts, tb, ps, h1, h2, h3, h4⟩ := h
  exact ⟨⟨_, h1, Nat.le_of_ble_eq_true rfl⟩, ⟨_, h2, Nat.le_of_ble_eq_true rfl⟩, ⟨_, h3, Nat.le_of_ble_eq_true rfl⟩, ⟨_, h4, Nat.le_of_ble_eq_true rfl⟩⟩
theorem fd_sz {w : jW} {f cap b N : Nat} {pk : Nat → Int64} (h : FdR w f cap b N pk) (hc : cap ≤ 20000) (hb : 2 ^ b ≤ 20000) : Szc w f 20000 ∧ Szc w (f + 1) 20000 ∧ Szc w (f + 2) 20000 ∧ Szc w (f + 3) 20000 := by
  obtain ⟨hm, sl, ⟨h1, h2, h3, h4⟩, -⟩ := h
  exact ⟨⟨_, h1, Nat.le_of_ble_eq_true rfl⟩, ⟨_, h2, hc⟩, ⟨_, h3, hc⟩, ⟨_, h4, hb⟩⟩
theorem ci_sz {w : jW} {S : ST} (h : CI w S) : ∀ i, i < 100 → Szc w i 20000 := by
  obtain ⟨⟨rn, rc, wl, x0⟩, ⟨pc, x1⟩, ⟨R, C, c, n, pa, co, nb, st, ll, lp, ol, x2, x3, x4, x5, x6, x7, x8, x9⟩, ⟨am, ago, awe, afb, hA⟩, ⟨⟨t5, t6, t7, x19, x20, x21⟩, wt, K, Sx, ak, ahp, asp, ⟨x13, x14, x15, x16, x17⟩, -⟩, ⟨⟨rf, x18, -⟩, p22, p26⟩, ⟨_, _, _, _, l30⟩, ⟨_, _, _, _, l33⟩, ⟨⟨rf1, x36, -⟩, ⟨rf2, x37, -⟩, ⟨p, x38⟩, kk⟩, ⟨⟨rf3, x39, -⟩, ⟨ml, x44⟩, mc⟩, ⟨rm, x45⟩, ⟨⟨_, _, _, _, _, _, _, _, _, _, _, _, x46, fd47, -, x51, x52, x53, x54, l55⟩, ⟨_, _, _, _, _, _, _, _, _, _, _, x58, x59, x60, x61, l62⟩, ⟨_, _, _, _, _, _, _, _, _, _, _, _, x65, fd66, -, x70, x71, x72, l73⟩⟩, ⟨_, _, _, _, _, _, x76, ⟨_, _, _, _, _, _, x77, x78, x79, x80, x81, x82, -⟩, ⟨_, _, _, _, l83⟩⟩, ⟨wy, x86⟩, ⟨rp, x87⟩⟩ := h.raw
  obtain ⟨a10, a11, a12⟩ := aim_sz hA
  obtain ⟨a22, a23, a24, a25⟩ := part_sz p22
  obtain ⟨a26, a27, a28, a29⟩ := part_sz p26
  obtain ⟨a30, a31, a32⟩ := lie_sz l30
  obtain ⟨a33, a34, a35⟩ := lie_sz l33
  obtain ⟨⟨_, _, _, _, k0⟩, _, _, _, _, k0'⟩ := kk 0 (by omega)
  obtain ⟨⟨_, _, _, _, k1⟩, _, _, _, _, k1'⟩ := kk 1 (by omega)
  obtain ⟨a88, a89, a90⟩ := lie_sz k0
  obtain ⟨a91, a92, a93⟩ := aim_sz k0'
  obtain ⟨a94, a95, a96⟩ := lie_sz k1
  obtain ⟨a97, a98, a99⟩ := aim_sz k1'
  obtain ⟨m0, x40⟩ := mc 0 (by omega)
  obtain ⟨m1, x41⟩ := mc 1 (by omega)
  obtain ⟨m2, x42⟩ := mc 2 (by omega)
  obtain ⟨m3, x43⟩ := mc 3 (by omega)
  obtain ⟨a47, a48, a49, a50⟩ := fd_sz fd47 (by decide) (by decide)
  obtain ⟨a55, a56, a57⟩ := lie_sz l55
  obtain ⟨a62, a63, a64⟩ := lie_sz l62
  obtain ⟨a66, a67, a68, a69⟩ := fd_sz fd66 (by decide) (by decide)
  obtain ⟨a73, a74, a75⟩ := lie_sz l73
  obtain ⟨a83, a84, a85⟩ := lie_sz l83
  intro i hi
  by_cases z0 : i = 0
  · subst z0; exact ⟨_, x0, Nat.le_of_ble_eq_true rfl⟩
  by_cases z1 : i = 1
  · subst z1; exact ⟨_, x1, Nat.le_of_ble_eq_true rfl⟩
  by_cases z2 : i = 2
  · subst z2; exact ⟨_, x2, Nat.le_of_ble_eq_true rfl⟩
  by_cases z3 : i = 3
  · subst z3; exact ⟨_, x3, Nat.le_of_ble_eq_true rfl⟩
  by_cases z4 : i = 4
  · subst z4; exact ⟨_, x4, Nat.le_of_ble_eq_true rfl⟩
  by_cases z5 : i = 5
  · subst z5; exact ⟨_, x5, Nat.le_of_ble_eq_true rfl⟩
  by_cases z6 : i = 6
  · subst z6; exact ⟨_, x6, Nat.le_of_ble_eq_true rfl⟩
  by_cases z7 : i = 7
  · subst z7; exact ⟨_, x7, Nat.le_of_ble_eq_true rfl⟩
  by_cases z8 : i = 8
  · subst z8; exact ⟨_, x8, Nat.le_of_ble_eq_true rfl⟩
  by_cases z9 : i = 9
  · subst z9; exact ⟨_, x9, Nat.le_of_ble_eq_true rfl⟩
  by_cases z10 : i = 10
  · subst z10; exact a10
  by_cases z11 : i = 11
  · subst z11; exact a11
  by_cases z12 : i = 12
  · subst z12; exact a12
  by_cases z13 : i = 13
  · subst z13; exact ⟨_, x13, Nat.le_of_ble_eq_true rfl⟩
  by_cases z14 : i = 14
  · subst z14; exact ⟨_, x14, Nat.le_of_ble_eq_true rfl⟩
  by_cases z15 : i = 15
  · subst z15; exact ⟨_, x15, Nat.le_of_ble_eq_true rfl⟩
  by_cases z16 : i = 16
  · subst z16; exact ⟨_, x16, Nat.le_of_ble_eq_true rfl⟩
  by_cases z17 : i = 17
  · subst z17; exact ⟨_, x17, Nat.le_of_ble_eq_true rfl⟩
  by_cases z18 : i = 18
  · subst z18; exact ⟨_, x18, Nat.le_of_ble_eq_true rfl⟩
  by_cases z19 : i = 19
  · subst z19; exact ⟨_, x19, Nat.le_of_ble_eq_true rfl⟩
  by_cases z20 : i = 20
  · subst z20; exact ⟨_, x20, Nat.le_of_ble_eq_true rfl⟩
  by_cases z21 : i = 21
  · subst z21; exact ⟨_, x21, Nat.le_of_ble_eq_true rfl⟩
  by_cases z22 : i = 22
  · subst z22; exact a22
  by_cases z23 : i = 23
  · subst z23; exact a23
  by_cases z24 : i = 24
  · subst z24; exact a24
  by_cases z25 : i = 25
  · subst z25; exact a25
  by_cases z26 : i = 26
  · subst z26; exact a26
  by_cases z27 : i = 27
  · subst z27; exact a27
  by_cases z28 : i = 28
  · subst z28; exact a28
  by_cases z29 : i = 29
  · subst z29; exact a29
  by_cases z30 : i = 30
  · subst z30; exact a30
  by_cases z31 : i = 31
  · subst z31; exact a31
  by_cases z32 : i = 32
  · subst z32; exact a32
  by_cases z33 : i = 33
  · subst z33; exact a33
  by_cases z34 : i = 34
  · subst z34; exact a34
  by_cases z35 : i = 35
  · subst z35; exact a35
  by_cases z36 : i = 36
  · subst z36; exact ⟨_, x36, Nat.le_of_ble_eq_true rfl⟩
  by_cases z37 : i = 37
  · subst z37; exact ⟨_, x37, Nat.le_of_ble_eq_true rfl⟩
  by_cases z38 : i = 38
  · subst z38; exact ⟨_, x38, Nat.le_of_ble_eq_true rfl⟩
  by_cases z39 : i = 39
  · subst z39; exact ⟨_, x39, Nat.le_of_ble_eq_true rfl⟩
  by_cases z40 : i = 40
  · subst z40; exact ⟨_, x40, Nat.le_of_ble_eq_true rfl⟩
  by_cases z41 : i = 41
  · subst z41; exact ⟨_, x41, Nat.le_of_ble_eq_true rfl⟩
  by_cases z42 : i = 42
  · subst z42; exact ⟨_, x42, Nat.le_of_ble_eq_true rfl⟩
  by_cases z43 : i = 43
  · subst z43; exact ⟨_, x43, Nat.le_of_ble_eq_true rfl⟩
  by_cases z44 : i = 44
  · subst z44; exact ⟨_, x44, Nat.le_of_ble_eq_true rfl⟩
  by_cases z45 : i = 45
  · subst z45; exact ⟨_, x45, Nat.le_of_ble_eq_true rfl⟩
  by_cases z46 : i = 46
  · subst z46; exact ⟨_, x46, Nat.le_of_ble_eq_true rfl⟩
  by_cases z47 : i = 47
  · subst z47; exact a47
  by_cases z48 : i = 48
  · subst z48; exact a48
  by_cases z49 : i = 49
  · subst z49; exact a49
  by_cases z50 : i = 50
  · subst z50; exact a50
  by_cases z51 : i = 51
  · subst z51; exact ⟨_, x51, Nat.le_of_ble_eq_true rfl⟩
  by_cases z52 : i = 52
  · subst z52; exact ⟨_, x52, Nat.le_of_ble_eq_true rfl⟩
  by_cases z53 : i = 53
  · subst z53; exact ⟨_, x53, Nat.le_of_ble_eq_true rfl⟩
  by_cases z54 : i = 54
  · subst z54; exact ⟨_, x54, Nat.le_of_ble_eq_true rfl⟩
  by_cases z55 : i = 55
  · subst z55; exact a55
  by_cases z56 : i = 56
  · subst z56; exact a56
  by_cases z57 : i = 57
  · subst z57; exact a57
  by_cases z58 : i = 58
  · subst z58; exact ⟨_, x58, Nat.le_of_ble_eq_true rfl⟩
  by_cases z59 : i = 59
  · subst z59; exact ⟨_, x59, Nat.le_of_ble_eq_true rfl⟩
  by_cases z60 : i = 60
  · subst z60; exact ⟨_, x60, Nat.le_of_ble_eq_true rfl⟩
  by_cases z61 : i = 61
  · subst z61; exact ⟨_, x61, Nat.le_of_ble_eq_true rfl⟩
  by_cases z62 : i = 62
  · subst z62; exact a62
  by_cases z63 : i = 63
  · subst z63; exact a63
  by_cases z64 : i = 64
  · subst z64; exact a64
  by_cases z65 : i = 65
  · subst z65; exact ⟨_, x65, Nat.le_of_ble_eq_true rfl⟩
  by_cases z66 : i = 66
  · subst z66; exact a66
  by_cases z67 : i = 67
  · subst z67; exact a67
  by_cases z68 : i = 68
  · subst z68; exact a68
  by_cases z69 : i = 69
  · subst z69; exact a69
  by_cases z70 : i = 70
  · subst z70; exact ⟨_, x70, Nat.le_of_ble_eq_true rfl⟩
  by_cases z71 : i = 71
  · subst z71; exact ⟨_, x71, Nat.le_of_ble_eq_true rfl⟩
  by_cases z72 : i = 72
  · subst z72; exact ⟨_, x72, Nat.le_of_ble_eq_true rfl⟩
  by_cases z73 : i = 73
  · subst z73; exact a73
  by_cases z74 : i = 74
  · subst z74; exact a74
  by_cases z75 : i = 75
  · subst z75; exact a75
  by_cases z76 : i = 76
  · subst z76; exact ⟨_, x76, Nat.le_of_ble_eq_true rfl⟩
  by_cases z77 : i = 77
  · subst z77; exact ⟨_, x77, Nat.le_of_ble_eq_true rfl⟩
  by_cases z78 : i = 78
  · subst z78; exact ⟨_, x78, Nat.le_of_ble_eq_true rfl⟩
  by_cases z79 : i = 79
  · subst z79; exact ⟨_, x79, Nat.le_of_ble_eq_true rfl⟩
  by_cases z80 : i = 80
  · subst z80; exact ⟨_, x80, Nat.le_of_ble_eq_true rfl⟩
  by_cases z81 : i = 81
  · subst z81; exact ⟨_, x81, Nat.le_of_ble_eq_true rfl⟩
  by_cases z82 : i = 82
  · subst z82; exact ⟨_, x82, Nat.le_of_ble_eq_true rfl⟩
  by_cases z83 : i = 83
  · subst z83; exact a83
  by_cases z84 : i = 84
  · subst z84; exact a84
  by_cases z85 : i = 85
  · subst z85; exact a85
  by_cases z86 : i = 86
  · subst z86; exact ⟨_, x86, Nat.le_of_ble_eq_true rfl⟩
  by_cases z87 : i = 87
  · subst z87; exact ⟨_, x87, Nat.le_of_ble_eq_true rfl⟩
  by_cases z88 : i = 88
  · subst z88; exact a88
  by_cases z89 : i = 89
  · subst z89; exact a89
  by_cases z90 : i = 90
  · subst z90; exact a90
  by_cases z91 : i = 91
  · subst z91; exact a91
  by_cases z92 : i = 92
  · subst z92; exact a92
  by_cases z93 : i = 93
  · subst z93; exact a93
  by_cases z94 : i = 94
  · subst z94; exact a94
  by_cases z95 : i = 95
  · subst z95; exact a95
  by_cases z96 : i = 96
  · subst z96; exact a96
  by_cases z97 : i = 97
  · subst z97; exact a97
  by_cases z98 : i = 98
  · subst z98; exact a98
  by_cases z99 : i = 99
  · subst z99; exact a99
  omega
theorem lq_sz {w : jW} {S : ST} (h : LQ w S) : jsl w ≤ 5430000 := by
  obtain ⟨⟨c, m, -⟩, hl, o, h148⟩ := h
  have e : jsl w = jsl (w.take 100) + jsl (w.drop 100) := by rw [← jsl_app, List.take_append_drop]
  have b1 := jsl_bd 20000 (w.take 100) (fun i x hx => by
    rw [List.getElem?_take] at hx
    split at hx
    · obtain ⟨x', h1, h2⟩ := ci_sz c i (by omega)
      rw [h1] at hx
      cases hx
      exact h2
    · cases hx)
  have b2 := jsl_bd 70000 (w.drop 100) (fun i x hx => by
    rw [List.getElem?_drop] at hx
    by_cases z : i < 48
    · obtain ⟨x', h1, h2⟩ := mi_sz m (100 + i) (by omega) (by omega)
      rw [h1] at hx
      cases hx
      exact h2
    · by_cases z2 : i = 48
      · subst z2
        rw [h148] at hx
        cases hx
        exact Nat.le_of_ble_eq_true rfl
      · rw [List.getElem?_eq_none (by omega)] at hx; cases hx)
  rw [List.length_take] at b1
  rw [List.length_drop] at b2
  have m1 : min 100 w.length = 100 := by omega
  rw [m1] at b1
  rw [hl] at b2
  omega
