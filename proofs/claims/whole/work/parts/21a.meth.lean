/-- java/lang/Integer.bitCount(I)I -/
def jm0 : jM := (
  [[(.iload_n 0, 1, 0, 0), (.iload_n 0, 1, 0, 0), (.iconst 1, 1, 0, 0), (.iushr, 1, 0, 0), (.ldc_w 265, 3, 1431655765, 0), (.iand, 1, 0, 0), (.isub, 1, 0, 0), (.istore_n 0, 1, 0, 0), (.iload_n 0, 1, 0, 0), (.ldc_w 266, 3, 858993459, 0), (.iand, 1, 0, 0), (.iload_n 0, 1, 0, 0), (.iconst 2, 1, 0, 0), (.iushr, 1, 0, 0), (.ldc_w 266, 3, 858993459, 0), (.iand, 1, 0, 0), (.iadd, 1, 0, 0), (.istore_n 0, 1, 0, 0), (.iload_n 0, 1, 0, 0), (.iload_n 0, 1, 0, 0), (.iconst 4, 1, 0, 0), (.iushr, 1, 0, 0), (.iadd, 1, 0, 0), (.ldc_w 267, 3, 252645135, 0), (.iand, 1, 0, 0), (.istore_n 0, 1, 0, 0), (.iload_n 0, 1, 0, 0), (.iload_n 0, 1, 0, 0), (.bipush 8, 2, 0, 0), (.iushr, 1, 0, 0), (.iadd, 1, 0, 0), (.istore_n 0, 1, 0, 0), (.iload_n 0, 1, 0, 0), (.iload_n 0, 1, 0, 0), (.bipush 16, 2, 0, 0), (.iushr, 1, 0, 0), (.iadd, 1, 0, 0), (.istore_n 0, 1, 0, 0), (.iload_n 0, 1, 0, 0), (.bipush 63, 2, 0, 0), (.iand, 1, 0, 0), (.ireturn, 1, 0, 0)]],
  [], (1, 0, 0, 99), [], ⟨"java/lang/Integer", "bitCount", "(I)I"⟩, prog_20_method_49_code, (some .int), [])
abbrev jm0p : List Nat := [0]
/-- java/util/Arrays.fill([II)V -/
def jm1 : jM := (
  [[(.iconst 0, 1, 0, 0), (.istore_n 2, 1, 0, 0), (.aload_n 0, 1, 0, 0), (.arraylength, 1, 0, 0), (.istore_n 3, 1, 0, 0), (.nop, 0, 1, 0)],
   [(.iload_n 2, 1, 0, 0), (.iload_n 3, 1, 0, 0), (.if_icmp .ge 13, 3, 2, 0), (.aload_n 0, 1, 0, 0), (.iload_n 2, 1, 0, 0), (.iload_n 1, 1, 0, 0), (.iastore, 1, 0, 0), (.iinc 2 1, 3, 0, 0), (.goto (-12), 3, 1, 0)],
   [(.return_, 1, 0, 0)]],
  [], (4, 0, 0, 99), [], ⟨"java/util/Arrays", "fill", "([II)V"⟩, prog_26_method_103_code, none, [])
abbrev jm1p : List Nat := [0, 5, 20]
/-- Slidingtray$Agenda.<init>(I)V -/
def jm2 : jM := (
  [[(.aload_n 0, 1, 0, 0), (.invokespecial 3, 3, 0, 778), (.aload_n 0, 1, 0, 0), (.iload_n 1, 1, 0, 0), (.newarray .long, 2, 0, 0), (.putfield 9, 3, 3, 0), (.aload_n 0, 1, 0, 0), (.iload_n 1, 1, 0, 0), (.newarray .long, 2, 0, 0), (.putfield 15, 3, 3, 1), (.aload_n 0, 1, 0, 0), (.iload_n 1, 1, 0, 0), (.newarray .int, 2, 0, 0), (.putfield 18, 3, 3, 2), (.aload_n 0, 1, 0, 0), (.iload_n 1, 1, 0, 0), (.newarray .int, 2, 0, 0), (.putfield 22, 3, 3, 3), (.aload_n 0, 1, 0, 0), (.getfield 22, 3, 0, 3), (.iconst (-1), 1, 0, 0), (.invokestatic 25, 3, 1, 2), (.return_, 1, 0, 0)]],
  [], (2, 1, 26, 0), [], ⟨"Slidingtray$Agenda", "<init>", "(I)V"⟩, prog_2_method_1_code, none, [])
abbrev jm2p : List Nat := [0]
/-- Slidingtray$Agenda.clear()V -/
def jm3 : jM := (
  [[(.iconst 0, 1, 0, 0), (.istore_n 1, 1, 0, 0), (.nop, 0, 1, 0)],
   [(.iload_n 1, 1, 0, 0), (.aload_n 0, 1, 0, 0), (.getfield 31, 3, 0, 4), (.if_icmp .ge 21, 3, 2, 0), (.aload_n 0, 1, 0, 0), (.getfield 22, 3, 0, 3), (.aload_n 0, 1, 0, 0), (.getfield 18, 3, 0, 2), (.iload_n 1, 1, 0, 0), (.iaload, 1, 0, 0), (.iconst (-1), 1, 0, 0), (.iastore, 1, 0, 0), (.iinc 1 1, 3, 0, 0), (.goto (-23), 3, 1, 0)],
   [(.aload_n 0, 1, 0, 0), (.iconst 0, 1, 0, 0), (.putfield 31, 3, 0, 4), (.return_, 1, 0, 0)]],
  [], (2, 0, 0, 0), [], ⟨"Slidingtray$Agenda", "clear", "()V"⟩, prog_2_method_2_code, none, [])
abbrev jm3p : List Nat := [0, 2, 28]
/-- Slidingtray$Agenda.put(IJJ)V -/
def jm4 : jM := (
  [[(.aload_n 0, 1, 0, 0), (.getfield 9, 3, 0, 0), (.iload_n 1, 1, 0, 0), (.lload_n 2, 1, 0, 0), (.lastore, 1, 0, 0), (.aload_n 0, 1, 0, 0), (.getfield 15, 3, 0, 1), (.iload_n 1, 1, 0, 0), (.lload 4, 2, 0, 0), (.lastore, 1, 0, 0), (.aload_n 0, 1, 0, 0), (.getfield 22, 3, 0, 3), (.iload_n 1, 1, 0, 0), (.iaload, 1, 0, 0), (.istore 6, 2, 0, 0), (.iload 6, 2, 0, 0), (.iconst (-1), 1, 0, 0), (.if_icmp .ne 19, 3, 1, 0), (.aload_n 0, 1, 0, 0), (.getfield 31, 3, 0, 4), (.istore 6, 2, 0, 0), (.aload_n 0, 1, 0, 0), (.dup, 1, 0, 0), (.getfield 31, 3, 0, 4), (.iconst 1, 1, 0, 0), (.iadd, 1, 0, 0), (.putfield 31, 3, 0, 4), (.nop, 0, 1, 0)],
   [(.iload 6, 2, 0, 0), (.ifCond .le 50, 3, 2, 0), (.aload_n 0, 1, 0, 0), (.iload_n 1, 1, 0, 0), (.aload_n 0, 1, 0, 0), (.getfield 18, 3, 0, 2), (.iload 6, 2, 0, 0), (.iconst 1, 1, 0, 0), (.isub, 1, 0, 0), (.iconst 2, 1, 0, 0), (.idiv, 1, 0, 0), (.iaload, 1, 0, 0), (.invokevirtual 35, 3, 6, 3), (.ifCond .eq 31, 3, 2, 0), (.aload_n 0, 1, 0, 0), (.aload_n 0, 1, 0, 0), (.getfield 18, 3, 0, 2), (.iload 6, 2, 0, 0), (.iconst 1, 1, 0, 0), (.isub, 1, 0, 0), (.iconst 2, 1, 0, 0), (.idiv, 1, 0, 0), (.iaload, 1, 0, 0), (.iload 6, 2, 0, 0), (.invokevirtual 39, 3, 7, 3), (.iload 6, 2, 0, 0), (.iconst 1, 1, 0, 0), (.isub, 1, 0, 0), (.iconst 2, 1, 0, 0), (.idiv, 1, 0, 0), (.istore 6, 2, 0, 0), (.goto (-49), 3, 1, 0)],
   [(.aload_n 0, 1, 0, 0), (.iload_n 1, 1, 0, 0), (.iload 6, 2, 0, 0), (.invokevirtual 39, 3, 7, 3), (.return_, 1, 0, 0)]],
  [], (7, 1, 22, 0), [], ⟨"Slidingtray$Agenda", "put", "(IJJ)V"⟩, prog_2_method_3_code, none, [])
abbrev jm4p : List Nat := [0, 45, 97]
/-- Slidingtray$Agenda.take()I -/
def jm5 : jM := (
  [[(.aload_n 0, 1, 0, 0), (.getfield 31, 3, 0, 4), (.ifCond .ne 5, 3, 1, 0), (.iconst (-1), 1, 0, 0), (.ireturn, 1, 0, 0)],
   [(.aload_n 0, 1, 0, 0), (.getfield 18, 3, 0, 2), (.iconst 0, 1, 0, 0), (.iaload, 1, 0, 0), (.istore_n 1, 1, 0, 0), (.aload_n 0, 1, 0, 0), (.getfield 22, 3, 0, 3), (.iload_n 1, 1, 0, 0), (.iconst (-1), 1, 0, 0), (.iastore, 1, 0, 0), (.aload_n 0, 1, 0, 0), (.dup, 1, 0, 0), (.getfield 31, 3, 0, 4), (.iconst 1, 1, 0, 0), (.isub, 1, 0, 0), (.putfield 31, 3, 0, 4), (.aload_n 0, 1, 0, 0), (.getfield 31, 3, 0, 4), (.ifCond .le 16, 3, 2, 0), (.aload_n 0, 1, 0, 0), (.aload_n 0, 1, 0, 0), (.getfield 18, 3, 0, 2), (.aload_n 0, 1, 0, 0), (.getfield 31, 3, 0, 4), (.iaload, 1, 0, 0), (.invokevirtual 43, 3, 8, 2), (.nop, 0, 2, 0)],
   [(.iload_n 1, 1, 0, 0), (.ireturn, 1, 0, 0)]],
  [], (2, 2, 45, 0), [], ⟨"Slidingtray$Agenda", "take", "()I"⟩, prog_2_method_4_code, (some .int), [])
abbrev jm5p : List Nat := [0, 9, 53]
/-- Slidingtray$Agenda.isBefore(II)Z -/
def jm6 : jM := (
  [[(.aload_n 0, 1, 0, 0), (.getfield 9, 3, 0, 0), (.iload_n 1, 1, 0, 0), (.laload, 1, 0, 0), (.aload_n 0, 1, 0, 0), (.getfield 9, 3, 0, 0), (.iload_n 2, 1, 0, 0), (.laload, 1, 0, 0), (.lcmp, 1, 0, 0), (.ifCond .eq 25, 3, 3, 0), (.aload_n 0, 1, 0, 0), (.getfield 9, 3, 0, 0), (.iload_n 1, 1, 0, 0), (.laload, 1, 0, 0), (.aload_n 0, 1, 0, 0), (.getfield 9, 3, 0, 0), (.iload_n 2, 1, 0, 0), (.laload, 1, 0, 0), (.lcmp, 1, 0, 0), (.ifCond .ge 7, 3, 1, 0), (.iconst 1, 1, 0, 0), (.goto 4, 3, 2, 0)],
   [(.iconst 0, 1, 0, 0), (.nop, 0, 2, 0)],
   [(.ireturn, 1, 0, 0)],
   [(.aload_n 0, 1, 0, 0), (.getfield 15, 3, 0, 1), (.iload_n 1, 1, 0, 0), (.laload, 1, 0, 0), (.aload_n 0, 1, 0, 0), (.getfield 15, 3, 0, 1), (.iload_n 2, 1, 0, 0), (.laload, 1, 0, 0), (.lcmp, 1, 0, 0), (.ifCond .ge 7, 3, 4, 0), (.iconst 1, 1, 0, 0), (.goto 4, 3, 5, 0)],
   [(.iconst 0, 1, 0, 0), (.nop, 0, 5, 0)],
   [(.ireturn, 1, 0, 0)]],
  [], (3, 0, 0, 0), [], ⟨"Slidingtray$Agenda", "isBefore", "(II)Z"⟩, prog_2_method_5_code, (some .boolean), [])
abbrev jm6p : List Nat := [0, 36, 37, 38, 58, 59]
/-- Slidingtray$Agenda.place(II)V -/
def jm7 : jM := (
  [[(.aload_n 0, 1, 0, 0), (.getfield 18, 3, 0, 2), (.iload_n 2, 1, 0, 0), (.iload_n 1, 1, 0, 0), (.iastore, 1, 0, 0), (.aload_n 0, 1, 0, 0), (.getfield 22, 3, 0, 3), (.iload_n 1, 1, 0, 0), (.iload_n 2, 1, 0, 0), (.iastore, 1, 0, 0), (.return_, 1, 0, 0)]],
  [], (3, 0, 0, 0), [], ⟨"Slidingtray$Agenda", "place", "(II)V"⟩, prog_2_method_6_code, none, [])
abbrev jm7p : List Nat := [0]
/-- Slidingtray$Agenda.sink(I)V -/
def jm8 : jM := (
  [[(.iconst 0, 1, 0, 0), (.istore_n 2, 1, 0, 0), (.iconst 1, 1, 0, 0), (.istore_n 3, 1, 0, 0), (.nop, 0, 1, 0)],
   [(.iload_n 3, 1, 0, 0), (.aload_n 0, 1, 0, 0), (.getfield 31, 3, 0, 4), (.if_icmp .ge 76, 3, 4, 0), (.iload_n 3, 1, 0, 0), (.iconst 1, 1, 0, 0), (.iadd, 1, 0, 0), (.aload_n 0, 1, 0, 0), (.getfield 31, 3, 0, 4), (.if_icmp .ge 27, 3, 2, 0), (.aload_n 0, 1, 0, 0), (.aload_n 0, 1, 0, 0), (.getfield 18, 3, 0, 2), (.iload_n 3, 1, 0, 0), (.iconst 1, 1, 0, 0), (.iadd, 1, 0, 0), (.iaload, 1, 0, 0), (.aload_n 0, 1, 0, 0), (.getfield 18, 3, 0, 2), (.iload_n 3, 1, 0, 0), (.iaload, 1, 0, 0), (.invokevirtual 35, 3, 6, 3), (.ifCond .eq 6, 3, 2, 0), (.iinc 3 1, 3, 0, 0), (.nop, 0, 2, 0)],
   [(.aload_n 0, 1, 0, 0), (.aload_n 0, 1, 0, 0), (.getfield 18, 3, 0, 2), (.iload_n 3, 1, 0, 0), (.iaload, 1, 0, 0), (.iload_n 1, 1, 0, 0), (.invokevirtual 35, 3, 6, 3), (.ifCond .ne 6, 3, 3, 0), (.goto 25, 3, 4, 0)],
   [(.aload_n 0, 1, 0, 0), (.aload_n 0, 1, 0, 0), (.getfield 18, 3, 0, 2), (.iload_n 3, 1, 0, 0), (.iaload, 1, 0, 0), (.iload_n 2, 1, 0, 0), (.invokevirtual 39, 3, 7, 3), (.iload_n 3, 1, 0, 0), (.istore_n 2, 1, 0, 0), (.iconst 2, 1, 0, 0), (.iload_n 2, 1, 0, 0), (.imul, 1, 0, 0), (.iconst 1, 1, 0, 0), (.iadd, 1, 0, 0), (.istore_n 3, 1, 0, 0), (.goto (-78), 3, 1, 0)],
   [(.aload_n 0, 1, 0, 0), (.iload_n 1, 1, 0, 0), (.iload_n 2, 1, 0, 0), (.invokevirtual 39, 3, 7, 3), (.return_, 1, 0, 0)]],
  [], (4, 1, 22, 0), [], ⟨"Slidingtray$Agenda", "sink", "(I)V"⟩, prog_2_method_7_code, none, [])
abbrev jm8p : List Nat := [0, 4, 46, 63, 85]
/-- Slidingtray$Aim.<init>()V -/
def jm9 : jM := (
  [[(.aload_n 0, 1, 0, 0), (.invokespecial 3, 3, 0, 778), (.aload_n 0, 1, 0, 0), (.bipush 16, 2, 0, 0), (.newarray .int, 2, 0, 0), (.putfield 9, 3, 7, 0), (.aload_n 0, 1, 0, 0), (.bipush 16, 2, 0, 0), (.newarray .int, 2, 0, 0), (.putfield 15, 3, 7, 1), (.return_, 1, 0, 0)]],
  [], (1, 1, 26, 1), [], ⟨"Slidingtray$Aim", "<init>", "()V"⟩, prog_3_method_1_code, none, [])
abbrev jm9p : List Nat := [0]
/-- Slidingtray$Aim.order(LSlidingtray$Lie;)V -/
def jm10 : jM := (
  [[(.aload_n 0, 1, 0, 0), (.aload_n 1, 1, 0, 0), (.invokevirtual 18, 3, 11, 2), (.aload_n 0, 1, 0, 0), (.getfield 15, 3, 1, 1), (.iconst 1, 1, 0, 0), (.invokestatic 22, 3, 1, 2), (.aload_n 0, 1, 0, 0), (.iconst 0, 1, 0, 0), (.putfield 28, 3, 4, 3), (.return_, 1, 0, 0)]],
  [], (2, 2, 47, 1), [], ⟨"Slidingtray$Aim", "order", "(LSlidingtray$Lie;)V"⟩, prog_3_method_2_code, none, [])
abbrev jm10p : List Nat := [0]
/-- Slidingtray$Aim.aimAt(LSlidingtray$Lie;)V -/
def jm11 : jM := (
  [[(.aload_n 0, 1, 0, 0), (.aload_n 1, 1, 0, 0), (.getfield 32, 3, 7, 2), (.putfield 37, 3, 4, 2), (.aload_n 1, 1, 0, 0), (.getfield 38, 3, 7, 1), (.iconst 0, 1, 0, 0), (.aload_n 0, 1, 0, 0), (.getfield 9, 3, 1, 0), (.iconst 0, 1, 0, 0), (.bipush 16, 2, 0, 0), (.invokestatic 41, 3, 0, 777), (.return_, 1, 0, 0)]],
  [], (2, 1, 26, 1), [], ⟨"Slidingtray$Aim", "aimAt", "(LSlidingtray$Lie;)V"⟩, prog_3_method_3_code, none, [])
abbrev jm11p : List Nat := [0]
/-- Slidingtray$Aim.copy(LSlidingtray$Aim;)V -/
def jm12 : jM := (
  [[(.aload_n 0, 1, 0, 0), (.aload_n 1, 1, 0, 0), (.getfield 37, 3, 1, 2), (.putfield 37, 3, 4, 2), (.aload_n 0, 1, 0, 0), (.aload_n 1, 1, 0, 0), (.getfield 28, 3, 1, 3), (.putfield 28, 3, 4, 3), (.aload_n 1, 1, 0, 0), (.getfield 9, 3, 1, 0), (.iconst 0, 1, 0, 0), (.aload_n 0, 1, 0, 0), (.getfield 9, 3, 1, 0), (.iconst 0, 1, 0, 0), (.bipush 16, 2, 0, 0), (.invokestatic 41, 3, 0, 777), (.aload_n 1, 1, 0, 0), (.getfield 15, 3, 1, 1), (.iconst 0, 1, 0, 0), (.aload_n 0, 1, 0, 0), (.getfield 15, 3, 1, 1), (.iconst 0, 1, 0, 0), (.bipush 16, 2, 0, 0), (.invokestatic 41, 3, 0, 777), (.return_, 1, 0, 0)]],
  [], (2, 1, 26, 1), [], ⟨"Slidingtray$Aim", "copy", "(LSlidingtray$Aim;)V"⟩, prog_3_method_4_code, none, [])
abbrev jm12p : List Nat := [0]
/-- Slidingtray$Aim.layOut(LSlidingtray$Lie;)V -/
def jm13 : jM := (
  [[(.aload_n 1, 1, 0, 0), (.aload_n 0, 1, 0, 0), (.getfield 37, 3, 1, 2), (.putfield 32, 3, 28, 2), (.iconst 0, 1, 0, 0), (.istore_n 2, 1, 0, 0), (.nop, 0, 1, 0)],
   [(.iload_n 2, 1, 0, 0), (.aload_n 0, 1, 0, 0), (.getfield 37, 3, 1, 2), (.if_icmp .ge 20, 3, 2, 0), (.aload_n 1, 1, 0, 0), (.iload_n 2, 1, 0, 0), (.aload_n 0, 1, 0, 0), (.getfield 9, 3, 1, 0), (.iload_n 2, 1, 0, 0), (.iaload, 1, 0, 0), (.invokevirtual 47, 3, 71, 3), (.iinc 2 1, 3, 0, 0), (.goto (-22), 3, 1, 0)],
   [(.aload_n 1, 1, 0, 0), (.invokevirtual 51, 3, 72, 1), (.return_, 1, 0, 0)]],
  [], (3, 2, 42, 1), [], ⟨"Slidingtray$Aim", "layOut", "(LSlidingtray$Lie;)V"⟩, prog_3_method_5_code, none, [])
abbrev jm13p : List Nat := [0, 10, 35]
/-- Slidingtray$Aim.frees(I)Z -/
def jm14 : jM := (
  [[(.aload_n 0, 1, 0, 0), (.getfield 28, 3, 1, 3), (.iload_n 1, 1, 0, 0), (.ishr, 1, 0, 0), (.iconst 1, 1, 0, 0), (.iand, 1, 0, 0), (.iconst 1, 1, 0, 0), (.if_icmp .ne 7, 3, 1, 0), (.iconst 1, 1, 0, 0), (.goto 4, 3, 2, 0)],
   [(.iconst 0, 1, 0, 0), (.nop, 0, 2, 0)],
   [(.ireturn, 1, 0, 0)]],
  [], (2, 0, 0, 1), [], ⟨"Slidingtray$Aim", "frees", "(I)Z"⟩, prog_3_method_6_code, (some .boolean), [])
abbrev jm14p : List Nat := [0, 16, 17]
/-- Slidingtray$Aim.makeFree(IZ)V -/
def jm15 : jM := (
  [[(.aload_n 0, 1, 0, 0), (.iload_n 2, 1, 0, 0), (.ifCond .eq 14, 3, 1, 0), (.aload_n 0, 1, 0, 0), (.getfield 28, 3, 1, 3), (.iconst 1, 1, 0, 0), (.iload_n 1, 1, 0, 0), (.ishl, 1, 0, 0), (.ior, 1, 0, 0), (.goto 13, 3, 2, 0)],
   [(.aload_n 0, 1, 0, 0), (.getfield 28, 3, 1, 3), (.iconst 1, 1, 0, 0), (.iload_n 1, 1, 0, 0), (.ishl, 1, 0, 0), (.iconst (-1), 1, 0, 0), (.ixor, 1, 0, 0), (.iand, 1, 0, 0), (.nop, 0, 2, 0)],
   [(.putfield 28, 3, 4, 3), (.return_, 1, 0, 0)]],
  [], (3, 0, 0, 1), [], ⟨"Slidingtray$Aim", "makeFree", "(IZ)V"⟩, prog_3_method_7_code, none, [])
abbrev jm15p : List Nat := [0, 16, 26]
/-- Slidingtray$Aim.leavesFree()Z -/
def jm16 : jM := (
  [[(.aload_n 0, 1, 0, 0), (.getfield 28, 3, 1, 3), (.ifCond .eq 7, 3, 1, 0), (.iconst 1, 1, 0, 0), (.goto 4, 3, 2, 0)],
   [(.iconst 0, 1, 0, 0), (.nop, 0, 2, 0)],
   [(.ireturn, 1, 0, 0)]],
  [], (1, 0, 0, 1), [], ⟨"Slidingtray$Aim", "leavesFree", "()Z"⟩, prog_3_method_8_code, (some .boolean), [])
abbrev jm16p : List Nat := [0, 11, 12]
/-- Slidingtray$Aim.isHome(LSlidingtray$Lie;I)Z -/
def jm17 : jM := (
  [[(.aload_n 1, 1, 0, 0), (.getfield 38, 3, 7, 1), (.iload_n 2, 1, 0, 0), (.iaload, 1, 0, 0), (.aload_n 0, 1, 0, 0), (.getfield 9, 3, 1, 0), (.iload_n 2, 1, 0, 0), (.iaload, 1, 0, 0), (.if_icmp .ne 7, 3, 1, 0), (.iconst 1, 1, 0, 0), (.goto 4, 3, 2, 0)],
   [(.iconst 0, 1, 0, 0), (.nop, 0, 2, 0)],
   [(.ireturn, 1, 0, 0)]],
  [], (3, 0, 0, 1), [], ⟨"Slidingtray$Aim", "isHome", "(LSlidingtray$Lie;I)Z"⟩, prog_3_method_9_code, (some .boolean), [])
abbrev jm17p : List Nat := [0, 19, 20]
/-- Slidingtray$Aim.isReachedBy(LSlidingtray$Lie;)Z -/
def jm18 : jM := (
  [[(.iconst 0, 1, 0, 0), (.istore_n 2, 1, 0, 0), (.nop, 0, 1, 0)],
   [(.iload_n 2, 1, 0, 0), (.aload_n 0, 1, 0, 0), (.getfield 37, 3, 1, 2), (.if_icmp .ge 28, 3, 3, 0), (.aload_n 0, 1, 0, 0), (.iload_n 2, 1, 0, 0), (.invokevirtual 54, 3, 14, 2), (.ifCond .ne 14, 3, 2, 0), (.aload_n 0, 1, 0, 0), (.aload_n 1, 1, 0, 0), (.iload_n 2, 1, 0, 0), (.invokevirtual 58, 3, 17, 3), (.ifCond .ne 5, 3, 2, 0), (.iconst 0, 1, 0, 0), (.ireturn, 1, 0, 0)],
   [(.iinc 2 1, 3, 0, 0), (.goto (-30), 3, 1, 0)],
   [(.iconst 1, 1, 0, 0), (.ireturn, 1, 0, 0)]],
  [], (3, 1, 22, 1), [], ⟨"Slidingtray$Aim", "isReachedBy", "(LSlidingtray$Lie;)Z"⟩, prog_3_method_10_code, (some .boolean), [])
abbrev jm18p : List Nat := [0, 2, 29, 35]
/-- Slidingtray$AllStates.<init>()V -/
def jm19 : jM := (
  [[(.aload_n 0, 1, 0, 0), (.invokespecial 3, 3, 0, 778), (.aload_n 0, 1, 0, 0), (.sipush 720, 3, 0, 0), (.newarray .long, 2, 0, 0), (.putfield 9, 3, 11, 6), (.aload_n 0, 1, 0, 0), (.sipush 2880, 3, 0, 0), (.newarray .int, 2, 0, 0), (.putfield 15, 3, 11, 7), (.aload_n 0, 1, 0, 0), (.sipush 2880, 3, 0, 0), (.newarray .int, 2, 0, 0), (.putfield 19, 3, 11, 8), (.aload_n 0, 1, 0, 0), (.sipush 720, 3, 0, 0), (.newarray .int, 2, 0, 0), (.putfield 22, 3, 11, 9), (.aload_n 0, 1, 0, 0), (.sipush 720, 3, 0, 0), (.newarray .int, 2, 0, 0), (.putfield 25, 3, 11, 10), (.aload_n 0, 1, 0, 0), (.sipush 720, 3, 0, 0), (.newarray .int, 2, 0, 0), (.putfield 28, 3, 11, 11), (.aload_n 0, 1, 0, 0), (.new 31, 3, 7, 0), (.dup, 1, 0, 0), (.invokespecial 33, 3, 65, 1), (.putfield 34, 3, 11, 12), (.return_, 1, 0, 0)]],
  [], (1, 2, 46, 2), [], ⟨"Slidingtray$AllStates", "<init>", "()V"⟩, prog_4_method_1_code, none, [])
abbrev jm19p : List Nat := [0]
/-- Slidingtray$AllStates.forgetTray()V -/
def jm20 : jM := (
  [[(.aload_n 0, 1, 0, 0), (.iconst 0, 1, 0, 0), (.putfield 38, 3, 9, 4), (.return_, 1, 0, 0)]],
  [], (1, 0, 0, 2), [], ⟨"Slidingtray$AllStates", "forgetTray", "()V"⟩, prog_4_method_2_code, none, [])
abbrev jm20p : List Nat := [0]
/-- Slidingtray$AllStates.forgetCosts()V -/
def jm21 : jM := (
  [[(.aload_n 0, 1, 0, 0), (.iconst 0, 1, 0, 0), (.putfield 42, 3, 9, 5), (.return_, 1, 0, 0)]],
  [], (1, 0, 0, 2), [], ⟨"Slidingtray$AllStates", "forgetCosts", "()V"⟩, prog_4_method_3_code, none, [])
abbrev jm21p : List Nat := [0]
/-- Slidingtray$AllStates.look(LSlidingtray$Puzzle;)V -/
def jm22 : jM := (
  [[(.aload_n 0, 1, 0, 0), (.getfield 38, 3, 2, 4), (.ifCond .ne 11, 3, 1, 0), (.aload_n 0, 1, 0, 0), (.aload_n 1, 1, 0, 0), (.getfield 45, 3, 9, 0), (.invokevirtual 51, 3, 23, 2), (.nop, 0, 1, 0)],
   [(.aload_n 0, 1, 0, 0), (.iconst 1, 1, 0, 0), (.putfield 38, 3, 9, 4), (.aload_n 0, 1, 0, 0), (.getfield 42, 3, 2, 5), (.ifCond .ne 8, 3, 2, 0), (.aload_n 0, 1, 0, 0), (.aload_n 1, 1, 0, 0), (.invokevirtual 55, 3, 24, 2), (.nop, 0, 2, 0)],
   [(.aload_n 0, 1, 0, 0), (.iconst 1, 1, 0, 0), (.putfield 42, 3, 9, 5), (.return_, 1, 0, 0)]],
  [], (2, 4, 96, 2), [], ⟨"Slidingtray$AllStates", "look", "(LSlidingtray$Puzzle;)V"⟩, prog_4_method_4_code, none, [])
abbrev jm22p : List Nat := [0, 15, 32]
/-- Slidingtray$AllStates.map(LSlidingtray$Board;)V -/
def jm23 : jM := (
  [[(.aload_n 0, 1, 0, 0), (.aload_n 1, 1, 0, 0), (.getfield 59, 3, 4, 3), (.invokestatic 65, 3, 66, 1), (.ldc2_w 69, 3, 720, 0), (.invokestatic 71, 3, 0, 776), (.l2i, 1, 0, 0), (.putfield 77, 3, 8, 3), (.iconst 0, 1, 0, 0), (.istore_n 2, 1, 0, 0), (.nop, 0, 1, 0)],
   [(.iload_n 2, 1, 0, 0), (.aload_n 0, 1, 0, 0), (.getfield 77, 3, 2, 3), (.if_icmp .ge 116, 3, 7, 0), (.aload_n 0, 1, 0, 0), (.getfield 34, 3, 2, 12), (.iload_n 2, 1, 0, 0), (.i2l, 1, 0, 0), (.aload_n 1, 1, 0, 0), (.getfield 59, 3, 4, 3), (.invokevirtual 80, 3, 78, 3), (.aload_n 0, 1, 0, 0), (.getfield 9, 3, 2, 6), (.iload_n 2, 1, 0, 0), (.aload_n 0, 1, 0, 0), (.getfield 34, 3, 2, 12), (.getfield 84, 3, 7, 3), (.lastore, 1, 0, 0), (.iconst 0, 1, 0, 0), (.istore_n 3, 1, 0, 0), (.nop, 0, 2, 0)],
   [(.iload_n 3, 1, 0, 0), (.iconst 3, 1, 0, 0), (.if_icmp .gt 77, 3, 6, 0), (.aload_n 0, 1, 0, 0), (.getfield 34, 3, 2, 12), (.aload_n 1, 1, 0, 0), (.iload_n 3, 1, 0, 0), (.invokevirtual 87, 3, 76, 3), (.istore 4, 2, 0, 0), (.aload_n 0, 1, 0, 0), (.getfield 19, 3, 2, 8), (.iload_n 2, 1, 0, 0), (.iconst 4, 1, 0, 0), (.imul, 1, 0, 0), (.iload_n 3, 1, 0, 0), (.iadd, 1, 0, 0), (.iload 4, 2, 0, 0), (.iastore, 1, 0, 0), (.aload_n 0, 1, 0, 0), (.getfield 15, 3, 2, 7), (.iload_n 2, 1, 0, 0), (.iconst 4, 1, 0, 0), (.imul, 1, 0, 0), (.iload_n 3, 1, 0, 0), (.iadd, 1, 0, 0), (.iload 4, 2, 0, 0), (.ifCond .ne 7, 3, 3, 0), (.iconst (-1), 1, 0, 0), (.goto 11, 3, 4, 0)],
   [(.aload_n 0, 1, 0, 0), (.getfield 34, 3, 2, 12), (.invokevirtual 91, 3, 77, 1), (.l2i, 1, 0, 0), (.nop, 0, 4, 0)],
   [(.iastore, 1, 0, 0), (.iload 4, 2, 0, 0), (.ifCond .eq 16, 3, 5, 0), (.aload_n 0, 1, 0, 0), (.getfield 34, 3, 2, 12), (.aload_n 1, 1, 0, 0), (.iload_n 3, 1, 0, 0), (.invokestatic 95, 3, 146, 1), (.invokevirtual 87, 3, 76, 3), (.pop, 1, 0, 0), (.nop, 0, 5, 0)],
   [(.iinc 3 1, 3, 0, 0), (.goto (-76), 3, 2, 0)],
   [(.iinc 2 1, 3, 0, 0), (.goto (-118), 3, 1, 0)],
   [(.return_, 1, 0, 0)]],
  [], (5, 3, 70, 2), [], ⟨"Slidingtray$AllStates", "map", "(LSlidingtray$Board;)V"⟩, prog_4_method_5_code, none, [])
abbrev jm23p : List Nat := [0, 20, 56, 102, 110, 129, 135, 141]
/-- Slidingtray$AllStates.reckon(LSlidingtray$Puzzle;)V -/
def jm24 : jM := (
  [[(.aload_n 1, 1, 0, 0), (.getfield 99, 3, 9, 2), (.invokevirtual 103, 3, 3, 1), (.iconst 0, 1, 0, 0), (.istore_n 2, 1, 0, 0), (.nop, 0, 1, 0)],
   [(.iload_n 2, 1, 0, 0), (.aload_n 0, 1, 0, 0), (.getfield 77, 3, 2, 3), (.if_icmp .ge 86, 3, 7, 0), (.aload_n 0, 1, 0, 0), (.getfield 34, 3, 2, 12), (.aload_n 0, 1, 0, 0), (.getfield 9, 3, 2, 6), (.iload_n 2, 1, 0, 0), (.laload, 1, 0, 0), (.aload_n 1, 1, 0, 0), (.getfield 45, 3, 9, 0), (.getfield 59, 3, 4, 3), (.invokevirtual 108, 3, 73, 3), (.aload_n 1, 1, 0, 0), (.getfield 111, 3, 9, 1), (.aload_n 0, 1, 0, 0), (.getfield 34, 3, 2, 12), (.invokevirtual 115, 3, 18, 2), (.istore_n 3, 1, 0, 0), (.aload_n 0, 1, 0, 0), (.getfield 22, 3, 2, 9), (.iload_n 2, 1, 0, 0), (.iload_n 3, 1, 0, 0), (.ifCond .eq 7, 3, 2, 0), (.iconst 0, 1, 0, 0), (.goto 4, 3, 3, 0)],
   [(.iconst (-1), 1, 0, 0), (.nop, 0, 3, 0)],
   [(.iastore, 1, 0, 0), (.aload_n 0, 1, 0, 0), (.getfield 25, 3, 2, 10), (.iload_n 2, 1, 0, 0), (.iload_n 3, 1, 0, 0), (.ifCond .eq 7, 3, 4, 0), (.iconst 1, 1, 0, 0), (.goto 4, 3, 5, 0)],
   [(.iconst 0, 1, 0, 0), (.nop, 0, 5, 0)],
   [(.iastore, 1, 0, 0), (.iload_n 3, 1, 0, 0), (.ifCond .eq 14, 3, 6, 0), (.aload_n 1, 1, 0, 0), (.getfield 99, 3, 9, 2), (.iload_n 2, 1, 0, 0), (.lconst 0, 1, 0, 0), (.iload_n 2, 1, 0, 0), (.i2l, 1, 0, 0), (.invokevirtual 121, 3, 4, 4), (.nop, 0, 6, 0)],
   [(.iinc 2 1, 3, 0, 0), (.goto (-88), 3, 1, 0)],
   [(.aload_n 0, 1, 0, 0), (.iconst 0, 1, 0, 0), (.putfield 125, 3, 8, 0), (.aload_n 0, 1, 0, 0), (.iconst (-1), 1, 0, 0), (.putfield 128, 3, 8, 1), (.aload_n 0, 1, 0, 0), (.iconst 0, 1, 0, 0), (.putfield 131, 3, 8, 2), (.iconst 0, 1, 0, 0), (.istore_n 2, 1, 0, 0), (.nop, 0, 8, 0)],
   [(.iload_n 2, 1, 0, 0), (.aload_n 0, 1, 0, 0), (.getfield 77, 3, 2, 3), (.if_icmp .ge 39, 3, 10, 0), (.aload_n 1, 1, 0, 0), (.getfield 99, 3, 9, 2), (.invokevirtual 134, 3, 5, 1), (.istore_n 3, 1, 0, 0), (.iload_n 3, 1, 0, 0), (.iconst (-1), 1, 0, 0), (.if_icmp .ne 4, 3, 9, 0), (.return_, 1, 0, 0)],
   [(.aload_n 0, 1, 0, 0), (.aload_n 0, 1, 0, 0), (.getfield 22, 3, 2, 9), (.iload_n 3, 1, 0, 0), (.iaload, 1, 0, 0), (.invokevirtual 138, 3, 25, 2), (.aload_n 0, 1, 0, 0), (.aload_n 1, 1, 0, 0), (.iload_n 3, 1, 0, 0), (.invokevirtual 142, 3, 26, 3), (.iinc 2 1, 3, 0, 0), (.goto (-41), 3, 8, 0)],
   [(.return_, 1, 0, 0)]],
  [], (4, 3, 73, 2), [], ⟨"Slidingtray$AllStates", "reckon", "(LSlidingtray$Puzzle;)V"⟩, prog_4_method_6_code, none, [])
abbrev jm24p : List Nat := [0, 9, 62, 63, 77, 78, 94, 100, 117, 139, 161]
/-- Slidingtray$AllStates.tally(I)V -/
def jm25 : jM := (
  [[(.aload_n 0, 1, 0, 0), (.dup, 1, 0, 0), (.getfield 125, 3, 2, 0), (.iconst 1, 1, 0, 0), (.iadd, 1, 0, 0), (.putfield 125, 3, 8, 0), (.aload_n 0, 1, 0, 0), (.iload_n 1, 1, 0, 0), (.aload_n 0, 1, 0, 0), (.getfield 128, 3, 2, 1), (.if_icmp .ne 12, 3, 1, 0), (.aload_n 0, 1, 0, 0), (.getfield 131, 3, 2, 2), (.iconst 1, 1, 0, 0), (.iadd, 1, 0, 0), (.goto 4, 3, 2, 0)],
   [(.iconst 1, 1, 0, 0), (.nop, 0, 2, 0)],
   [(.putfield 131, 3, 8, 2), (.aload_n 0, 1, 0, 0), (.iload_n 1, 1, 0, 0), (.putfield 128, 3, 8, 1), (.return_, 1, 0, 0)]],
  [], (2, 0, 0, 2), [], ⟨"Slidingtray$AllStates", "tally", "(I)V"⟩, prog_4_method_7_code, none, [])
abbrev jm25p : List Nat := [0, 28, 29]
/-- Slidingtray$AllStates.spread(LSlidingtray$Puzzle;I)V -/
def jm26 : jM := (
  [[(.iconst 0, 1, 0, 0), (.istore_n 3, 1, 0, 0), (.nop, 0, 1, 0)],
   [(.iload_n 3, 1, 0, 0), (.iconst 3, 1, 0, 0), (.if_icmp .gt 158, 3, 6, 0), (.aload_n 0, 1, 0, 0), (.getfield 15, 3, 2, 7), (.iload_n 2, 1, 0, 0), (.iconst 4, 1, 0, 0), (.imul, 1, 0, 0), (.iload_n 3, 1, 0, 0), (.iadd, 1, 0, 0), (.iaload, 1, 0, 0), (.istore 4, 2, 0, 0), (.iload 4, 2, 0, 0), (.iconst (-1), 1, 0, 0), (.if_icmp .ne 6, 3, 2, 0), (.goto 131, 3, 5, 0)],
   [(.aload_n 0, 1, 0, 0), (.getfield 22, 3, 2, 9), (.iload_n 2, 1, 0, 0), (.iaload, 1, 0, 0), (.aload_n 1, 1, 0, 0), (.getfield 111, 3, 9, 1), (.getfield 146, 3, 1, 1), (.aload_n 0, 1, 0, 0), (.getfield 19, 3, 2, 8), (.iload_n 2, 1, 0, 0), (.iconst 4, 1, 0, 0), (.imul, 1, 0, 0), (.iload_n 3, 1, 0, 0), (.iadd, 1, 0, 0), (.iaload, 1, 0, 0), (.iaload, 1, 0, 0), (.iadd, 1, 0, 0), (.istore 5, 2, 0, 0), (.iload 5, 2, 0, 0), (.aload_n 0, 1, 0, 0), (.getfield 22, 3, 2, 9), (.iload 4, 2, 0, 0), (.iaload, 1, 0, 0), (.if_icmp .ne 29, 3, 3, 0), (.aload_n 0, 1, 0, 0), (.getfield 25, 3, 2, 10), (.iload 4, 2, 0, 0), (.ldc 149, 2, 1000000, 0), (.aload_n 0, 1, 0, 0), (.getfield 25, 3, 2, 10), (.iload 4, 2, 0, 0), (.iaload, 1, 0, 0), (.aload_n 0, 1, 0, 0), (.getfield 25, 3, 2, 10), (.iload_n 2, 1, 0, 0), (.iaload, 1, 0, 0), (.iadd, 1, 0, 0), (.invokestatic 150, 3, 0, 775), (.iastore, 1, 0, 0), (.nop, 0, 3, 0)],
   [(.aload_n 0, 1, 0, 0), (.getfield 22, 3, 2, 9), (.iload 4, 2, 0, 0), (.iaload, 1, 0, 0), (.iconst (-1), 1, 0, 0), (.if_icmp .eq 18, 3, 4, 0), (.aload_n 0, 1, 0, 0), (.getfield 22, 3, 2, 9), (.iload 4, 2, 0, 0), (.iaload, 1, 0, 0), (.iload 5, 2, 0, 0), (.if_icmp .gt 6, 3, 4, 0), (.goto 40, 3, 5, 0)],
   [(.aload_n 0, 1, 0, 0), (.getfield 22, 3, 2, 9), (.iload 4, 2, 0, 0), (.iload 5, 2, 0, 0), (.iastore, 1, 0, 0), (.aload_n 0, 1, 0, 0), (.getfield 25, 3, 2, 10), (.iload 4, 2, 0, 0), (.aload_n 0, 1, 0, 0), (.getfield 25, 3, 2, 10), (.iload_n 2, 1, 0, 0), (.iaload, 1, 0, 0), (.iastore, 1, 0, 0), (.aload_n 1, 1, 0, 0), (.getfield 99, 3, 9, 2), (.iload 4, 2, 0, 0), (.iload 5, 2, 0, 0), (.i2l, 1, 0, 0), (.iload 4, 2, 0, 0), (.i2l, 1, 0, 0), (.invokevirtual 121, 3, 4, 4), (.nop, 0, 5, 0)],
   [(.iinc 3 1, 3, 0, 0), (.goto (-157), 3, 1, 0)],
   [(.return_, 1, 0, 0)]],
  [], (6, 2, 48, 2), [], ⟨"Slidingtray$AllStates", "spread", "(LSlidingtray$Puzzle;I)V"⟩, prog_4_method_8_code, none, [])
abbrev jm26p : List Nat := [0, 2, 28, 93, 119, 156, 162]
/-- Slidingtray$AllStates.costAt(J)I -/
def jm27 : jM := (
  [[(.lload_n 1, 1, 0, 0), (.lconst 0, 1, 0, 0), (.lcmp, 1, 0, 0), (.ifCond .lt 13, 3, 1, 0), (.lload_n 1, 1, 0, 0), (.aload_n 0, 1, 0, 0), (.getfield 77, 3, 2, 3), (.i2l, 1, 0, 0), (.lcmp, 1, 0, 0), (.ifCond .lt 7, 3, 2, 0), (.nop, 0, 1, 0)],
   [(.iconst (-1), 1, 0, 0), (.goto 10, 3, 3, 0)],
   [(.aload_n 0, 1, 0, 0), (.getfield 22, 3, 2, 9), (.lload_n 1, 1, 0, 0), (.l2i, 1, 0, 0), (.iaload, 1, 0, 0), (.nop, 0, 3, 0)],
   [(.ireturn, 1, 0, 0)]],
  [], (3, 0, 0, 2), [], ⟨"Slidingtray$AllStates", "costAt", "(J)I"⟩, prog_4_method_9_code, (some .int), [])
abbrev jm27p : List Nat := [0, 16, 20, 27]
/-- Slidingtray$AllStates.waysAt(J)I -/
def jm28 : jM := (
  [[(.lload_n 1, 1, 0, 0), (.lconst 0, 1, 0, 0), (.lcmp, 1, 0, 0), (.ifCond .lt 13, 3, 1, 0), (.lload_n 1, 1, 0, 0), (.aload_n 0, 1, 0, 0), (.getfield 77, 3, 2, 3), (.i2l, 1, 0, 0), (.lcmp, 1, 0, 0), (.ifCond .lt 7, 3, 2, 0), (.nop, 0, 1, 0)],
   [(.iconst 0, 1, 0, 0), (.goto 10, 3, 3, 0)],
   [(.aload_n 0, 1, 0, 0), (.getfield 25, 3, 2, 10), (.lload_n 1, 1, 0, 0), (.l2i, 1, 0, 0), (.iaload, 1, 0, 0), (.nop, 0, 3, 0)],
   [(.ireturn, 1, 0, 0)]],
  [], (3, 0, 0, 2), [], ⟨"Slidingtray$AllStates", "waysAt", "(J)I"⟩, prog_4_method_10_code, (some .int), [])
abbrev jm28p : List Nat := [0, 16, 20, 27]
/-- Slidingtray$AllStates.leastRankWith(IZ)I -/
def jm29 : jM := (
  [[(.iconst 0, 1, 0, 0), (.istore_n 3, 1, 0, 0), (.nop, 0, 1, 0)],
   [(.iload_n 3, 1, 0, 0), (.aload_n 0, 1, 0, 0), (.getfield 77, 3, 2, 3), (.if_icmp .ge 35, 3, 4, 0), (.aload_n 0, 1, 0, 0), (.getfield 22, 3, 2, 9), (.iload_n 3, 1, 0, 0), (.iaload, 1, 0, 0), (.iload_n 1, 1, 0, 0), (.if_icmp .ne 19, 3, 3, 0), (.iload_n 2, 1, 0, 0), (.ifCond .eq 13, 3, 2, 0), (.aload_n 0, 1, 0, 0), (.getfield 25, 3, 2, 10), (.iload_n 3, 1, 0, 0), (.iaload, 1, 0, 0), (.iconst 1, 1, 0, 0), (.if_icmp .ne 5, 3, 3, 0), (.nop, 0, 2, 0)],
   [(.iload_n 3, 1, 0, 0), (.ireturn, 1, 0, 0)],
   [(.iinc 3 1, 3, 0, 0), (.goto (-37), 3, 1, 0)],
   [(.iconst (-1), 1, 0, 0), (.ireturn, 1, 0, 0)]],
  [], (4, 0, 0, 2), [], ⟨"Slidingtray$AllStates", "leastRankWith", "(IZ)I"⟩, prog_4_method_11_code, (some .int), [])
abbrev jm29p : List Nat := [0, 2, 34, 36, 42]
/-- Slidingtray$AllStates.agreesWith(LSlidingtray$Puzzle;I)Z -/
def jm30 : jM := (
  [[(.iconst 0, 1, 0, 0), (.istore_n 3, 1, 0, 0), (.nop, 0, 1, 0)],
   [(.iload_n 3, 1, 0, 0), (.aload_n 0, 1, 0, 0), (.getfield 77, 3, 2, 3), (.if_icmp .ge 74, 3, 4, 0), (.aload_n 0, 1, 0, 0), (.getfield 22, 3, 2, 9), (.iload_n 3, 1, 0, 0), (.iaload, 1, 0, 0), (.iconst (-1), 1, 0, 0), (.if_icmp .ne 6, 3, 2, 0), (.goto 55, 3, 3, 0)],
   [(.aload_n 0, 1, 0, 0), (.getfield 34, 3, 2, 12), (.aload_n 0, 1, 0, 0), (.getfield 9, 3, 2, 6), (.iload_n 3, 1, 0, 0), (.laload, 1, 0, 0), (.aload_n 1, 1, 0, 0), (.getfield 45, 3, 9, 0), (.getfield 59, 3, 4, 3), (.invokevirtual 108, 3, 73, 3), (.aload_n 0, 1, 0, 0), (.getfield 28, 3, 2, 11), (.iload_n 3, 1, 0, 0), (.aload_n 1, 1, 0, 0), (.aload_n 0, 1, 0, 0), (.getfield 34, 3, 2, 12), (.iload_n 2, 1, 0, 0), (.invokevirtual 153, 3, 96, 3), (.iastore, 1, 0, 0), (.aload_n 0, 1, 0, 0), (.getfield 28, 3, 2, 11), (.iload_n 3, 1, 0, 0), (.iaload, 1, 0, 0), (.aload_n 0, 1, 0, 0), (.getfield 22, 3, 2, 9), (.iload_n 3, 1, 0, 0), (.iaload, 1, 0, 0), (.if_icmp .le 5, 3, 3, 0), (.iconst 0, 1, 0, 0), (.ireturn, 1, 0, 0)],
   [(.iinc 3 1, 3, 0, 0), (.goto (-76), 3, 1, 0)],
   [(.iconst 0, 1, 0, 0), (.istore_n 3, 1, 0, 0), (.nop, 0, 5, 0)],
   [(.iload_n 3, 1, 0, 0), (.aload_n 0, 1, 0, 0), (.getfield 77, 3, 2, 3), (.if_icmp .ge 33, 3, 7, 0), (.aload_n 0, 1, 0, 0), (.getfield 22, 3, 2, 9), (.iload_n 3, 1, 0, 0), (.iaload, 1, 0, 0), (.iconst (-1), 1, 0, 0), (.if_icmp .eq 17, 3, 6, 0), (.aload_n 0, 1, 0, 0), (.aload_n 1, 1, 0, 0), (.getfield 111, 3, 9, 1), (.iload_n 3, 1, 0, 0), (.invokevirtual 157, 3, 31, 3), (.ifCond .eq 5, 3, 6, 0), (.iconst 0, 1, 0, 0), (.ireturn, 1, 0, 0)],
   [(.iinc 3 1, 3, 0, 0), (.goto (-35), 3, 5, 0)],
   [(.iconst 1, 1, 0, 0), (.ireturn, 1, 0, 0)]],
  [], (4, 4, 99, 2), [], ⟨"Slidingtray$AllStates", "agreesWith", "(LSlidingtray$Puzzle;I)Z"⟩, prog_4_method_12_code, (some .boolean), [])
abbrev jm30p : List Nat := [0, 2, 23, 75, 81, 83, 115, 121]
/-- Slidingtray$AllStates.fallsTooFar(LSlidingtray$Aim;I)Z -/
def jm31 : jM := (
  [[(.iconst 0, 1, 0, 0), (.istore_n 3, 1, 0, 0), (.nop, 0, 1, 0)],
   [(.iload_n 3, 1, 0, 0), (.iconst 3, 1, 0, 0), (.if_icmp .gt 68, 3, 4, 0), (.aload_n 0, 1, 0, 0), (.getfield 15, 3, 2, 7), (.iload_n 2, 1, 0, 0), (.iconst 4, 1, 0, 0), (.imul, 1, 0, 0), (.iload_n 3, 1, 0, 0), (.iadd, 1, 0, 0), (.iaload, 1, 0, 0), (.istore 4, 2, 0, 0), (.iload 4, 2, 0, 0), (.iconst (-1), 1, 0, 0), (.if_icmp .ne 6, 3, 2, 0), (.goto 41, 3, 3, 0)],
   [(.aload_n 1, 1, 0, 0), (.getfield 146, 3, 1, 1), (.aload_n 0, 1, 0, 0), (.getfield 19, 3, 2, 8), (.iload_n 2, 1, 0, 0), (.iconst 4, 1, 0, 0), (.imul, 1, 0, 0), (.iload_n 3, 1, 0, 0), (.iadd, 1, 0, 0), (.iaload, 1, 0, 0), (.iaload, 1, 0, 0), (.istore 5, 2, 0, 0), (.aload_n 0, 1, 0, 0), (.getfield 28, 3, 2, 11), (.iload_n 2, 1, 0, 0), (.iaload, 1, 0, 0), (.aload_n 0, 1, 0, 0), (.getfield 28, 3, 2, 11), (.iload 4, 2, 0, 0), (.iaload, 1, 0, 0), (.isub, 1, 0, 0), (.iload 5, 2, 0, 0), (.if_icmp .le 5, 3, 3, 0), (.iconst 1, 1, 0, 0), (.ireturn, 1, 0, 0)],
   [(.iinc 3 1, 3, 0, 0), (.goto (-67), 3, 1, 0)],
   [(.iconst 0, 1, 0, 0), (.ireturn, 1, 0, 0)]],
  [], (6, 0, 0, 2), [], ⟨"Slidingtray$AllStates", "fallsTooFar", "(LSlidingtray$Aim;I)Z"⟩, prog_4_method_13_code, (some .boolean), [])
abbrev jm31p : List Nat := [0, 2, 28, 66, 72]
/-- Slidingtray$BestFirst.<init>()V -/
def jm32 : jM := (
  [[(.aload_n 0, 1, 0, 0), (.invokespecial 3, 3, 0, 778), (.aload_n 0, 1, 0, 0), (.new 9, 3, 6, 0), (.dup, 1, 0, 0), (.sipush 3002, 3, 0, 0), (.bipush 13, 2, 0, 0), (.invokespecial 11, 3, 61, 3), (.putfield 14, 3, 15, 1), (.aload_n 0, 1, 0, 0), (.sipush 3002, 3, 0, 0), (.newarray .int, 2, 0, 0), (.putfield 20, 3, 15, 2), (.aload_n 0, 1, 0, 0), (.sipush 3002, 3, 0, 0), (.newarray .int, 2, 0, 0), (.putfield 24, 3, 15, 3), (.aload_n 0, 1, 0, 0), (.sipush 3002, 3, 0, 0), (.newarray .int, 2, 0, 0), (.putfield 27, 3, 15, 4), (.aload_n 0, 1, 0, 0), (.sipush 3002, 3, 0, 0), (.newarray .int, 2, 0, 0), (.putfield 30, 3, 15, 5), (.aload_n 0, 1, 0, 0), (.new 33, 3, 7, 0), (.dup, 1, 0, 0), (.invokespecial 35, 3, 65, 1), (.putfield 36, 3, 15, 6), (.return_, 1, 0, 0)]],
  [], (1, 2, 48, 3), [], ⟨"Slidingtray$BestFirst", "<init>", "()V"⟩, prog_5_method_1_code, none, [])
abbrev jm32p : List Nat := [0]
/-- Slidingtray$BestFirst.seek(LSlidingtray$Puzzle;LSlidingtray$Lie;II)I -/
def jm33 : jM := (
  [[(.aload_n 0, 1, 0, 0), (.getfield 14, 3, 3, 1), (.invokevirtual 40, 3, 62, 1), (.aload_n 1, 1, 0, 0), (.getfield 43, 3, 9, 2), (.invokevirtual 49, 3, 3, 1), (.aload_n 0, 1, 0, 0), (.iconst 0, 1, 0, 0), (.putfield 52, 3, 12, 0), (.aload_n 0, 1, 0, 0), (.iconst (-1), 1, 0, 0), (.putfield 56, 3, 12, 7), (.aload_n 0, 1, 0, 0), (.getfield 36, 3, 3, 6), (.aload_n 2, 1, 0, 0), (.invokevirtual 59, 3, 74, 2), (.aload_n 0, 1, 0, 0), (.aload_n 1, 1, 0, 0), (.iload_n 3, 1, 0, 0), (.iconst (-1), 1, 0, 0), (.iconst (-1), 1, 0, 0), (.iconst 0, 1, 0, 0), (.invokevirtual 63, 3, 35, 6), (.iconst 0, 1, 0, 0), (.istore 5, 2, 0, 0), (.nop, 0, 1, 0)],
   [(.iload 5, 2, 0, 0), (.iload 4, 2, 0, 0), (.if_icmp .ge 93, 3, 4, 0), (.aload_n 1, 1, 0, 0), (.getfield 43, 3, 9, 2), (.invokevirtual 67, 3, 5, 1), (.istore 6, 2, 0, 0), (.iload 6, 2, 0, 0), (.iconst (-1), 1, 0, 0), (.if_icmp .ne 5, 3, 2, 0), (.iconst (-1), 1, 0, 0), (.ireturn, 1, 0, 0)],
   [(.aload_n 0, 1, 0, 0), (.dup, 1, 0, 0), (.getfield 52, 3, 3, 0), (.iconst 1, 1, 0, 0), (.iadd, 1, 0, 0), (.putfield 52, 3, 12, 0), (.aload_n 0, 1, 0, 0), (.getfield 36, 3, 3, 6), (.aload_n 0, 1, 0, 0), (.getfield 14, 3, 3, 1), (.getfield 71, 3, 6, 0), (.iload 6, 2, 0, 0), (.laload, 1, 0, 0), (.aload_n 2, 1, 0, 0), (.getfield 75, 3, 7, 2), (.invokevirtual 78, 3, 73, 3), (.aload_n 1, 1, 0, 0), (.getfield 82, 3, 9, 1), (.aload_n 0, 1, 0, 0), (.getfield 36, 3, 3, 6), (.invokevirtual 86, 3, 18, 2), (.ifCond .eq 17, 3, 3, 0), (.aload_n 0, 1, 0, 0), (.iload 6, 2, 0, 0), (.putfield 56, 3, 12, 7), (.aload_n 0, 1, 0, 0), (.getfield 20, 3, 3, 2), (.iload 6, 2, 0, 0), (.iaload, 1, 0, 0), (.ireturn, 1, 0, 0)],
   [(.aload_n 0, 1, 0, 0), (.aload_n 1, 1, 0, 0), (.iload_n 3, 1, 0, 0), (.iload 6, 2, 0, 0), (.invokevirtual 92, 3, 34, 4), (.iinc 5 1, 3, 0, 0), (.goto (-94), 3, 1, 0)],
   [(.aload_n 1, 1, 0, 0), (.getfield 43, 3, 9, 2), (.invokevirtual 67, 3, 5, 1), (.iconst (-1), 1, 0, 0), (.if_icmp .ne 7, 3, 5, 0), (.iconst (-1), 1, 0, 0), (.goto 5, 3, 6, 0)],
   [(.bipush (-2), 2, 0, 0), (.nop, 0, 6, 0)],
   [(.ireturn, 1, 0, 0)]],
  [], (7, 6, 154, 3), [], ⟨"Slidingtray$BestFirst", "seek", "(LSlidingtray$Puzzle;LSlidingtray$Lie;II)I"⟩, prog_5_method_2_code, (some .int), [])
abbrev jm33p : List Nat := [0, 44, 68, 127, 141, 156, 158]
/-- Slidingtray$BestFirst.spread(LSlidingtray$Puzzle;II)V -/
def jm34 : jM := (
  [[(.iconst 0, 1, 0, 0), (.istore 4, 2, 0, 0), (.nop, 0, 1, 0)],
   [(.iload 4, 2, 0, 0), (.iconst 3, 1, 0, 0), (.if_icmp .gt 75, 3, 4, 0), (.aload_n 0, 1, 0, 0), (.getfield 36, 3, 3, 6), (.aload_n 1, 1, 0, 0), (.getfield 96, 3, 9, 0), (.iload 4, 2, 0, 0), (.invokevirtual 100, 3, 76, 3), (.istore 5, 2, 0, 0), (.iload 5, 2, 0, 0), (.ifCond .ne 6, 3, 2, 0), (.goto 46, 3, 3, 0)],
   [(.aload_n 0, 1, 0, 0), (.aload_n 1, 1, 0, 0), (.iload_n 2, 1, 0, 0), (.iload_n 3, 1, 0, 0), (.iload 4, 2, 0, 0), (.aload_n 0, 1, 0, 0), (.getfield 20, 3, 3, 2), (.iload_n 3, 1, 0, 0), (.iaload, 1, 0, 0), (.aload_n 1, 1, 0, 0), (.getfield 82, 3, 9, 1), (.getfield 104, 3, 1, 1), (.iload 5, 2, 0, 0), (.iaload, 1, 0, 0), (.iadd, 1, 0, 0), (.invokevirtual 63, 3, 35, 6), (.aload_n 0, 1, 0, 0), (.getfield 36, 3, 3, 6), (.aload_n 1, 1, 0, 0), (.getfield 96, 3, 9, 0), (.iload 4, 2, 0, 0), (.invokestatic 107, 3, 146, 1), (.invokevirtual 100, 3, 76, 3), (.pop, 1, 0, 0), (.nop, 0, 3, 0)],
   [(.iinc 4 1, 3, 0, 0), (.goto (-75), 3, 1, 0)],
   [(.return_, 1, 0, 0)]],
  [], (6, 5, 129, 3), [], ⟨"Slidingtray$BestFirst", "spread", "(LSlidingtray$Puzzle;II)V"⟩, prog_5_method_3_code, none, [])
abbrev jm34p : List Nat := [0, 3, 32, 75, 81]
/-- Slidingtray$BestFirst.meet(LSlidingtray$Puzzle;IIII)V -/
def jm35 : jM := (
  [[(.aload_n 0, 1, 0, 0), (.getfield 14, 3, 3, 1), (.getfield 111, 3, 6, 1), (.istore 6, 2, 0, 0), (.aload_n 0, 1, 0, 0), (.getfield 14, 3, 3, 1), (.aload_n 0, 1, 0, 0), (.getfield 36, 3, 3, 6), (.getfield 114, 3, 7, 3), (.invokevirtual 117, 3, 63, 2), (.istore 7, 2, 0, 0), (.iload 7, 2, 0, 0), (.iconst (-1), 1, 0, 0), (.if_icmp .ne 4, 3, 1, 0), (.return_, 1, 0, 0)],
   [(.aload_n 0, 1, 0, 0), (.getfield 14, 3, 3, 1), (.getfield 111, 3, 6, 1), (.iload 6, 2, 0, 0), (.if_icmp .le 7, 3, 2, 0), (.iconst 1, 1, 0, 0), (.goto 4, 3, 3, 0)],
   [(.iconst 0, 1, 0, 0), (.nop, 0, 3, 0)],
   [(.istore 8, 2, 0, 0), (.iload 8, 2, 0, 0), (.ifCond .ne 16, 3, 4, 0), (.iload 5, 2, 0, 0), (.aload_n 0, 1, 0, 0), (.getfield 20, 3, 3, 2), (.iload 7, 2, 0, 0), (.iaload, 1, 0, 0), (.if_icmp .lt 4, 3, 4, 0), (.return_, 1, 0, 0)],
   [(.iload 8, 2, 0, 0), (.ifCond .eq 19, 3, 5, 0), (.aload_n 0, 1, 0, 0), (.getfield 24, 3, 3, 3), (.iload 7, 2, 0, 0), (.aload_n 1, 1, 0, 0), (.aload_n 0, 1, 0, 0), (.getfield 36, 3, 3, 6), (.iload_n 2, 1, 0, 0), (.invokevirtual 121, 3, 96, 3), (.iastore, 1, 0, 0), (.nop, 0, 5, 0)],
   [(.aload_n 0, 1, 0, 0), (.getfield 20, 3, 3, 2), (.iload 7, 2, 0, 0), (.iload 5, 2, 0, 0), (.iastore, 1, 0, 0), (.aload_n 0, 1, 0, 0), (.getfield 27, 3, 3, 4), (.iload 7, 2, 0, 0), (.iload_n 3, 1, 0, 0), (.iastore, 1, 0, 0), (.aload_n 0, 1, 0, 0), (.getfield 30, 3, 3, 5), (.iload 7, 2, 0, 0), (.iload 4, 2, 0, 0), (.iastore, 1, 0, 0), (.iload 5, 2, 0, 0), (.aload_n 0, 1, 0, 0), (.getfield 24, 3, 3, 3), (.iload 7, 2, 0, 0), (.iaload, 1, 0, 0), (.iadd, 1, 0, 0), (.i2l, 1, 0, 0), (.bipush 32, 2, 0, 0), (.lshl, 1, 0, 0), (.aload_n 0, 1, 0, 0), (.getfield 24, 3, 3, 3), (.iload 7, 2, 0, 0), (.iaload, 1, 0, 0), (.i2l, 1, 0, 0), (.lor, 1, 0, 0), (.lstore 9, 2, 0, 0), (.aload_n 1, 1, 0, 0), (.getfield 43, 3, 9, 2), (.iload 7, 2, 0, 0), (.lload 9, 2, 0, 0), (.aload_n 0, 1, 0, 0), (.getfield 36, 3, 3, 6), (.getfield 114, 3, 7, 3), (.ldc2_w 125, 3, 9223372036854775808, 0), (.lxor, 1, 0, 0), (.invokevirtual 127, 3, 4, 4), (.return_, 1, 0, 0)]],
  [], (11, 4, 99, 3), [], ⟨"Slidingtray$BestFirst", "meet", "(LSlidingtray$Puzzle;IIII)V"⟩, prog_5_method_4_code, none, [])
abbrev jm35p : List Nat := [0, 32, 48, 49, 69, 90]
/-- Slidingtray$BestFirst.copyWay([I)I -/
def jm36 : jM := (
  [[(.aload_n 0, 1, 0, 0), (.getfield 56, 3, 3, 7), (.iconst (-1), 1, 0, 0), (.if_icmp .ne 5, 3, 1, 0), (.iconst 0, 1, 0, 0), (.ireturn, 1, 0, 0)],
   [(.iconst 0, 1, 0, 0), (.istore_n 2, 1, 0, 0), (.aload_n 0, 1, 0, 0), (.getfield 56, 3, 3, 7), (.istore_n 3, 1, 0, 0), (.nop, 0, 2, 0)],
   [(.aload_n 0, 1, 0, 0), (.getfield 27, 3, 3, 4), (.iload_n 3, 1, 0, 0), (.iaload, 1, 0, 0), (.iconst (-1), 1, 0, 0), (.if_icmp .eq 22, 3, 3, 0), (.iload_n 2, 1, 0, 0), (.aload_n 1, 1, 0, 0), (.arraylength, 1, 0, 0), (.if_icmp .ge 16, 3, 3, 0), (.iinc 2 1, 3, 0, 0), (.aload_n 0, 1, 0, 0), (.getfield 27, 3, 3, 4), (.iload_n 3, 1, 0, 0), (.iaload, 1, 0, 0), (.istore_n 3, 1, 0, 0), (.goto (-26), 3, 2, 0)],
   [(.aload_n 0, 1, 0, 0), (.getfield 56, 3, 3, 7), (.istore_n 3, 1, 0, 0), (.iload_n 2, 1, 0, 0), (.iconst 1, 1, 0, 0), (.isub, 1, 0, 0), (.istore 4, 2, 0, 0), (.nop, 0, 4, 0)],
   [(.iload 4, 2, 0, 0), (.ifCond .lt 26, 3, 5, 0), (.aload_n 1, 1, 0, 0), (.iload 4, 2, 0, 0), (.aload_n 0, 1, 0, 0), (.getfield 30, 3, 3, 5), (.iload_n 3, 1, 0, 0), (.iaload, 1, 0, 0), (.iastore, 1, 0, 0), (.aload_n 0, 1, 0, 0), (.getfield 27, 3, 3, 4), (.iload_n 3, 1, 0, 0), (.iaload, 1, 0, 0), (.istore_n 3, 1, 0, 0), (.iinc 4 (-1), 3, 0, 0), (.goto (-25), 3, 4, 0)],
   [(.iload_n 2, 1, 0, 0), (.ireturn, 1, 0, 0)]],
  [], (5, 0, 0, 3), [], ⟨"Slidingtray$BestFirst", "copyWay", "([I)I"⟩, prog_5_method_5_code, (some .int), [])
abbrev jm36p : List Nat := [0, 10, 17, 46, 56, 84]
/-- Slidingtray$Board.<init>()V -/
def jm37 : jM := (
  [[(.aload_n 0, 1, 0, 0), (.invokespecial 3, 3, 0, 778), (.aload_n 0, 1, 0, 0), (.bipush 16, 2, 0, 0), (.newarray .int, 2, 0, 0), (.putfield 9, 3, 19, 4), (.aload_n 0, 1, 0, 0), (.bipush 16, 2, 0, 0), (.newarray .int, 2, 0, 0), (.putfield 15, 3, 19, 5), (.aload_n 0, 1, 0, 0), (.bipush 64, 2, 0, 0), (.newarray .int, 2, 0, 0), (.putfield 18, 3, 19, 6), (.aload_n 0, 1, 0, 0), (.sipush 256, 3, 0, 0), (.newarray .int, 2, 0, 0), (.putfield 21, 3, 19, 7), (.aload_n 0, 1, 0, 0), (.bipush 8, 2, 0, 0), (.newarray .int, 2, 0, 0), (.putfield 24, 3, 19, 8), (.aload_n 0, 1, 0, 0), (.bipush 32, 2, 0, 0), (.newarray .int, 2, 0, 0), (.putfield 27, 3, 19, 9), (.aload_n 0, 1, 0, 0), (.sipush 128, 3, 0, 0), (.newarray .int, 2, 0, 0), (.putfield 30, 3, 19, 10), (.return_, 1, 0, 0)]],
  [], (1, 1, 26, 4), [], ⟨"Slidingtray$Board", "<init>", "()V"⟩, prog_6_method_1_code, none, [])
abbrev jm37p : List Nat := [0]
/-- Slidingtray$Board.isTray(III)Z -/
def jm38 : jM := (
  [[(.iload_n 0, 1, 0, 0), (.iconst 2, 1, 0, 0), (.if_icmp .lt 8, 3, 1, 0), (.iload_n 0, 1, 0, 0), (.iconst 4, 1, 0, 0), (.if_icmp .le 5, 3, 2, 0), (.nop, 0, 1, 0)],
   [(.iconst 0, 1, 0, 0), (.ireturn, 1, 0, 0)],
   [(.iload_n 1, 1, 0, 0), (.iconst 2, 1, 0, 0), (.if_icmp .lt 8, 3, 3, 0), (.iload_n 1, 1, 0, 0), (.iconst 4, 1, 0, 0), (.if_icmp .le 5, 3, 4, 0), (.nop, 0, 3, 0)],
   [(.iconst 0, 1, 0, 0), (.ireturn, 1, 0, 0)],
   [(.iconst 1, 1, 0, 0), (.iload_n 0, 1, 0, 0), (.iload_n 1, 1, 0, 0), (.imul, 1, 0, 0), (.ishl, 1, 0, 0), (.iconst 1, 1, 0, 0), (.isub, 1, 0, 0), (.istore_n 3, 1, 0, 0), (.iload_n 2, 1, 0, 0), (.iload_n 3, 1, 0, 0), (.iconst (-1), 1, 0, 0), (.ixor, 1, 0, 0), (.iand, 1, 0, 0), (.ifCond .eq 5, 3, 5, 0), (.iconst 0, 1, 0, 0), (.ireturn, 1, 0, 0)],
   [(.iload_n 3, 1, 0, 0), (.iload_n 2, 1, 0, 0), (.iconst (-1), 1, 0, 0), (.ixor, 1, 0, 0), (.iand, 1, 0, 0), (.istore 4, 2, 0, 0), (.iload 4, 2, 0, 0), (.invokestatic 33, 3, 0, 1), (.iconst 3, 1, 0, 0), (.if_icmp .lt 17, 3, 6, 0), (.iload_n 0, 1, 0, 0), (.iload_n 1, 1, 0, 0), (.iload 4, 2, 0, 0), (.invokestatic 39, 3, 39, 3), (.ifCond .eq 7, 3, 6, 0), (.iconst 1, 1, 0, 0), (.goto 4, 3, 7, 0)],
   [(.iconst 0, 1, 0, 0), (.nop, 0, 7, 0)],
   [(.ireturn, 1, 0, 0)]],
  [], (5, 1, 27, 4), [], ⟨"Slidingtray$Board", "isTray", "(III)Z"⟩, prog_6_method_2_code, (some .boolean), [])
abbrev jm38p : List Nat := [0, 10, 12, 22, 24, 42, 72, 73]
/-- Slidingtray$Board.isConnected(III)Z -/
def jm39 : jM := (
  [[(.iconst 0, 1, 0, 0), (.istore_n 3, 1, 0, 0), (.iconst 0, 1, 0, 0), (.istore 4, 2, 0, 0), (.nop, 0, 1, 0)],
   [(.iload 4, 2, 0, 0), (.iload_n 0, 1, 0, 0), (.if_icmp .ge 18, 3, 2, 0), (.iload_n 3, 1, 0, 0), (.iconst 1, 1, 0, 0), (.iload 4, 2, 0, 0), (.iload_n 1, 1, 0, 0), (.imul, 1, 0, 0), (.ishl, 1, 0, 0), (.ior, 1, 0, 0), (.istore_n 3, 1, 0, 0), (.iinc 4 1, 3, 0, 0), (.goto (-18), 3, 1, 0)],
   [(.iload_n 3, 1, 0, 0), (.iload_n 1, 1, 0, 0), (.iconst 1, 1, 0, 0), (.isub, 1, 0, 0), (.ishl, 1, 0, 0), (.istore 4, 2, 0, 0), (.iload_n 2, 1, 0, 0), (.iload_n 2, 1, 0, 0), (.ineg, 1, 0, 0), (.iand, 1, 0, 0), (.istore 5, 2, 0, 0), (.iconst 0, 1, 0, 0), (.istore 6, 2, 0, 0), (.nop, 0, 3, 0)],
   [(.iload 6, 2, 0, 0), (.bipush 16, 2, 0, 0), (.if_icmp .ge 48, 3, 4, 0), (.iload 5, 2, 0, 0), (.iload 4, 2, 0, 0), (.iconst (-1), 1, 0, 0), (.ixor, 1, 0, 0), (.iand, 1, 0, 0), (.iconst 1, 1, 0, 0), (.ishl, 1, 0, 0), (.iload 5, 2, 0, 0), (.iload_n 3, 1, 0, 0), (.iconst (-1), 1, 0, 0), (.ixor, 1, 0, 0), (.iand, 1, 0, 0), (.iconst 1, 1, 0, 0), (.iushr, 1, 0, 0), (.ior, 1, 0, 0), (.istore 7, 2, 0, 0), (.iload 5, 2, 0, 0), (.iload 7, 2, 0, 0), (.iload 5, 2, 0, 0), (.iload_n 1, 1, 0, 0), (.ishl, 1, 0, 0), (.ior, 1, 0, 0), (.iload 5, 2, 0, 0), (.iload_n 1, 1, 0, 0), (.iushr, 1, 0, 0), (.ior, 1, 0, 0), (.iload_n 2, 1, 0, 0), (.iand, 1, 0, 0), (.ior, 1, 0, 0), (.istore 5, 2, 0, 0), (.iinc 6 1, 3, 0, 0), (.goto (-49), 3, 3, 0)],
   [(.iload 5, 2, 0, 0), (.iload_n 2, 1, 0, 0), (.if_icmp .ne 7, 3, 5, 0), (.iconst 1, 1, 0, 0), (.goto 4, 3, 6, 0)],
   [(.iconst 0, 1, 0, 0), (.nop, 0, 6, 0)],
   [(.ireturn, 1, 0, 0)]],
  [], (8, 0, 0, 4), [], ⟨"Slidingtray$Board", "isConnected", "(III)Z"⟩, prog_6_method_3_code, (some .boolean), [])
abbrev jm39p : List Nat := [0, 5, 26, 42, 94, 104, 105]
/-- Slidingtray$Board.set(III)V -/
def jm40 : jM := (
  [[(.aload_n 0, 1, 0, 0), (.iload_n 1, 1, 0, 0), (.putfield 43, 3, 16, 0), (.aload_n 0, 1, 0, 0), (.iload_n 2, 1, 0, 0), (.putfield 47, 3, 16, 1), (.aload_n 0, 1, 0, 0), (.iload_n 1, 1, 0, 0), (.iload_n 2, 1, 0, 0), (.imul, 1, 0, 0), (.putfield 50, 3, 16, 2), (.aload_n 0, 1, 0, 0), (.iconst 0, 1, 0, 0), (.putfield 53, 3, 16, 3), (.iconst 0, 1, 0, 0), (.istore 4, 2, 0, 0), (.nop, 0, 1, 0)],
   [(.iload 4, 2, 0, 0), (.aload_n 0, 1, 0, 0), (.getfield 50, 3, 4, 2), (.if_icmp .ge 75, 3, 8, 0), (.iload_n 3, 1, 0, 0), (.iload 4, 2, 0, 0), (.ishr, 1, 0, 0), (.iconst 1, 1, 0, 0), (.iand, 1, 0, 0), (.iconst 1, 1, 0, 0), (.if_icmp .ne 7, 3, 2, 0), (.iconst 1, 1, 0, 0), (.goto 4, 3, 3, 0)],
   [(.iconst 0, 1, 0, 0), (.nop, 0, 3, 0)],
   [(.istore 5, 2, 0, 0), (.aload_n 0, 1, 0, 0), (.getfield 9, 3, 4, 4), (.iload 4, 2, 0, 0), (.iload 5, 2, 0, 0), (.ifCond .eq 7, 3, 4, 0), (.iconst (-1), 1, 0, 0), (.goto 7, 3, 5, 0)],
   [(.aload_n 0, 1, 0, 0), (.getfield 53, 3, 4, 3), (.nop, 0, 5, 0)],
   [(.iastore, 1, 0, 0), (.iload 5, 2, 0, 0), (.ifCond .eq 6, 3, 6, 0), (.goto 24, 3, 7, 0)],
   [(.aload_n 0, 1, 0, 0), (.getfield 15, 3, 4, 5), (.aload_n 0, 1, 0, 0), (.getfield 53, 3, 4, 3), (.iload 4, 2, 0, 0), (.iastore, 1, 0, 0), (.aload_n 0, 1, 0, 0), (.dup, 1, 0, 0), (.getfield 53, 3, 4, 3), (.iconst 1, 1, 0, 0), (.iadd, 1, 0, 0), (.putfield 53, 3, 16, 3), (.nop, 0, 7, 0)],
   [(.iinc 4 1, 3, 0, 0), (.goto (-78), 3, 1, 0)],
   [(.aload_n 0, 1, 0, 0), (.invokevirtual 56, 3, 41, 1), (.aload_n 0, 1, 0, 0), (.invokevirtual 59, 3, 43, 1), (.aload_n 0, 1, 0, 0), (.invokevirtual 62, 3, 45, 1), (.return_, 1, 0, 0)]],
  [], (6, 3, 70, 4), [], ⟨"Slidingtray$Board", "set", "(III)V"⟩, prog_6_method_4_code, none, [])
abbrev jm40p : List Nat := [0, 25, 48, 49, 66, 70, 79, 100, 106]
/-- Slidingtray$Board.link()V -/
def jm41 : jM := (
  [[(.iconst 0, 1, 0, 0), (.istore_n 1, 1, 0, 0), (.nop, 0, 1, 0)],
   [(.iload_n 1, 1, 0, 0), (.aload_n 0, 1, 0, 0), (.getfield 43, 3, 4, 0), (.if_icmp .ge 112, 3, 6, 0), (.iconst 0, 1, 0, 0), (.istore_n 2, 1, 0, 0), (.nop, 0, 2, 0)],
   [(.iload_n 2, 1, 0, 0), (.aload_n 0, 1, 0, 0), (.getfield 47, 3, 4, 1), (.if_icmp .ge 96, 3, 5, 0), (.aload_n 0, 1, 0, 0), (.iload_n 1, 1, 0, 0), (.iload_n 2, 1, 0, 0), (.invokevirtual 65, 3, 42, 3), (.istore_n 3, 1, 0, 0), (.iload_n 3, 1, 0, 0), (.iconst (-1), 1, 0, 0), (.if_icmp .ne 6, 3, 3, 0), (.goto 75, 3, 4, 0)],
   [(.aload_n 0, 1, 0, 0), (.getfield 18, 3, 4, 6), (.iload_n 3, 1, 0, 0), (.iconst 4, 1, 0, 0), (.imul, 1, 0, 0), (.iconst 0, 1, 0, 0), (.iadd, 1, 0, 0), (.aload_n 0, 1, 0, 0), (.iload_n 1, 1, 0, 0), (.iconst 1, 1, 0, 0), (.isub, 1, 0, 0), (.iload_n 2, 1, 0, 0), (.invokevirtual 65, 3, 42, 3), (.iastore, 1, 0, 0), (.aload_n 0, 1, 0, 0), (.getfield 18, 3, 4, 6), (.iload_n 3, 1, 0, 0), (.iconst 4, 1, 0, 0), (.imul, 1, 0, 0), (.iconst 1, 1, 0, 0), (.iadd, 1, 0, 0), (.aload_n 0, 1, 0, 0), (.iload_n 1, 1, 0, 0), (.iload_n 2, 1, 0, 0), (.iconst 1, 1, 0, 0), (.isub, 1, 0, 0), (.invokevirtual 65, 3, 42, 3), (.iastore, 1, 0, 0), (.aload_n 0, 1, 0, 0), (.getfield 18, 3, 4, 6), (.iload_n 3, 1, 0, 0), (.iconst 4, 1, 0, 0), (.imul, 1, 0, 0), (.iconst 2, 1, 0, 0), (.iadd, 1, 0, 0), (.aload_n 0, 1, 0, 0), (.iload_n 1, 1, 0, 0), (.iload_n 2, 1, 0, 0), (.iconst 1, 1, 0, 0), (.iadd, 1, 0, 0), (.invokevirtual 65, 3, 42, 3), (.iastore, 1, 0, 0), (.aload_n 0, 1, 0, 0), (.getfield 18, 3, 4, 6), (.iload_n 3, 1, 0, 0), (.iconst 4, 1, 0, 0), (.imul, 1, 0, 0), (.iconst 3, 1, 0, 0), (.iadd, 1, 0, 0), (.aload_n 0, 1, 0, 0), (.iload_n 1, 1, 0, 0), (.iconst 1, 1, 0, 0), (.iadd, 1, 0, 0), (.iload_n 2, 1, 0, 0), (.invokevirtual 65, 3, 42, 3), (.iastore, 1, 0, 0), (.nop, 0, 4, 0)],
   [(.iinc 2 1, 3, 0, 0), (.goto (-98), 3, 2, 0)],
   [(.iinc 1 1, 3, 0, 0), (.goto (-114), 3, 1, 0)],
   [(.return_, 1, 0, 0)]],
  [], (4, 1, 22, 4), [], ⟨"Slidingtray$Board", "link", "()V"⟩, prog_6_method_5_code, none, [])
abbrev jm41p : List Nat := [0, 2, 12, 35, 107, 113, 119]
/-- Slidingtray$Board.placeOn(II)I -/
def jm42 : jM := (
  [[(.iload_n 1, 1, 0, 0), (.ifCond .lt 23, 3, 1, 0), (.iload_n 1, 1, 0, 0), (.aload_n 0, 1, 0, 0), (.getfield 43, 3, 4, 0), (.if_icmp .ge 15, 3, 1, 0), (.iload_n 2, 1, 0, 0), (.ifCond .lt 11, 3, 1, 0), (.iload_n 2, 1, 0, 0), (.aload_n 0, 1, 0, 0), (.getfield 47, 3, 4, 1), (.if_icmp .lt 5, 3, 2, 0), (.nop, 0, 1, 0)],
   [(.iconst (-1), 1, 0, 0), (.ireturn, 1, 0, 0)],
   [(.aload_n 0, 1, 0, 0), (.getfield 9, 3, 4, 4), (.iload_n 1, 1, 0, 0), (.aload_n 0, 1, 0, 0), (.getfield 47, 3, 4, 1), (.imul, 1, 0, 0), (.iload_n 2, 1, 0, 0), (.iadd, 1, 0, 0), (.iaload, 1, 0, 0), (.ireturn, 1, 0, 0)]],
  [], (3, 0, 0, 4), [], ⟨"Slidingtray$Board", "placeOn", "(II)I"⟩, prog_6_method_6_code, (some .int), [])
abbrev jm42p : List Nat := [0, 24, 26]
/-- Slidingtray$Board.measure()V -/
def jm43 : jM := (
  [[(.iconst 0, 1, 0, 0), (.istore_n 1, 1, 0, 0), (.nop, 0, 1, 0)],
   [(.iload_n 1, 1, 0, 0), (.aload_n 0, 1, 0, 0), (.getfield 53, 3, 4, 3), (.if_icmp .ge 84, 3, 9, 0), (.iconst 0, 1, 0, 0), (.istore_n 2, 1, 0, 0), (.nop, 0, 2, 0)],
   [(.iload_n 2, 1, 0, 0), (.aload_n 0, 1, 0, 0), (.getfield 53, 3, 4, 3), (.if_icmp .ge 31, 3, 5, 0), (.aload_n 0, 1, 0, 0), (.getfield 21, 3, 4, 7), (.iload_n 1, 1, 0, 0), (.bipush 16, 2, 0, 0), (.imul, 1, 0, 0), (.iload_n 2, 1, 0, 0), (.iadd, 1, 0, 0), (.iload_n 1, 1, 0, 0), (.iload_n 2, 1, 0, 0), (.if_icmp .ne 7, 3, 3, 0), (.iconst 0, 1, 0, 0), (.goto 5, 3, 4, 0)],
   [(.bipush 16, 2, 0, 0), (.nop, 0, 4, 0)],
   [(.iastore, 1, 0, 0), (.iinc 2 1, 3, 0, 0), (.goto (-33), 3, 2, 0)],
   [(.iconst 0, 1, 0, 0), (.istore_n 2, 1, 0, 0), (.nop, 0, 6, 0)],
   [(.iload_n 2, 1, 0, 0), (.iconst 3, 1, 0, 0), (.if_icmp .gt 33, 3, 8, 0), (.aload_n 0, 1, 0, 0), (.iload_n 1, 1, 0, 0), (.iload_n 2, 1, 0, 0), (.invokevirtual 69, 3, 48, 3), (.istore_n 3, 1, 0, 0), (.iload_n 3, 1, 0, 0), (.iconst (-1), 1, 0, 0), (.if_icmp .eq 15, 3, 7, 0), (.aload_n 0, 1, 0, 0), (.getfield 21, 3, 4, 7), (.iload_n 1, 1, 0, 0), (.bipush 16, 2, 0, 0), (.imul, 1, 0, 0), (.iload_n 3, 1, 0, 0), (.iadd, 1, 0, 0), (.iconst 1, 1, 0, 0), (.iastore, 1, 0, 0), (.nop, 0, 7, 0)],
   [(.iinc 2 1, 3, 0, 0), (.goto (-32), 3, 6, 0)],
   [(.iinc 1 1, 3, 0, 0), (.goto (-86), 3, 1, 0)],
   [(.iconst 0, 1, 0, 0), (.istore_n 1, 1, 0, 0), (.nop, 0, 10, 0)],
   [(.iload_n 1, 1, 0, 0), (.aload_n 0, 1, 0, 0), (.getfield 53, 3, 4, 3), (.if_icmp .ge 31, 3, 13, 0), (.iconst 0, 1, 0, 0), (.istore_n 2, 1, 0, 0), (.nop, 0, 11, 0)],
   [(.iload_n 2, 1, 0, 0), (.aload_n 0, 1, 0, 0), (.getfield 53, 3, 4, 3), (.if_icmp .ge 15, 3, 12, 0), (.aload_n 0, 1, 0, 0), (.iload_n 2, 1, 0, 0), (.iload_n 1, 1, 0, 0), (.invokevirtual 72, 3, 44, 3), (.iinc 2 1, 3, 0, 0), (.goto (-17), 3, 11, 0)],
   [(.iinc 1 1, 3, 0, 0), (.goto (-33), 3, 10, 0)],
   [(.return_, 1, 0, 0)]],
  [], (4, 2, 47, 4), [], ⟨"Slidingtray$Board", "measure", "()V"⟩, prog_6_method_7_code, none, [])
abbrev jm43p : List Nat := [0, 2, 12, 39, 41, 48, 50, 79, 85, 91, 93, 103, 123, 129]
/-- Slidingtray$Board.shortenOver(II)V -/
def jm44 : jM := (
  [[(.aload_n 0, 1, 0, 0), (.iload_n 1, 1, 0, 0), (.iload_n 2, 1, 0, 0), (.invokevirtual 76, 3, 49, 3), (.istore_n 3, 1, 0, 0), (.iconst 0, 1, 0, 0), (.istore 4, 2, 0, 0), (.nop, 0, 1, 0)],
   [(.iload 4, 2, 0, 0), (.aload_n 0, 1, 0, 0), (.getfield 53, 3, 4, 3), (.if_icmp .ge 46, 3, 3, 0), (.iload_n 3, 1, 0, 0), (.aload_n 0, 1, 0, 0), (.iload_n 2, 1, 0, 0), (.iload 4, 2, 0, 0), (.invokevirtual 76, 3, 49, 3), (.iadd, 1, 0, 0), (.istore 5, 2, 0, 0), (.iload 5, 2, 0, 0), (.aload_n 0, 1, 0, 0), (.iload_n 1, 1, 0, 0), (.iload 4, 2, 0, 0), (.invokevirtual 76, 3, 49, 3), (.if_icmp .ge 17, 3, 2, 0), (.aload_n 0, 1, 0, 0), (.getfield 21, 3, 4, 7), (.iload_n 1, 1, 0, 0), (.bipush 16, 2, 0, 0), (.imul, 1, 0, 0), (.iload 4, 2, 0, 0), (.iadd, 1, 0, 0), (.iload 5, 2, 0, 0), (.iastore, 1, 0, 0), (.nop, 0, 2, 0)],
   [(.iinc 4 1, 3, 0, 0), (.goto (-49), 3, 1, 0)],
   [(.return_, 1, 0, 0)]],
  [], (6, 1, 22, 4), [], ⟨"Slidingtray$Board", "shortenOver", "(II)V"⟩, prog_6_method_8_code, none, [])
abbrev jm44p : List Nat := [0, 10, 56, 62]
/-- Slidingtray$Board.drawLines()V -/
def jm45 : jM := (
  [[(.aload_n 0, 1, 0, 0), (.getfield 30, 3, 4, 10), (.iconst (-1), 1, 0, 0), (.invokestatic 79, 3, 1, 2), (.iconst 0, 1, 0, 0), (.istore_n 1, 1, 0, 0), (.nop, 0, 1, 0)],
   [(.iload_n 1, 1, 0, 0), (.iconst 4, 1, 0, 0), (.if_icmp .ge 65, 3, 6, 0), (.aload_n 0, 1, 0, 0), (.iload_n 1, 1, 0, 0), (.iload_n 1, 1, 0, 0), (.aload_n 0, 1, 0, 0), (.getfield 47, 3, 4, 1), (.imul, 1, 0, 0), (.iconst 1, 1, 0, 0), (.iload_n 1, 1, 0, 0), (.aload_n 0, 1, 0, 0), (.getfield 43, 3, 4, 0), (.if_icmp .ge 10, 3, 2, 0), (.aload_n 0, 1, 0, 0), (.getfield 47, 3, 4, 1), (.goto 4, 3, 3, 0)],
   [(.iconst 0, 1, 0, 0), (.nop, 0, 3, 0)],
   [(.invokevirtual 85, 3, 46, 5), (.aload_n 0, 1, 0, 0), (.iconst 4, 1, 0, 0), (.iload_n 1, 1, 0, 0), (.iadd, 1, 0, 0), (.iload_n 1, 1, 0, 0), (.aload_n 0, 1, 0, 0), (.getfield 47, 3, 4, 1), (.iload_n 1, 1, 0, 0), (.aload_n 0, 1, 0, 0), (.getfield 47, 3, 4, 1), (.if_icmp .ge 10, 3, 4, 0), (.aload_n 0, 1, 0, 0), (.getfield 43, 3, 4, 0), (.goto 4, 3, 5, 0)],
   [(.iconst 0, 1, 0, 0), (.nop, 0, 5, 0)],
   [(.invokevirtual 85, 3, 46, 5), (.iinc 1 1, 3, 0, 0), (.goto (-64), 3, 1, 0)],
   [(.return_, 1, 0, 0)]],
  [], (2, 1, 26, 4), [], ⟨"Slidingtray$Board", "drawLines", "()V"⟩, prog_6_method_9_code, none, [])
abbrev jm45p : List Nat := [0, 10, 39, 40, 67, 68, 77]
/-- Slidingtray$Board.drawLine(IIII)V -/
def jm46 : jM := (
  [[(.aload_n 0, 1, 0, 0), (.getfield 24, 3, 4, 8), (.iload_n 1, 1, 0, 0), (.iconst 0, 1, 0, 0), (.iastore, 1, 0, 0), (.iconst 0, 1, 0, 0), (.istore 5, 2, 0, 0), (.nop, 0, 1, 0)],
   [(.iload 5, 2, 0, 0), (.iload 4, 2, 0, 0), (.if_icmp .ge 25, 3, 3, 0), (.aload_n 0, 1, 0, 0), (.getfield 9, 3, 4, 4), (.iload_n 2, 1, 0, 0), (.iload 5, 2, 0, 0), (.iload_n 3, 1, 0, 0), (.imul, 1, 0, 0), (.iadd, 1, 0, 0), (.iaload, 1, 0, 0), (.iconst (-1), 1, 0, 0), (.if_icmp .ne 4, 3, 2, 0), (.return_, 1, 0, 0)],
   [(.iinc 5 1, 3, 0, 0), (.goto (-26), 3, 1, 0)],
   [(.iconst 0, 1, 0, 0), (.istore 5, 2, 0, 0), (.nop, 0, 4, 0)],
   [(.iload 5, 2, 0, 0), (.iload 4, 2, 0, 0), (.if_icmp .ge 49, 3, 5, 0), (.aload_n 0, 1, 0, 0), (.getfield 9, 3, 4, 4), (.iload_n 2, 1, 0, 0), (.iload 5, 2, 0, 0), (.iload_n 3, 1, 0, 0), (.imul, 1, 0, 0), (.iadd, 1, 0, 0), (.iaload, 1, 0, 0), (.istore 6, 2, 0, 0), (.aload_n 0, 1, 0, 0), (.getfield 27, 3, 4, 9), (.iload_n 1, 1, 0, 0), (.iconst 4, 1, 0, 0), (.imul, 1, 0, 0), (.iload 5, 2, 0, 0), (.iadd, 1, 0, 0), (.iload 6, 2, 0, 0), (.iastore, 1, 0, 0), (.aload_n 0, 1, 0, 0), (.getfield 30, 3, 4, 10), (.iload_n 1, 1, 0, 0), (.bipush 16, 2, 0, 0), (.imul, 1, 0, 0), (.iload 6, 2, 0, 0), (.iadd, 1, 0, 0), (.iload 5, 2, 0, 0), (.iastore, 1, 0, 0), (.iinc 5 1, 3, 0, 0), (.goto (-50), 3, 4, 0)],
   [(.aload_n 0, 1, 0, 0), (.getfield 24, 3, 4, 8), (.iload_n 1, 1, 0, 0), (.iload 4, 2, 0, 0), (.iastore, 1, 0, 0), (.return_, 1, 0, 0)]],
  [], (7, 0, 0, 4), [], ⟨"Slidingtray$Board", "drawLine", "(IIII)V"⟩, prog_6_method_10_code, none, [])
abbrev jm46p : List Nat := [0, 10, 33, 39, 42, 95]
/-- Slidingtray$Board.hasWalls()Z -/
def jm47 : jM := (
  [[(.aload_n 0, 1, 0, 0), (.getfield 53, 3, 4, 3), (.aload_n 0, 1, 0, 0), (.getfield 50, 3, 4, 2), (.if_icmp .ge 7, 3, 1, 0), (.iconst 1, 1, 0, 0), (.goto 4, 3, 2, 0)],
   [(.iconst 0, 1, 0, 0), (.nop, 0, 2, 0)],
   [(.ireturn, 1, 0, 0)]],
  [], (1, 0, 0, 4), [], ⟨"Slidingtray$Board", "hasWalls", "()Z"⟩, prog_6_method_11_code, (some .boolean), [])
abbrev jm47p : List Nat := [0, 15, 16]
/-- Slidingtray$Board.besideOf(II)I -/
def jm48 : jM := (
  [[(.aload_n 0, 1, 0, 0), (.getfield 18, 3, 4, 6), (.iload_n 1, 1, 0, 0), (.iconst 4, 1, 0, 0), (.imul, 1, 0, 0), (.iload_n 2, 1, 0, 0), (.iadd, 1, 0, 0), (.iaload, 1, 0, 0), (.ireturn, 1, 0, 0)]],
  [], (3, 0, 0, 4), [], ⟨"Slidingtray$Board", "besideOf", "(II)I"⟩, prog_6_method_12_code, (some .int), [])
abbrev jm48p : List Nat := [0]
/-- Slidingtray$Board.stepsBetween(II)I -/
def jm49 : jM := (
  [[(.aload_n 0, 1, 0, 0), (.getfield 21, 3, 4, 7), (.iload_n 1, 1, 0, 0), (.bipush 16, 2, 0, 0), (.imul, 1, 0, 0), (.iload_n 2, 1, 0, 0), (.iadd, 1, 0, 0), (.iaload, 1, 0, 0), (.ireturn, 1, 0, 0)]],
  [], (3, 0, 0, 4), [], ⟨"Slidingtray$Board", "stepsBetween", "(II)I"⟩, prog_6_method_13_code, (some .int), [])
abbrev jm49p : List Nat := [0]
/-- Slidingtray$Board.linePlace(II)I -/
def jm50 : jM := (
  [[(.aload_n 0, 1, 0, 0), (.getfield 27, 3, 4, 9), (.iload_n 1, 1, 0, 0), (.iconst 4, 1, 0, 0), (.imul, 1, 0, 0), (.iload_n 2, 1, 0, 0), (.iadd, 1, 0, 0), (.iaload, 1, 0, 0), (.ireturn, 1, 0, 0)]],
  [], (3, 0, 0, 4), [], ⟨"Slidingtray$Board", "linePlace", "(II)I"⟩, prog_6_method_14_code, (some .int), [])
abbrev jm50p : List Nat := [0]
/-- Slidingtray$Board.indexOn(II)I -/
def jm51 : jM := (
  [[(.aload_n 0, 1, 0, 0), (.getfield 30, 3, 4, 10), (.iload_n 1, 1, 0, 0), (.bipush 16, 2, 0, 0), (.imul, 1, 0, 0), (.iload_n 2, 1, 0, 0), (.iadd, 1, 0, 0), (.iaload, 1, 0, 0), (.ireturn, 1, 0, 0)]],
  [], (3, 0, 0, 4), [], ⟨"Slidingtray$Board", "indexOn", "(II)I"⟩, prog_6_method_15_code, (some .int), [])
abbrev jm51p : List Nat := [0]
/-- Slidingtray$Board.exits(I)I -/
def jm52 : jM := (
  [[(.iconst 0, 1, 0, 0), (.istore_n 2, 1, 0, 0), (.iconst 0, 1, 0, 0), (.istore_n 3, 1, 0, 0), (.nop, 0, 1, 0)],
   [(.iload_n 3, 1, 0, 0), (.iconst 3, 1, 0, 0), (.if_icmp .gt 22, 3, 3, 0), (.aload_n 0, 1, 0, 0), (.iload_n 1, 1, 0, 0), (.iload_n 3, 1, 0, 0), (.invokevirtual 69, 3, 48, 3), (.iconst (-1), 1, 0, 0), (.if_icmp .eq 6, 3, 2, 0), (.iinc 2 1, 3, 0, 0), (.nop, 0, 2, 0)],
   [(.iinc 3 1, 3, 0, 0), (.goto (-21), 3, 1, 0)],
   [(.iload_n 2, 1, 0, 0), (.ireturn, 1, 0, 0)]],
  [], (4, 1, 22, 4), [], ⟨"Slidingtray$Board", "exits", "(I)I"⟩, prog_6_method_16_code, (some .int), [])
abbrev jm52p : List Nat := [0, 4, 22, 28]
/-- Slidingtray$Board.exit(II)I -/
def jm53 : jM := (
  [[(.iconst 0, 1, 0, 0), (.istore_n 3, 1, 0, 0), (.iconst 0, 1, 0, 0), (.istore 4, 2, 0, 0), (.nop, 0, 1, 0)],
   [(.iload 4, 2, 0, 0), (.iconst 3, 1, 0, 0), (.if_icmp .ge 34, 3, 5, 0), (.aload_n 0, 1, 0, 0), (.iload_n 1, 1, 0, 0), (.iload 4, 2, 0, 0), (.invokevirtual 69, 3, 48, 3), (.iconst (-1), 1, 0, 0), (.if_icmp .ne 6, 3, 2, 0), (.goto 14, 3, 4, 0)],
   [(.iload_n 3, 1, 0, 0), (.iload_n 2, 1, 0, 0), (.if_icmp .ne 6, 3, 3, 0), (.iload 4, 2, 0, 0), (.ireturn, 1, 0, 0)],
   [(.iinc 3 1, 3, 0, 0), (.nop, 0, 4, 0)],
   [(.iinc 4 1, 3, 0, 0), (.goto (-34), 3, 1, 0)],
   [(.iconst 3, 1, 0, 0), (.ireturn, 1, 0, 0)]],
  [], (5, 1, 22, 4), [], ⟨"Slidingtray$Board", "exit", "(II)I"⟩, prog_6_method_17_code, (some .int), [])
abbrev jm53p : List Nat := [0, 5, 25, 33, 36, 42]
/-- Slidingtray$Deepening.<init>()V -/
def jm54 : jM := (
  [[(.aload_n 0, 1, 0, 0), (.invokespecial 3, 3, 0, 778), (.aload_n 0, 1, 0, 0), (.sipush 1000, 3, 0, 0), (.newarray .int, 2, 0, 0), (.putfield 9, 3, 23, 2), (.aload_n 0, 1, 0, 0), (.sipush 1001, 3, 0, 0), (.newarray .int, 2, 0, 0), (.putfield 15, 3, 23, 3), (.aload_n 0, 1, 0, 0), (.sipush 1001, 3, 0, 0), (.newarray .int, 2, 0, 0), (.putfield 18, 3, 23, 4), (.aload_n 0, 1, 0, 0), (.new 21, 3, 7, 0), (.dup, 1, 0, 0), (.invokespecial 23, 3, 65, 1), (.putfield 24, 3, 23, 5), (.return_, 1, 0, 0)]],
  [], (1, 2, 46, 5), [], ⟨"Slidingtray$Deepening", "<init>", "()V"⟩, prog_7_method_1_code, none, [])
abbrev jm54p : List Nat := [0]
/-- Slidingtray$Deepening.seek(LSlidingtray$Puzzle;LSlidingtray$Lie;II)I -/
def jm55 : jM := (
  [[(.aload_n 0, 1, 0, 0), (.iconst 0, 1, 0, 0), (.putfield 28, 3, 20, 0), (.aload_n 0, 1, 0, 0), (.iconst 0, 1, 0, 0), (.putfield 32, 3, 20, 1), (.aload_n 1, 1, 0, 0), (.aload_n 2, 1, 0, 0), (.iload_n 3, 1, 0, 0), (.invokevirtual 35, 3, 96, 3), (.istore 5, 2, 0, 0), (.iconst 0, 1, 0, 0), (.istore 6, 2, 0, 0), (.nop, 0, 1, 0)],
   [(.iload 6, 2, 0, 0), (.iload 4, 2, 0, 0), (.if_icmp .ge 81, 3, 5, 0), (.aload_n 0, 1, 0, 0), (.getfield 24, 3, 5, 5), (.aload_n 2, 1, 0, 0), (.invokevirtual 41, 3, 74, 2), (.aload_n 0, 1, 0, 0), (.iconst 0, 1, 0, 0), (.putfield 45, 3, 20, 6), (.aload_n 0, 1, 0, 0), (.dup, 1, 0, 0), (.getfield 32, 3, 5, 1), (.iconst 1, 1, 0, 0), (.iadd, 1, 0, 0), (.putfield 32, 3, 20, 1), (.aload_n 0, 1, 0, 0), (.aload_n 1, 1, 0, 0), (.iload_n 3, 1, 0, 0), (.iload 5, 2, 0, 0), (.iload 4, 2, 0, 0), (.invokevirtual 48, 3, 56, 5), (.istore 7, 2, 0, 0), (.iload 7, 2, 0, 0), (.ifCond .ne 13, 3, 2, 0), (.aload_n 0, 1, 0, 0), (.getfield 15, 3, 5, 3), (.aload_n 0, 1, 0, 0), (.getfield 45, 3, 5, 6), (.iaload, 1, 0, 0), (.ireturn, 1, 0, 0)],
   [(.iload 7, 2, 0, 0), (.iconst (-1), 1, 0, 0), (.if_icmp .ne 5, 3, 3, 0), (.iconst (-1), 1, 0, 0), (.ireturn, 1, 0, 0)],
   [(.iload 7, 2, 0, 0), (.bipush (-2), 2, 0, 0), (.if_icmp .ne 6, 3, 4, 0), (.bipush (-2), 2, 0, 0), (.ireturn, 1, 0, 0)],
   [(.iload 7, 2, 0, 0), (.istore 5, 2, 0, 0), (.iinc 6 1, 3, 0, 0), (.goto (-82), 3, 1, 0)],
   [(.bipush (-2), 2, 0, 0), (.ireturn, 1, 0, 0)]],
  [], (8, 5, 126, 5), [], ⟨"Slidingtray$Deepening", "seek", "(LSlidingtray$Puzzle;LSlidingtray$Lie;II)I"⟩, prog_7_method_2_code, (some .int), [])
abbrev jm55p : List Nat := [0, 21, 78, 86, 96, 106]
/-- Slidingtray$Deepening.goThrough(LSlidingtray$Puzzle;III)I -/
def jm56 : jM := (
  [[(.aload_n 0, 1, 0, 0), (.getfield 28, 3, 5, 0), (.iload 4, 2, 0, 0), (.if_icmp .lt 6, 3, 1, 0), (.bipush (-2), 2, 0, 0), (.ireturn, 1, 0, 0)],
   [(.aload_n 0, 1, 0, 0), (.dup, 1, 0, 0), (.getfield 28, 3, 5, 0), (.iconst 1, 1, 0, 0), (.iadd, 1, 0, 0), (.putfield 28, 3, 20, 0), (.aload_n 0, 1, 0, 0), (.iconst (-1), 1, 0, 0), (.putfield 52, 3, 20, 7), (.aload_n 0, 1, 0, 0), (.getfield 15, 3, 5, 3), (.iconst 0, 1, 0, 0), (.iconst 0, 1, 0, 0), (.iastore, 1, 0, 0), (.aload_n 0, 1, 0, 0), (.getfield 18, 3, 5, 4), (.iconst 0, 1, 0, 0), (.iconst 0, 1, 0, 0), (.iastore, 1, 0, 0), (.aload_n 1, 1, 0, 0), (.getfield 55, 3, 9, 1), (.aload_n 0, 1, 0, 0), (.getfield 24, 3, 5, 5), (.invokevirtual 59, 3, 18, 2), (.ifCond .eq 5, 3, 2, 0), (.iconst 0, 1, 0, 0), (.ireturn, 1, 0, 0)],
   [(.iconst 0, 1, 0, 0), (.istore 5, 2, 0, 0), (.nop, 0, 3, 0)],
   [(.iload 5, 2, 0, 0), (.iconst 5, 1, 0, 0), (.iload 4, 2, 0, 0), (.imul, 1, 0, 0), (.if_icmp .gt 210, 3, 11, 0), (.aload_n 0, 1, 0, 0), (.getfield 18, 3, 5, 4), (.aload_n 0, 1, 0, 0), (.getfield 45, 3, 5, 6), (.iaload, 1, 0, 0), (.istore 6, 2, 0, 0), (.iload 6, 2, 0, 0), (.iconst 3, 1, 0, 0), (.if_icmp .le 23, 3, 5, 0), (.aload_n 0, 1, 0, 0), (.getfield 45, 3, 5, 6), (.ifCond .ne 8, 3, 4, 0), (.aload_n 0, 1, 0, 0), (.getfield 52, 3, 5, 7), (.ireturn, 1, 0, 0)],
   [(.aload_n 0, 1, 0, 0), (.aload_n 1, 1, 0, 0), (.invokevirtual 65, 3, 58, 2), (.goto 167, 3, 10, 0)],
   [(.aload_n 0, 1, 0, 0), (.getfield 18, 3, 5, 4), (.aload_n 0, 1, 0, 0), (.getfield 45, 3, 5, 6), (.dup2, 1, 0, 0), (.iaload, 1, 0, 0), (.iconst 1, 1, 0, 0), (.iadd, 1, 0, 0), (.iastore, 1, 0, 0), (.aload_n 0, 1, 0, 0), (.getfield 45, 3, 5, 6), (.ifCond .le 25, 3, 6, 0), (.iload 6, 2, 0, 0), (.aload_n 0, 1, 0, 0), (.getfield 9, 3, 5, 2), (.aload_n 0, 1, 0, 0), (.getfield 45, 3, 5, 6), (.iconst 1, 1, 0, 0), (.isub, 1, 0, 0), (.iaload, 1, 0, 0), (.invokestatic 69, 3, 146, 1), (.if_icmp .ne 6, 3, 6, 0), (.goto 125, 3, 10, 0)],
   [(.aload_n 0, 1, 0, 0), (.getfield 24, 3, 5, 5), (.aload_n 1, 1, 0, 0), (.getfield 73, 3, 9, 0), (.iload 6, 2, 0, 0), (.invokevirtual 77, 3, 76, 3), (.istore 7, 2, 0, 0), (.iload 7, 2, 0, 0), (.ifCond .ne 6, 3, 7, 0), (.goto 102, 3, 10, 0)],
   [(.aload_n 0, 1, 0, 0), (.getfield 28, 3, 5, 0), (.iload 4, 2, 0, 0), (.if_icmp .lt 6, 3, 8, 0), (.bipush (-2), 2, 0, 0), (.ireturn, 1, 0, 0)],
   [(.aload_n 0, 1, 0, 0), (.dup, 1, 0, 0), (.getfield 28, 3, 5, 0), (.iconst 1, 1, 0, 0), (.iadd, 1, 0, 0), (.putfield 28, 3, 20, 0), (.aload_n 0, 1, 0, 0), (.iload 6, 2, 0, 0), (.aload_n 0, 1, 0, 0), (.getfield 15, 3, 5, 3), (.aload_n 0, 1, 0, 0), (.getfield 45, 3, 5, 6), (.iaload, 1, 0, 0), (.aload_n 1, 1, 0, 0), (.getfield 55, 3, 9, 1), (.getfield 81, 3, 1, 1), (.iload 7, 2, 0, 0), (.iaload, 1, 0, 0), (.iadd, 1, 0, 0), (.invokevirtual 84, 3, 57, 3), (.aload_n 0, 1, 0, 0), (.iload_n 3, 1, 0, 0), (.aload_n 0, 1, 0, 0), (.getfield 15, 3, 5, 3), (.aload_n 0, 1, 0, 0), (.getfield 45, 3, 5, 6), (.iaload, 1, 0, 0), (.aload_n 1, 1, 0, 0), (.aload_n 0, 1, 0, 0), (.getfield 24, 3, 5, 5), (.iload_n 2, 1, 0, 0), (.invokevirtual 35, 3, 96, 3), (.iadd, 1, 0, 0), (.invokevirtual 88, 3, 59, 3), (.ifCond .eq 11, 3, 9, 0), (.aload_n 0, 1, 0, 0), (.aload_n 1, 1, 0, 0), (.invokevirtual 65, 3, 58, 2), (.goto 19, 3, 10, 0)],
   [(.aload_n 1, 1, 0, 0), (.getfield 55, 3, 9, 1), (.aload_n 0, 1, 0, 0), (.getfield 24, 3, 5, 5), (.invokevirtual 59, 3, 18, 2), (.ifCond .eq 5, 3, 10, 0), (.iconst 0, 1, 0, 0), (.ireturn, 1, 0, 0)],
   [(.iinc 5 1, 3, 0, 0), (.goto (-213), 3, 3, 0)],
   [(.bipush (-2), 2, 0, 0), (.ireturn, 1, 0, 0)]],
  [], (8, 4, 99, 5), [], ⟨"Slidingtray$Deepening", "goThrough", "(LSlidingtray$Puzzle;III)I"⟩, prog_7_method_3_code, (some .int), [])
abbrev jm56p : List Nat := [0, 12, 57, 60, 98, 106, 148, 171, 183, 254, 270, 276]
/-- Slidingtray$Deepening.goOn(II)V -/
def jm57 : jM := (
  [[(.aload_n 0, 1, 0, 0), (.getfield 9, 3, 5, 2), (.aload_n 0, 1, 0, 0), (.getfield 45, 3, 5, 6), (.iload_n 1, 1, 0, 0), (.iastore, 1, 0, 0), (.aload_n 0, 1, 0, 0), (.dup, 1, 0, 0), (.getfield 45, 3, 5, 6), (.iconst 1, 1, 0, 0), (.iadd, 1, 0, 0), (.putfield 45, 3, 20, 6), (.aload_n 0, 1, 0, 0), (.getfield 15, 3, 5, 3), (.aload_n 0, 1, 0, 0), (.getfield 45, 3, 5, 6), (.iload_n 2, 1, 0, 0), (.iastore, 1, 0, 0), (.aload_n 0, 1, 0, 0), (.getfield 18, 3, 5, 4), (.aload_n 0, 1, 0, 0), (.getfield 45, 3, 5, 6), (.iconst 0, 1, 0, 0), (.iastore, 1, 0, 0), (.return_, 1, 0, 0)]],
  [], (3, 0, 0, 5), [], ⟨"Slidingtray$Deepening", "goOn", "(II)V"⟩, prog_7_method_4_code, none, [])
abbrev jm57p : List Nat := [0]
/-- Slidingtray$Deepening.goBack(LSlidingtray$Puzzle;)V -/
def jm58 : jM := (
  [[(.aload_n 0, 1, 0, 0), (.dup, 1, 0, 0), (.getfield 45, 3, 5, 6), (.iconst 1, 1, 0, 0), (.isub, 1, 0, 0), (.putfield 45, 3, 20, 6), (.aload_n 0, 1, 0, 0), (.getfield 24, 3, 5, 5), (.aload_n 1, 1, 0, 0), (.getfield 73, 3, 9, 0), (.aload_n 0, 1, 0, 0), (.getfield 9, 3, 5, 2), (.aload_n 0, 1, 0, 0), (.getfield 45, 3, 5, 6), (.iaload, 1, 0, 0), (.invokestatic 69, 3, 146, 1), (.invokevirtual 77, 3, 76, 3), (.pop, 1, 0, 0), (.return_, 1, 0, 0)]],
  [], (2, 2, 49, 5), [], ⟨"Slidingtray$Deepening", "goBack", "(LSlidingtray$Puzzle;)V"⟩, prog_7_method_5_code, none, [])
abbrev jm58p : List Nat := [0]
/-- Slidingtray$Deepening.endsBy(II)Z -/
def jm59 : jM := (
  [[(.iload_n 2, 1, 0, 0), (.iload_n 1, 1, 0, 0), (.if_icmp .gt 5, 3, 1, 0), (.iconst 0, 1, 0, 0), (.ireturn, 1, 0, 0)],
   [(.aload_n 0, 1, 0, 0), (.getfield 52, 3, 5, 7), (.iconst (-1), 1, 0, 0), (.if_icmp .eq 11, 3, 2, 0), (.iload_n 2, 1, 0, 0), (.aload_n 0, 1, 0, 0), (.getfield 52, 3, 5, 7), (.if_icmp .ge 8, 3, 3, 0), (.nop, 0, 2, 0)],
   [(.aload_n 0, 1, 0, 0), (.iload_n 2, 1, 0, 0), (.putfield 52, 3, 20, 7), (.nop, 0, 3, 0)],
   [(.iconst 1, 1, 0, 0), (.ireturn, 1, 0, 0)]],
  [], (3, 0, 0, 5), [], ⟨"Slidingtray$Deepening", "endsBy", "(II)Z"⟩, prog_7_method_6_code, (some .boolean), [])
abbrev jm59p : List Nat := [0, 7, 23, 28]
/-- Slidingtray$Deepening.copyWay([I)I -/
def jm60 : jM := (
  [[(.aload_n 0, 1, 0, 0), (.getfield 45, 3, 5, 6), (.aload_n 1, 1, 0, 0), (.arraylength, 1, 0, 0), (.invokestatic 92, 3, 0, 775), (.istore_n 2, 1, 0, 0), (.aload_n 0, 1, 0, 0), (.getfield 9, 3, 5, 2), (.iconst 0, 1, 0, 0), (.aload_n 1, 1, 0, 0), (.iconst 0, 1, 0, 0), (.iload_n 2, 1, 0, 0), (.invokestatic 98, 3, 0, 777), (.iload_n 2, 1, 0, 0), (.ireturn, 1, 0, 0)]],
  [], (3, 1, 26, 5), [], ⟨"Slidingtray$Deepening", "copyWay", "([I)I"⟩, prog_7_method_7_code, (some .int), [])
abbrev jm60p : List Nat := [0]
/-- Slidingtray$Found.<init>(II)V -/
def jm61 : jM := (
  [[(.aload_n 0, 1, 0, 0), (.invokespecial 3, 3, 0, 778), (.aload_n 0, 1, 0, 0), (.iload_n 1, 1, 0, 0), (.newarray .long, 2, 0, 0), (.putfield 9, 3, 27, 0), (.aload_n 0, 1, 0, 0), (.iload_n 1, 1, 0, 0), (.newarray .int, 2, 0, 0), (.putfield 15, 3, 27, 2), (.aload_n 0, 1, 0, 0), (.iconst 1, 1, 0, 0), (.iload_n 2, 1, 0, 0), (.ishl, 1, 0, 0), (.newarray .int, 2, 0, 0), (.putfield 19, 3, 27, 3), (.aload_n 0, 1, 0, 0), (.getfield 19, 3, 6, 3), (.iconst (-1), 1, 0, 0), (.invokestatic 22, 3, 1, 2), (.aload_n 0, 1, 0, 0), (.iload_n 2, 1, 0, 0), (.putfield 28, 3, 24, 4), (.return_, 1, 0, 0)]],
  [], (3, 1, 26, 6), [], ⟨"Slidingtray$Found", "<init>", "(II)V"⟩, prog_8_method_1_code, none, [])
abbrev jm61p : List Nat := [0]
/-- Slidingtray$Found.clear()V -/
def jm62 : jM := (
  [[(.iconst 0, 1, 0, 0), (.istore_n 1, 1, 0, 0), (.nop, 0, 1, 0)],
   [(.iload_n 1, 1, 0, 0), (.aload_n 0, 1, 0, 0), (.getfield 32, 3, 6, 1), (.if_icmp .ge 21, 3, 2, 0), (.aload_n 0, 1, 0, 0), (.getfield 19, 3, 6, 3), (.aload_n 0, 1, 0, 0), (.getfield 15, 3, 6, 2), (.iload_n 1, 1, 0, 0), (.iaload, 1, 0, 0), (.iconst (-1), 1, 0, 0), (.iastore, 1, 0, 0), (.iinc 1 1, 3, 0, 0), (.goto (-23), 3, 1, 0)],
   [(.aload_n 0, 1, 0, 0), (.iconst 0, 1, 0, 0), (.putfield 32, 3, 24, 1), (.return_, 1, 0, 0)]],
  [], (2, 0, 0, 6), [], ⟨"Slidingtray$Found", "clear", "()V"⟩, prog_8_method_2_code, none, [])
abbrev jm62p : List Nat := [0, 2, 28]
/-- Slidingtray$Found.enter(J)I -/
def jm63 : jM := (
  [[(.lload_n 1, 1, 0, 0), (.ldc2_w 35, 3, 11400714819323198485, 0), (.lmul, 1, 0, 0), (.bipush 64, 2, 0, 0), (.aload_n 0, 1, 0, 0), (.getfield 28, 3, 6, 4), (.isub, 1, 0, 0), (.lushr, 1, 0, 0), (.l2i, 1, 0, 0), (.istore_n 3, 1, 0, 0), (.iconst 0, 1, 0, 0), (.istore 4, 2, 0, 0), (.nop, 0, 1, 0)],
   [(.iload 4, 2, 0, 0), (.aload_n 0, 1, 0, 0), (.getfield 19, 3, 6, 3), (.arraylength, 1, 0, 0), (.if_icmp .ge 57, 3, 4, 0), (.aload_n 0, 1, 0, 0), (.getfield 19, 3, 6, 3), (.iload_n 3, 1, 0, 0), (.iaload, 1, 0, 0), (.istore 5, 2, 0, 0), (.iload 5, 2, 0, 0), (.iconst (-1), 1, 0, 0), (.if_icmp .ne 10, 3, 2, 0), (.aload_n 0, 1, 0, 0), (.lload_n 1, 1, 0, 0), (.iload_n 3, 1, 0, 0), (.invokevirtual 37, 3, 64, 3), (.ireturn, 1, 0, 0)],
   [(.aload_n 0, 1, 0, 0), (.getfield 9, 3, 6, 0), (.iload 5, 2, 0, 0), (.laload, 1, 0, 0), (.lload_n 1, 1, 0, 0), (.lcmp, 1, 0, 0), (.ifCond .ne 6, 3, 3, 0), (.iload 5, 2, 0, 0), (.ireturn, 1, 0, 0)],
   [(.iload_n 3, 1, 0, 0), (.iconst 1, 1, 0, 0), (.iadd, 1, 0, 0), (.aload_n 0, 1, 0, 0), (.getfield 19, 3, 6, 3), (.arraylength, 1, 0, 0), (.iconst 1, 1, 0, 0), (.isub, 1, 0, 0), (.iand, 1, 0, 0), (.istore_n 3, 1, 0, 0), (.iinc 4 1, 3, 0, 0), (.goto (-61), 3, 1, 0)],
   [(.iconst (-1), 1, 0, 0), (.ireturn, 1, 0, 0)]],
  [], (6, 1, 23, 6), [], ⟨"Slidingtray$Found", "enter", "(J)I"⟩, prog_8_method_3_code, (some .int), [])
abbrev jm63p : List Nat := [0, 18, 49, 64, 82]
/-- Slidingtray$Found.append(JI)I -/
def jm64 : jM := (
  [[(.aload_n 0, 1, 0, 0), (.getfield 32, 3, 6, 1), (.aload_n 0, 1, 0, 0), (.getfield 9, 3, 6, 0), (.arraylength, 1, 0, 0), (.if_icmp .ne 5, 3, 1, 0), (.iconst (-1), 1, 0, 0), (.ireturn, 1, 0, 0)],
   [(.aload_n 0, 1, 0, 0), (.getfield 9, 3, 6, 0), (.aload_n 0, 1, 0, 0), (.getfield 32, 3, 6, 1), (.lload_n 1, 1, 0, 0), (.lastore, 1, 0, 0), (.aload_n 0, 1, 0, 0), (.getfield 15, 3, 6, 2), (.aload_n 0, 1, 0, 0), (.getfield 32, 3, 6, 1), (.iload_n 3, 1, 0, 0), (.iastore, 1, 0, 0), (.aload_n 0, 1, 0, 0), (.getfield 19, 3, 6, 3), (.iload_n 3, 1, 0, 0), (.aload_n 0, 1, 0, 0), (.getfield 32, 3, 6, 1), (.iastore, 1, 0, 0), (.aload_n 0, 1, 0, 0), (.dup, 1, 0, 0), (.getfield 32, 3, 6, 1), (.iconst 1, 1, 0, 0), (.iadd, 1, 0, 0), (.putfield 32, 3, 24, 1), (.aload_n 0, 1, 0, 0), (.getfield 32, 3, 6, 1), (.iconst 1, 1, 0, 0), (.isub, 1, 0, 0), (.ireturn, 1, 0, 0)]],
  [], (4, 0, 0, 6), [], ⟨"Slidingtray$Found", "append", "(JI)I"⟩, prog_8_method_4_code, (some .int), [])
abbrev jm64p : List Nat := [0, 14]
/-- Slidingtray$Lie.<init>()V -/
def jm65 : jM := (
  [[(.aload_n 0, 1, 0, 0), (.invokespecial 3, 3, 0, 778), (.aload_n 0, 1, 0, 0), (.bipush 16, 2, 0, 0), (.newarray .int, 2, 0, 0), (.putfield 9, 3, 31, 0), (.aload_n 0, 1, 0, 0), (.bipush 16, 2, 0, 0), (.newarray .int, 2, 0, 0), (.putfield 15, 3, 31, 1), (.return_, 1, 0, 0)]],
  [], (1, 1, 26, 7), [], ⟨"Slidingtray$Lie", "<init>", "()V"⟩, prog_9_method_1_code, none, [])
abbrev jm65p : List Nat := [0]
/-- Slidingtray$Lie.arrangements(I)J -/
def jm66 : jM := (
  [[(.lconst 1, 1, 0, 0), (.lstore_n 1, 1, 0, 0), (.iconst 2, 1, 0, 0), (.istore_n 3, 1, 0, 0), (.nop, 0, 1, 0)],
   [(.iload_n 3, 1, 0, 0), (.iload_n 0, 1, 0, 0), (.if_icmp .gt 14, 3, 2, 0), (.lload_n 1, 1, 0, 0), (.iload_n 3, 1, 0, 0), (.i2l, 1, 0, 0), (.lmul, 1, 0, 0), (.lstore_n 1, 1, 0, 0), (.iinc 3 1, 3, 0, 0), (.goto (-13), 3, 1, 0)],
   [(.lload_n 1, 1, 0, 0), (.lreturn, 1, 0, 0)]],
  [], (4, 0, 0, 7), [], ⟨"Slidingtray$Lie", "arrangements", "(I)J"⟩, prog_9_method_2_code, (some .long), [])
abbrev jm66p : List Nat := [0, 4, 20]
/-- Slidingtray$Lie.bitsAt(I)I -/
def jm67 : jM := (
  [[(.iconst 4, 1, 0, 0), (.bipush 15, 2, 0, 0), (.iload_n 0, 1, 0, 0), (.isub, 1, 0, 0), (.imul, 1, 0, 0), (.ireturn, 1, 0, 0)]],
  [], (1, 0, 0, 7), [], ⟨"Slidingtray$Lie", "bitsAt", "(I)I"⟩, prog_9_method_3_code, (some .int), [])
abbrev jm67p : List Nat := [0]
/-- Slidingtray$Lie.valueOf(I)I -/
def jm68 : jM := (
  [[(.iload_n 1, 1, 0, 0), (.ifCond .ne 12, 3, 1, 0), (.aload_n 0, 1, 0, 0), (.getfield 18, 3, 7, 2), (.iconst 1, 1, 0, 0), (.isub, 1, 0, 0), (.goto 6, 3, 2, 0)],
   [(.iload_n 1, 1, 0, 0), (.iconst 1, 1, 0, 0), (.isub, 1, 0, 0), (.nop, 0, 2, 0)],
   [(.ireturn, 1, 0, 0)]],
  [], (2, 0, 0, 7), [], ⟨"Slidingtray$Lie", "valueOf", "(I)I"⟩, prog_9_method_4_code, (some .int), [])
abbrev jm68p : List Nat := [0, 13, 16]
/-- Slidingtray$Lie.tileOf(I)I -/
def jm69 : jM := (
  [[(.iload_n 1, 1, 0, 0), (.aload_n 0, 1, 0, 0), (.getfield 18, 3, 7, 2), (.iconst 1, 1, 0, 0), (.isub, 1, 0, 0), (.if_icmp .ne 7, 3, 1, 0), (.iconst 0, 1, 0, 0), (.goto 6, 3, 2, 0)],
   [(.iload_n 1, 1, 0, 0), (.iconst 1, 1, 0, 0), (.iadd, 1, 0, 0), (.nop, 0, 2, 0)],
   [(.ireturn, 1, 0, 0)]],
  [], (2, 0, 0, 7), [], ⟨"Slidingtray$Lie", "tileOf", "(I)I"⟩, prog_9_method_5_code, (some .int), [])
abbrev jm69p : List Nat := [0, 14, 17]
/-- Slidingtray$Lie.order(I)V -/
def jm70 : jM := (
  [[(.aload_n 0, 1, 0, 0), (.iload_n 1, 1, 0, 0), (.putfield 18, 3, 28, 2), (.iconst 0, 1, 0, 0), (.istore_n 2, 1, 0, 0), (.nop, 0, 1, 0)],
   [(.iload_n 2, 1, 0, 0), (.aload_n 0, 1, 0, 0), (.getfield 18, 3, 7, 2), (.if_icmp .ge 19, 3, 2, 0), (.aload_n 0, 1, 0, 0), (.aload_n 0, 1, 0, 0), (.iload_n 2, 1, 0, 0), (.invokevirtual 22, 3, 69, 2), (.iload_n 2, 1, 0, 0), (.invokevirtual 26, 3, 71, 3), (.iinc 2 1, 3, 0, 0), (.goto (-21), 3, 1, 0)],
   [(.aload_n 0, 1, 0, 0), (.invokevirtual 30, 3, 72, 1), (.return_, 1, 0, 0)]],
  [], (3, 2, 42, 7), [], ⟨"Slidingtray$Lie", "order", "(I)V"⟩, prog_9_method_6_code, none, [])
abbrev jm70p : List Nat := [0, 7, 31]
