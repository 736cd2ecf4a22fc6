/-- Slidingtray$Lie.put(II)V -/
def jm71 : jM := (
  [[(.aload_n 0, 1, 0, 0), (.getfield 9, 3, 7, 0), (.iload_n 2, 1, 0, 0), (.iload_n 1, 1, 0, 0), (.iastore, 1, 0, 0), (.aload_n 0, 1, 0, 0), (.getfield 15, 3, 7, 1), (.iload_n 1, 1, 0, 0), (.iload_n 2, 1, 0, 0), (.iastore, 1, 0, 0), (.return_, 1, 0, 0)]],
  [], (3, 0, 0, 7), [], ⟨"Slidingtray$Lie", "put", "(II)V"⟩, prog_9_method_7_code, none, [])
abbrev jm71p : List Nat := [0]
/-- Slidingtray$Lie.pack()V -/
def jm72 : jM := (
  [[(.aload_n 0, 1, 0, 0), (.lconst 0, 1, 0, 0), (.putfield 33, 3, 30, 3), (.iconst 0, 1, 0, 0), (.istore_n 1, 1, 0, 0), (.nop, 0, 1, 0)],
   [(.iload_n 1, 1, 0, 0), (.aload_n 0, 1, 0, 0), (.getfield 18, 3, 7, 2), (.if_icmp .ge 34, 3, 2, 0), (.aload_n 0, 1, 0, 0), (.dup, 1, 0, 0), (.getfield 33, 3, 7, 3), (.aload_n 0, 1, 0, 0), (.aload_n 0, 1, 0, 0), (.getfield 9, 3, 7, 0), (.iload_n 1, 1, 0, 0), (.iaload, 1, 0, 0), (.invokevirtual 37, 3, 68, 2), (.i2l, 1, 0, 0), (.iload_n 1, 1, 0, 0), (.invokestatic 40, 3, 67, 1), (.lshl, 1, 0, 0), (.lor, 1, 0, 0), (.putfield 33, 3, 30, 3), (.iinc 1 1, 3, 0, 0), (.goto (-36), 3, 1, 0)],
   [(.return_, 1, 0, 0)]],
  [], (2, 1, 21, 7), [], ⟨"Slidingtray$Lie", "pack", "()V"⟩, prog_9_method_8_code, none, [])
abbrev jm72p : List Nat := [0, 7, 46]
/-- Slidingtray$Lie.unpack(JI)V -/
def jm73 : jM := (
  [[(.aload_n 0, 1, 0, 0), (.iload_n 3, 1, 0, 0), (.putfield 18, 3, 28, 2), (.aload_n 0, 1, 0, 0), (.lload_n 1, 1, 0, 0), (.putfield 33, 3, 30, 3), (.iconst 0, 1, 0, 0), (.istore 4, 2, 0, 0), (.nop, 0, 1, 0)],
   [(.iload 4, 2, 0, 0), (.aload_n 0, 1, 0, 0), (.getfield 18, 3, 7, 2), (.if_icmp .ge 30, 3, 2, 0), (.aload_n 0, 1, 0, 0), (.aload_n 0, 1, 0, 0), (.lload_n 1, 1, 0, 0), (.iload 4, 2, 0, 0), (.invokestatic 40, 3, 67, 1), (.lushr, 1, 0, 0), (.l2i, 1, 0, 0), (.bipush 15, 2, 0, 0), (.iand, 1, 0, 0), (.invokevirtual 22, 3, 69, 2), (.iload 4, 2, 0, 0), (.invokevirtual 26, 3, 71, 3), (.iinc 4 1, 3, 0, 0), (.goto (-33), 3, 1, 0)],
   [(.return_, 1, 0, 0)]],
  [], (5, 1, 22, 7), [], ⟨"Slidingtray$Lie", "unpack", "(JI)V"⟩, prog_9_method_9_code, none, [])
abbrev jm73p : List Nat := [0, 13, 49]
/-- Slidingtray$Lie.copy(LSlidingtray$Lie;)V -/
def jm74 : jM := (
  [[(.aload_n 0, 1, 0, 0), (.aload_n 1, 1, 0, 0), (.getfield 18, 3, 7, 2), (.putfield 18, 3, 28, 2), (.aload_n 0, 1, 0, 0), (.aload_n 1, 1, 0, 0), (.getfield 33, 3, 7, 3), (.putfield 33, 3, 30, 3), (.aload_n 1, 1, 0, 0), (.getfield 9, 3, 7, 0), (.iconst 0, 1, 0, 0), (.aload_n 0, 1, 0, 0), (.getfield 9, 3, 7, 0), (.iconst 0, 1, 0, 0), (.bipush 16, 2, 0, 0), (.invokestatic 43, 3, 0, 777), (.aload_n 1, 1, 0, 0), (.getfield 15, 3, 7, 1), (.iconst 0, 1, 0, 0), (.aload_n 0, 1, 0, 0), (.getfield 15, 3, 7, 1), (.iconst 0, 1, 0, 0), (.bipush 16, 2, 0, 0), (.invokestatic 43, 3, 0, 777), (.return_, 1, 0, 0)]],
  [], (2, 1, 26, 7), [], ⟨"Slidingtray$Lie", "copy", "(LSlidingtray$Lie;)V"⟩, prog_9_method_10_code, none, [])
abbrev jm74p : List Nat := [0]
/-- Slidingtray$Lie.isSame(LSlidingtray$Lie;)Z -/
def jm75 : jM := (
  [[(.aload_n 0, 1, 0, 0), (.getfield 18, 3, 7, 2), (.aload_n 1, 1, 0, 0), (.getfield 18, 3, 7, 2), (.if_icmp .ne 15, 3, 1, 0), (.aload_n 0, 1, 0, 0), (.getfield 33, 3, 7, 3), (.aload_n 1, 1, 0, 0), (.getfield 33, 3, 7, 3), (.lcmp, 1, 0, 0), (.ifCond .eq 5, 3, 2, 0), (.nop, 0, 1, 0)],
   [(.iconst 0, 1, 0, 0), (.ireturn, 1, 0, 0)],
   [(.iconst 0, 1, 0, 0), (.istore_n 2, 1, 0, 0), (.nop, 0, 3, 0)],
   [(.iload_n 2, 1, 0, 0), (.aload_n 0, 1, 0, 0), (.getfield 18, 3, 7, 2), (.if_icmp .ge 43, 3, 6, 0), (.aload_n 0, 1, 0, 0), (.getfield 9, 3, 7, 0), (.iload_n 2, 1, 0, 0), (.iaload, 1, 0, 0), (.istore_n 3, 1, 0, 0), (.iload_n 3, 1, 0, 0), (.aload_n 1, 1, 0, 0), (.getfield 9, 3, 7, 0), (.iload_n 2, 1, 0, 0), (.iaload, 1, 0, 0), (.if_icmp .ne 18, 3, 4, 0), (.aload_n 0, 1, 0, 0), (.getfield 15, 3, 7, 1), (.iload_n 3, 1, 0, 0), (.iaload, 1, 0, 0), (.aload_n 1, 1, 0, 0), (.getfield 15, 3, 7, 1), (.iload_n 3, 1, 0, 0), (.iaload, 1, 0, 0), (.if_icmp .eq 5, 3, 5, 0), (.nop, 0, 4, 0)],
   [(.iconst 0, 1, 0, 0), (.ireturn, 1, 0, 0)],
   [(.iinc 2 1, 3, 0, 0), (.goto (-45), 3, 3, 0)],
   [(.iconst 1, 1, 0, 0), (.ireturn, 1, 0, 0)]],
  [], (4, 0, 0, 7), [], ⟨"Slidingtray$Lie", "isSame", "(LSlidingtray$Lie;)Z"⟩, prog_9_method_11_code, (some .boolean), [])
abbrev jm75p : List Nat := [0, 23, 25, 27, 67, 69, 75]
/-- Slidingtray$Lie.shift(LSlidingtray$Board;I)I -/
def jm76 : jM := (
  [[(.aload_n 0, 1, 0, 0), (.getfield 15, 3, 7, 1), (.iconst 0, 1, 0, 0), (.iaload, 1, 0, 0), (.istore_n 3, 1, 0, 0), (.aload_n 1, 1, 0, 0), (.iload_n 3, 1, 0, 0), (.iload_n 2, 1, 0, 0), (.invokevirtual 49, 3, 48, 3), (.istore 4, 2, 0, 0), (.iload 4, 2, 0, 0), (.iconst (-1), 1, 0, 0), (.if_icmp .ne 5, 3, 1, 0), (.iconst 0, 1, 0, 0), (.ireturn, 1, 0, 0)],
   [(.aload_n 0, 1, 0, 0), (.getfield 9, 3, 7, 0), (.iload 4, 2, 0, 0), (.iaload, 1, 0, 0), (.istore 5, 2, 0, 0), (.aload_n 0, 1, 0, 0), (.iload 5, 2, 0, 0), (.iload_n 3, 1, 0, 0), (.invokevirtual 26, 3, 71, 3), (.aload_n 0, 1, 0, 0), (.iconst 0, 1, 0, 0), (.iload 4, 2, 0, 0), (.invokevirtual 26, 3, 71, 3), (.aload_n 0, 1, 0, 0), (.iload 5, 2, 0, 0), (.invokevirtual 37, 3, 68, 2), (.aload_n 0, 1, 0, 0), (.iconst 0, 1, 0, 0), (.invokevirtual 37, 3, 68, 2), (.ixor, 1, 0, 0), (.i2l, 1, 0, 0), (.lstore 6, 2, 0, 0), (.aload_n 0, 1, 0, 0), (.dup, 1, 0, 0), (.getfield 33, 3, 7, 3), (.lload 6, 2, 0, 0), (.iload_n 3, 1, 0, 0), (.invokestatic 40, 3, 67, 1), (.lshl, 1, 0, 0), (.lload 6, 2, 0, 0), (.iload 4, 2, 0, 0), (.invokestatic 40, 3, 67, 1), (.lshl, 1, 0, 0), (.lxor, 1, 0, 0), (.lxor, 1, 0, 0), (.putfield 33, 3, 30, 3), (.iload 5, 2, 0, 0), (.ireturn, 1, 0, 0)]],
  [], (8, 1, 22, 7), [], ⟨"Slidingtray$Lie", "shift", "(LSlidingtray$Board;I)I"⟩, prog_9_method_12_code, (some .int), [])
abbrev jm76p : List Nat := [0, 23]
/-- Slidingtray$Lie.toRank()J -/
def jm77 : jM := (
  [[(.lconst 0, 1, 0, 0), (.lstore_n 1, 1, 0, 0), (.iconst 1, 1, 0, 0), (.aload_n 0, 1, 0, 0), (.getfield 18, 3, 7, 2), (.ishl, 1, 0, 0), (.iconst 1, 1, 0, 0), (.isub, 1, 0, 0), (.istore_n 3, 1, 0, 0), (.iconst 0, 1, 0, 0), (.istore 4, 2, 0, 0), (.nop, 0, 1, 0)],
   [(.iload 4, 2, 0, 0), (.aload_n 0, 1, 0, 0), (.getfield 18, 3, 7, 2), (.if_icmp .ge 53, 3, 2, 0), (.iconst 1, 1, 0, 0), (.aload_n 0, 1, 0, 0), (.aload_n 0, 1, 0, 0), (.getfield 9, 3, 7, 0), (.iload 4, 2, 0, 0), (.iaload, 1, 0, 0), (.invokevirtual 37, 3, 68, 2), (.ishl, 1, 0, 0), (.istore 5, 2, 0, 0), (.iload_n 3, 1, 0, 0), (.iload 5, 2, 0, 0), (.iconst (-1), 1, 0, 0), (.ixor, 1, 0, 0), (.iand, 1, 0, 0), (.istore_n 3, 1, 0, 0), (.lload_n 1, 1, 0, 0), (.aload_n 0, 1, 0, 0), (.getfield 18, 3, 7, 2), (.iload 4, 2, 0, 0), (.isub, 1, 0, 0), (.i2l, 1, 0, 0), (.lmul, 1, 0, 0), (.iload_n 3, 1, 0, 0), (.iload 5, 2, 0, 0), (.iconst 1, 1, 0, 0), (.isub, 1, 0, 0), (.iand, 1, 0, 0), (.invokestatic 55, 3, 0, 1), (.i2l, 1, 0, 0), (.ladd, 1, 0, 0), (.lstore_n 1, 1, 0, 0), (.iinc 4 1, 3, 0, 0), (.goto (-56), 3, 1, 0)],
   [(.lload_n 1, 1, 0, 0), (.lreturn, 1, 0, 0)]],
  [], (6, 1, 21, 7), [], ⟨"Slidingtray$Lie", "toRank", "()J"⟩, prog_9_method_13_code, (some .long), [])
abbrev jm77p : List Nat := [0, 14, 73]
/-- Slidingtray$Lie.fromRank(JI)V -/
def jm78 : jM := (
  [[(.aload_n 0, 1, 0, 0), (.iload_n 3, 1, 0, 0), (.putfield 18, 3, 28, 2), (.lload_n 1, 1, 0, 0), (.lstore 4, 2, 0, 0), (.aload_n 0, 1, 0, 0), (.getfield 18, 3, 7, 2), (.iconst 1, 1, 0, 0), (.isub, 1, 0, 0), (.istore 6, 2, 0, 0), (.nop, 0, 1, 0)],
   [(.iload 6, 2, 0, 0), (.ifCond .lt 40, 3, 2, 0), (.aload_n 0, 1, 0, 0), (.getfield 18, 3, 7, 2), (.iload 6, 2, 0, 0), (.isub, 1, 0, 0), (.istore 7, 2, 0, 0), (.aload_n 0, 1, 0, 0), (.getfield 9, 3, 7, 0), (.iload 6, 2, 0, 0), (.lload 4, 2, 0, 0), (.iload 7, 2, 0, 0), (.i2l, 1, 0, 0), (.lrem, 1, 0, 0), (.l2i, 1, 0, 0), (.iastore, 1, 0, 0), (.lload 4, 2, 0, 0), (.iload 7, 2, 0, 0), (.i2l, 1, 0, 0), (.ldiv, 1, 0, 0), (.lstore 4, 2, 0, 0), (.iinc 6 (-1), 3, 0, 0), (.goto (-39), 3, 1, 0)],
   [(.iconst 1, 1, 0, 0), (.aload_n 0, 1, 0, 0), (.getfield 18, 3, 7, 2), (.ishl, 1, 0, 0), (.iconst 1, 1, 0, 0), (.isub, 1, 0, 0), (.istore 6, 2, 0, 0), (.iconst 0, 1, 0, 0), (.istore 7, 2, 0, 0), (.nop, 0, 3, 0)],
   [(.iload 7, 2, 0, 0), (.aload_n 0, 1, 0, 0), (.getfield 18, 3, 7, 2), (.if_icmp .ge 49, 3, 4, 0), (.iload 6, 2, 0, 0), (.aload_n 0, 1, 0, 0), (.getfield 9, 3, 7, 0), (.iload 7, 2, 0, 0), (.iaload, 1, 0, 0), (.invokestatic 60, 3, 79, 2), (.istore 8, 2, 0, 0), (.iload 6, 2, 0, 0), (.iload 8, 2, 0, 0), (.iconst (-1), 1, 0, 0), (.ixor, 1, 0, 0), (.iand, 1, 0, 0), (.istore 6, 2, 0, 0), (.aload_n 0, 1, 0, 0), (.aload_n 0, 1, 0, 0), (.iload 8, 2, 0, 0), (.iconst 1, 1, 0, 0), (.isub, 1, 0, 0), (.invokestatic 55, 3, 0, 1), (.invokevirtual 22, 3, 69, 2), (.iload 7, 2, 0, 0), (.invokevirtual 26, 3, 71, 3), (.iinc 7 1, 3, 0, 0), (.goto (-52), 3, 3, 0)],
   [(.aload_n 0, 1, 0, 0), (.invokevirtual 30, 3, 72, 1), (.return_, 1, 0, 0)]],
  [], (9, 2, 42, 7), [], ⟨"Slidingtray$Lie", "fromRank", "(JI)V"⟩, prog_9_method_14_code, none, [])
abbrev jm78p : List Nat := [0, 16, 58, 71, 126]
/-- Slidingtray$Lie.bitWithIndex(II)I -/
def jm79 : jM := (
  [[(.iload_n 0, 1, 0, 0), (.istore_n 2, 1, 0, 0), (.iconst 0, 1, 0, 0), (.istore_n 3, 1, 0, 0), (.nop, 0, 1, 0)],
   [(.iload_n 3, 1, 0, 0), (.iload_n 1, 1, 0, 0), (.if_icmp .ge 15, 3, 2, 0), (.iload_n 2, 1, 0, 0), (.iload_n 2, 1, 0, 0), (.iconst 1, 1, 0, 0), (.isub, 1, 0, 0), (.iand, 1, 0, 0), (.istore_n 2, 1, 0, 0), (.iinc 3 1, 3, 0, 0), (.goto (-14), 3, 1, 0)],
   [(.iload_n 2, 1, 0, 0), (.iload_n 2, 1, 0, 0), (.ineg, 1, 0, 0), (.iand, 1, 0, 0), (.ireturn, 1, 0, 0)]],
  [], (4, 0, 0, 7), [], ⟨"Slidingtray$Lie", "bitWithIndex", "(II)I"⟩, prog_9_method_15_code, (some .int), [])
abbrev jm79p : List Nat := [0, 4, 21]
/-- Slidingtray$Lie.disorder()I -/
def jm80 : jM := (
  [[(.iconst 0, 1, 0, 0), (.istore_n 1, 1, 0, 0), (.iconst 0, 1, 0, 0), (.istore_n 2, 1, 0, 0), (.iconst 0, 1, 0, 0), (.istore_n 3, 1, 0, 0), (.nop, 0, 1, 0)],
   [(.iload_n 3, 1, 0, 0), (.aload_n 0, 1, 0, 0), (.getfield 18, 3, 7, 2), (.if_icmp .ge 38, 3, 2, 0), (.aload_n 0, 1, 0, 0), (.aload_n 0, 1, 0, 0), (.getfield 9, 3, 7, 0), (.iload_n 3, 1, 0, 0), (.iaload, 1, 0, 0), (.invokevirtual 37, 3, 68, 2), (.istore 4, 2, 0, 0), (.iload_n 1, 1, 0, 0), (.iload_n 2, 1, 0, 0), (.iload 4, 2, 0, 0), (.iushr, 1, 0, 0), (.invokestatic 55, 3, 0, 1), (.iadd, 1, 0, 0), (.istore_n 1, 1, 0, 0), (.iload_n 2, 1, 0, 0), (.iconst 1, 1, 0, 0), (.iload 4, 2, 0, 0), (.ishl, 1, 0, 0), (.ior, 1, 0, 0), (.istore_n 2, 1, 0, 0), (.iinc 3 1, 3, 0, 0), (.goto (-40), 3, 1, 0)],
   [(.iload_n 1, 1, 0, 0), (.ireturn, 1, 0, 0)]],
  [], (5, 1, 21, 7), [], ⟨"Slidingtray$Lie", "disorder", "()I"⟩, prog_9_method_16_code, (some .int), [])
abbrev jm80p : List Nat := [0, 6, 49]
/-- Slidingtray$Part.<init>()V -/
def jm81 : jM := (
  [[(.aload_n 0, 1, 0, 0), (.invokespecial 3, 3, 0, 778), (.aload_n 0, 1, 0, 0), (.iconst 3, 1, 0, 0), (.newarray .int, 2, 0, 0), (.putfield 9, 3, 35, 4), (.aload_n 0, 1, 0, 0), (.sipush 6561, 3, 0, 0), (.newarray .int, 2, 0, 0), (.putfield 15, 3, 35, 5), (.aload_n 0, 1, 0, 0), (.iconst 3, 1, 0, 0), (.newarray .int, 2, 0, 0), (.putfield 18, 3, 35, 6), (.return_, 1, 0, 0)]],
  [], (1, 1, 26, 8), [], ⟨"Slidingtray$Part", "<init>", "()V"⟩, prog_10_method_1_code, none, [])
abbrev jm81p : List Nat := [0]
/-- Slidingtray$Part.choose(II)V -/
def jm82 : jM := (
  [[(.aload_n 0, 1, 0, 0), (.iload_n 1, 1, 0, 0), (.putfield 21, 3, 32, 0), (.aload_n 0, 1, 0, 0), (.iload_n 2, 1, 0, 0), (.putfield 25, 3, 32, 1), (.aload_n 0, 1, 0, 0), (.iconst 0, 1, 0, 0), (.putfield 28, 3, 32, 3), (.aload_n 0, 1, 0, 0), (.bipush 9, 2, 0, 0), (.putfield 31, 3, 32, 2), (.iconst 1, 1, 0, 0), (.istore_n 3, 1, 0, 0), (.nop, 0, 1, 0)],
   [(.iload_n 3, 1, 0, 0), (.iload_n 2, 1, 0, 0), (.if_icmp .ge 59, 3, 4, 0), (.aload_n 0, 1, 0, 0), (.getfield 28, 3, 8, 3), (.iconst 3, 1, 0, 0), (.if_icmp .ge 51, 3, 4, 0), (.iload_n 1, 1, 0, 0), (.iload_n 3, 1, 0, 0), (.ishr, 1, 0, 0), (.iconst 1, 1, 0, 0), (.iand, 1, 0, 0), (.ifCond .ne 6, 3, 2, 0), (.goto 34, 3, 3, 0)],
   [(.aload_n 0, 1, 0, 0), (.getfield 9, 3, 8, 4), (.aload_n 0, 1, 0, 0), (.getfield 28, 3, 8, 3), (.iload_n 3, 1, 0, 0), (.iastore, 1, 0, 0), (.aload_n 0, 1, 0, 0), (.dup, 1, 0, 0), (.getfield 28, 3, 8, 3), (.iconst 1, 1, 0, 0), (.iadd, 1, 0, 0), (.putfield 28, 3, 32, 3), (.aload_n 0, 1, 0, 0), (.dup, 1, 0, 0), (.getfield 31, 3, 8, 2), (.bipush 9, 2, 0, 0), (.imul, 1, 0, 0), (.putfield 31, 3, 32, 2), (.nop, 0, 3, 0)],
   [(.iinc 3 1, 3, 0, 0), (.goto (-58), 3, 1, 0)],
   [(.return_, 1, 0, 0)]],
  [], (4, 0, 0, 8), [], ⟨"Slidingtray$Part", "choose", "(II)V"⟩, prog_10_method_2_code, none, [])
abbrev jm82p : List Nat := [0, 23, 47, 78, 84]
/-- Slidingtray$Part.costOf(LSlidingtray$Lie;)I -/
def jm83 : jM := (
  [[(.aload_n 1, 1, 0, 0), (.getfield 34, 3, 7, 1), (.iconst 0, 1, 0, 0), (.iaload, 1, 0, 0), (.istore_n 2, 1, 0, 0), (.iconst 0, 1, 0, 0), (.istore_n 3, 1, 0, 0), (.nop, 0, 1, 0)],
   [(.iload_n 3, 1, 0, 0), (.aload_n 0, 1, 0, 0), (.getfield 28, 3, 8, 3), (.if_icmp .ge 26, 3, 2, 0), (.iload_n 2, 1, 0, 0), (.bipush 9, 2, 0, 0), (.imul, 1, 0, 0), (.aload_n 1, 1, 0, 0), (.getfield 34, 3, 7, 1), (.aload_n 0, 1, 0, 0), (.getfield 9, 3, 8, 4), (.iload_n 3, 1, 0, 0), (.iaload, 1, 0, 0), (.iaload, 1, 0, 0), (.iadd, 1, 0, 0), (.istore_n 2, 1, 0, 0), (.iinc 3 1, 3, 0, 0), (.goto (-28), 3, 1, 0)],
   [(.aload_n 0, 1, 0, 0), (.getfield 15, 3, 8, 5), (.iload_n 2, 1, 0, 0), (.iaload, 1, 0, 0), (.iconst (-1), 1, 0, 0), (.if_icmp .ne 7, 3, 3, 0), (.iconst 0, 1, 0, 0), (.goto 9, 3, 4, 0)],
   [(.aload_n 0, 1, 0, 0), (.getfield 15, 3, 8, 5), (.iload_n 2, 1, 0, 0), (.iaload, 1, 0, 0), (.nop, 0, 4, 0)],
   [(.ireturn, 1, 0, 0)]],
  [], (4, 0, 0, 8), [], ⟨"Slidingtray$Part", "costOf", "(LSlidingtray$Lie;)I"⟩, prog_10_method_3_code, (some .int), [])
abbrev jm83p : List Nat := [0, 9, 40, 54, 60]
/-- Slidingtray$Part.fill(LSlidingtray$Board;LSlidingtray$Aim;LSlidingtray$Agenda;)I -/
def jm84 : jM := (
  [[(.aload_n 0, 1, 0, 0), (.getfield 15, 3, 8, 5), (.iconst (-1), 1, 0, 0), (.invokestatic 39, 3, 1, 2), (.aload_n 3, 1, 0, 0), (.invokevirtual 45, 3, 3, 1), (.iconst 0, 1, 0, 0), (.istore 4, 2, 0, 0), (.nop, 0, 1, 0)],
   [(.iload 4, 2, 0, 0), (.aload_n 0, 1, 0, 0), (.getfield 25, 3, 8, 1), (.if_icmp .ge 34, 3, 4, 0), (.aload_n 0, 1, 0, 0), (.aload_n 2, 1, 0, 0), (.iload 4, 2, 0, 0), (.invokevirtual 50, 3, 85, 3), (.ifCond .ne 6, 3, 2, 0), (.goto 15, 3, 3, 0)],
   [(.aload_n 0, 1, 0, 0), (.aload_n 3, 1, 0, 0), (.aload_n 0, 1, 0, 0), (.iload 4, 2, 0, 0), (.invokevirtual 54, 3, 86, 2), (.iconst 0, 1, 0, 0), (.invokevirtual 58, 3, 90, 4), (.nop, 0, 3, 0)],
   [(.iinc 4 1, 3, 0, 0), (.goto (-37), 3, 1, 0)],
   [(.iconst 0, 1, 0, 0), (.istore 4, 2, 0, 0), (.nop, 0, 5, 0)],
   [(.iload 4, 2, 0, 0), (.aload_n 0, 1, 0, 0), (.getfield 31, 3, 8, 2), (.if_icmp .ge 33, 3, 7, 0), (.aload_n 3, 1, 0, 0), (.invokevirtual 62, 3, 5, 1), (.istore 5, 2, 0, 0), (.iload 5, 2, 0, 0), (.iconst (-1), 1, 0, 0), (.if_icmp .ne 6, 3, 6, 0), (.iload 4, 2, 0, 0), (.ireturn, 1, 0, 0)],
   [(.aload_n 0, 1, 0, 0), (.aload_n 1, 1, 0, 0), (.aload_n 2, 1, 0, 0), (.aload_n 3, 1, 0, 0), (.iload 5, 2, 0, 0), (.invokevirtual 66, 3, 88, 5), (.iinc 4 1, 3, 0, 0), (.goto (-36), 3, 5, 0)],
   [(.aload_n 0, 1, 0, 0), (.getfield 31, 3, 8, 2), (.ireturn, 1, 0, 0)]],
  [], (6, 4, 99, 8), [], ⟨"Slidingtray$Part", "fill", "(LSlidingtray$Board;LSlidingtray$Aim;LSlidingtray$Agenda;)I"⟩, prog_10_method_4_code, (some .int), [])
abbrev jm84p : List Nat := [0, 15, 37, 49, 55, 58, 82, 97]
/-- Slidingtray$Part.sendHome(LSlidingtray$Aim;I)Z -/
def jm85 : jM := (
  [[(.iconst 0, 1, 0, 0), (.istore_n 3, 1, 0, 0), (.nop, 0, 1, 0)],
   [(.iload_n 3, 1, 0, 0), (.aload_n 0, 1, 0, 0), (.getfield 28, 3, 8, 3), (.if_icmp .ge 38, 3, 3, 0), (.aload_n 0, 1, 0, 0), (.getfield 18, 3, 8, 6), (.iload_n 3, 1, 0, 0), (.aload_n 1, 1, 0, 0), (.getfield 70, 3, 1, 0), (.aload_n 0, 1, 0, 0), (.getfield 9, 3, 8, 4), (.iload_n 3, 1, 0, 0), (.iaload, 1, 0, 0), (.iaload, 1, 0, 0), (.iastore, 1, 0, 0), (.aload_n 0, 1, 0, 0), (.getfield 18, 3, 8, 6), (.iload_n 3, 1, 0, 0), (.iaload, 1, 0, 0), (.iload_n 2, 1, 0, 0), (.if_icmp .ne 5, 3, 2, 0), (.iconst 0, 1, 0, 0), (.ireturn, 1, 0, 0)],
   [(.iinc 3 1, 3, 0, 0), (.goto (-40), 3, 1, 0)],
   [(.iconst 1, 1, 0, 0), (.ireturn, 1, 0, 0)]],
  [], (4, 0, 0, 8), [], ⟨"Slidingtray$Part", "sendHome", "(LSlidingtray$Aim;I)Z"⟩, prog_10_method_5_code, (some .boolean), [])
abbrev jm85p : List Nat := [0, 2, 39, 45]
/-- Slidingtray$Part.entryFor(I)I -/
def jm86 : jM := (
  [[(.iload_n 1, 1, 0, 0), (.istore_n 2, 1, 0, 0), (.iconst 0, 1, 0, 0), (.istore_n 3, 1, 0, 0), (.nop, 0, 1, 0)],
   [(.iload_n 3, 1, 0, 0), (.aload_n 0, 1, 0, 0), (.getfield 28, 3, 8, 3), (.if_icmp .ge 21, 3, 2, 0), (.iload_n 2, 1, 0, 0), (.bipush 9, 2, 0, 0), (.imul, 1, 0, 0), (.aload_n 0, 1, 0, 0), (.getfield 18, 3, 8, 6), (.iload_n 3, 1, 0, 0), (.iaload, 1, 0, 0), (.iadd, 1, 0, 0), (.istore_n 2, 1, 0, 0), (.iinc 3 1, 3, 0, 0), (.goto (-23), 3, 1, 0)],
   [(.iload_n 2, 1, 0, 0), (.ireturn, 1, 0, 0)]],
  [], (4, 0, 0, 8), [], ⟨"Slidingtray$Part", "entryFor", "(I)I"⟩, prog_10_method_6_code, (some .int), [])
abbrev jm86p : List Nat := [0, 4, 30]
/-- Slidingtray$Part.openEntry(I)I -/
def jm87 : jM := (
  [[(.iload_n 1, 1, 0, 0), (.istore_n 2, 1, 0, 0), (.aload_n 0, 1, 0, 0), (.getfield 28, 3, 8, 3), (.iconst 1, 1, 0, 0), (.isub, 1, 0, 0), (.istore_n 3, 1, 0, 0), (.nop, 0, 1, 0)],
   [(.iload_n 3, 1, 0, 0), (.ifCond .lt 24, 3, 2, 0), (.aload_n 0, 1, 0, 0), (.getfield 18, 3, 8, 6), (.iload_n 3, 1, 0, 0), (.iload_n 2, 1, 0, 0), (.bipush 9, 2, 0, 0), (.irem, 1, 0, 0), (.iastore, 1, 0, 0), (.iload_n 2, 1, 0, 0), (.bipush 9, 2, 0, 0), (.idiv, 1, 0, 0), (.istore_n 2, 1, 0, 0), (.iinc 3 (-1), 3, 0, 0), (.goto (-22), 3, 1, 0)],
   [(.iload_n 2, 1, 0, 0), (.ireturn, 1, 0, 0)]],
  [], (4, 0, 0, 8), [], ⟨"Slidingtray$Part", "openEntry", "(I)I"⟩, prog_10_method_7_code, (some .int), [])
abbrev jm87p : List Nat := [0, 9, 34]
/-- Slidingtray$Part.spread(LSlidingtray$Board;LSlidingtray$Aim;LSlidingtray$Agenda;I)V -/
def jm88 : jM := (
  [[(.aload_n 0, 1, 0, 0), (.iload 4, 2, 0, 0), (.invokevirtual 75, 3, 87, 2), (.istore 5, 2, 0, 0), (.iconst 0, 1, 0, 0), (.istore 6, 2, 0, 0), (.nop, 0, 1, 0)],
   [(.iload 6, 2, 0, 0), (.iconst 3, 1, 0, 0), (.if_icmp .gt 112, 3, 5, 0), (.aload_n 1, 1, 0, 0), (.iload 5, 2, 0, 0), (.iload 6, 2, 0, 0), (.invokevirtual 78, 3, 48, 3), (.istore 7, 2, 0, 0), (.iload 7, 2, 0, 0), (.iconst (-1), 1, 0, 0), (.if_icmp .ne 6, 3, 2, 0), (.goto 87, 3, 4, 0)],
   [(.aload_n 0, 1, 0, 0), (.iload 7, 2, 0, 0), (.invokevirtual 84, 3, 89, 2), (.istore 8, 2, 0, 0), (.iload 8, 2, 0, 0), (.iconst (-1), 1, 0, 0), (.if_icmp .ne 24, 3, 3, 0), (.aload_n 0, 1, 0, 0), (.aload_n 3, 1, 0, 0), (.aload_n 0, 1, 0, 0), (.iload 7, 2, 0, 0), (.invokevirtual 54, 3, 86, 2), (.aload_n 0, 1, 0, 0), (.getfield 15, 3, 8, 5), (.iload 4, 2, 0, 0), (.iaload, 1, 0, 0), (.invokevirtual 58, 3, 90, 4), (.goto 52, 3, 4, 0)],
   [(.aload_n 0, 1, 0, 0), (.getfield 18, 3, 8, 6), (.iload 8, 2, 0, 0), (.iload 5, 2, 0, 0), (.iastore, 1, 0, 0), (.aload_n 0, 1, 0, 0), (.aload_n 3, 1, 0, 0), (.aload_n 0, 1, 0, 0), (.iload 7, 2, 0, 0), (.invokevirtual 54, 3, 86, 2), (.aload_n 0, 1, 0, 0), (.getfield 15, 3, 8, 5), (.iload 4, 2, 0, 0), (.iaload, 1, 0, 0), (.aload_n 2, 1, 0, 0), (.getfield 87, 3, 1, 1), (.aload_n 0, 1, 0, 0), (.getfield 9, 3, 8, 4), (.iload 8, 2, 0, 0), (.iaload, 1, 0, 0), (.iaload, 1, 0, 0), (.iadd, 1, 0, 0), (.invokevirtual 58, 3, 90, 4), (.aload_n 0, 1, 0, 0), (.getfield 18, 3, 8, 6), (.iload 8, 2, 0, 0), (.iload 7, 2, 0, 0), (.iastore, 1, 0, 0), (.nop, 0, 4, 0)],
   [(.iinc 6 1, 3, 0, 0), (.goto (-112), 3, 1, 0)],
   [(.return_, 1, 0, 0)]],
  [], (9, 3, 71, 8), [], ⟨"Slidingtray$Part", "spread", "(LSlidingtray$Board;LSlidingtray$Aim;LSlidingtray$Agenda;I)V"⟩, prog_10_method_8_code, none, [])
abbrev jm88p : List Nat := [0, 11, 36, 71, 120, 126]
/-- Slidingtray$Part.indexOn(I)I -/
def jm89 : jM := (
  [[(.iconst 0, 1, 0, 0), (.istore_n 2, 1, 0, 0), (.nop, 0, 1, 0)],
   [(.iload_n 2, 1, 0, 0), (.aload_n 0, 1, 0, 0), (.getfield 28, 3, 8, 3), (.if_icmp .ge 21, 3, 3, 0), (.aload_n 0, 1, 0, 0), (.getfield 18, 3, 8, 6), (.iload_n 2, 1, 0, 0), (.iaload, 1, 0, 0), (.iload_n 1, 1, 0, 0), (.if_icmp .ne 5, 3, 2, 0), (.iload_n 2, 1, 0, 0), (.ireturn, 1, 0, 0)],
   [(.iinc 2 1, 3, 0, 0), (.goto (-23), 3, 1, 0)],
   [(.iconst (-1), 1, 0, 0), (.ireturn, 1, 0, 0)]],
  [], (3, 0, 0, 8), [], ⟨"Slidingtray$Part", "indexOn", "(I)I"⟩, prog_10_method_9_code, (some .int), [])
abbrev jm89p : List Nat := [0, 2, 22, 28]
/-- Slidingtray$Part.offer(LSlidingtray$Agenda;II)V -/
def jm90 : jM := (
  [[(.aload_n 0, 1, 0, 0), (.getfield 15, 3, 8, 5), (.iload_n 2, 1, 0, 0), (.iaload, 1, 0, 0), (.iconst (-1), 1, 0, 0), (.if_icmp .eq 14, 3, 1, 0), (.aload_n 0, 1, 0, 0), (.getfield 15, 3, 8, 5), (.iload_n 2, 1, 0, 0), (.iaload, 1, 0, 0), (.iload_n 3, 1, 0, 0), (.if_icmp .gt 4, 3, 1, 0), (.return_, 1, 0, 0)],
   [(.aload_n 0, 1, 0, 0), (.getfield 15, 3, 8, 5), (.iload_n 2, 1, 0, 0), (.iload_n 3, 1, 0, 0), (.iastore, 1, 0, 0), (.aload_n 1, 1, 0, 0), (.iload_n 2, 1, 0, 0), (.iload_n 3, 1, 0, 0), (.i2l, 1, 0, 0), (.iload_n 2, 1, 0, 0), (.i2l, 1, 0, 0), (.invokevirtual 90, 3, 4, 4), (.return_, 1, 0, 0)]],
  [], (4, 2, 48, 8), [], ⟨"Slidingtray$Part", "offer", "(LSlidingtray$Agenda;II)V"⟩, prog_10_method_10_code, none, [])
abbrev jm90p : List Nat := [0, 21]
/-- Slidingtray$Puzzle.<init>()V -/
def jm91 : jM := (
  [[(.aload_n 0, 1, 0, 0), (.invokespecial 3, 3, 0, 778), (.aload_n 0, 1, 0, 0), (.new 9, 3, 4, 0), (.dup, 1, 0, 0), (.invokespecial 11, 3, 37, 1), (.putfield 12, 3, 39, 0), (.aload_n 0, 1, 0, 0), (.new 18, 3, 1, 0), (.dup, 1, 0, 0), (.invokespecial 20, 3, 9, 1), (.putfield 21, 3, 39, 1), (.aload_n 0, 1, 0, 0), (.new 25, 3, 0, 0), (.dup, 1, 0, 0), (.sipush 6561, 3, 0, 0), (.invokespecial 27, 3, 2, 2), (.putfield 30, 3, 39, 2), (.aload_n 0, 1, 0, 0), (.iconst 2, 1, 0, 0), (.anewarray 34, 3, 5, 0), (.putfield 36, 3, 39, 3), (.aload_n 0, 1, 0, 0), (.iconst 4, 1, 0, 0), (.newarray .int, 2, 0, 0), (.putfield 40, 3, 39, 5), (.aload_n 0, 1, 0, 0), (.iconst 4, 1, 0, 0), (.newarray .int, 2, 0, 0), (.putfield 44, 3, 39, 6), (.aload_n 0, 1, 0, 0), (.iconst 4, 1, 0, 0), (.newarray .int, 2, 0, 0), (.putfield 47, 3, 39, 7), (.iconst 0, 1, 0, 0), (.istore_n 1, 1, 0, 0), (.nop, 0, 1, 0)],
   [(.iload_n 1, 1, 0, 0), (.iconst 2, 1, 0, 0), (.if_icmp .ge 22, 3, 2, 0), (.aload_n 0, 1, 0, 0), (.getfield 36, 3, 9, 3), (.iload_n 1, 1, 0, 0), (.new 34, 3, 8, 0), (.dup, 1, 0, 0), (.invokespecial 50, 3, 81, 1), (.aastore, 1, 0, 0), (.iinc 1 1, 3, 0, 0), (.goto (-21), 3, 1, 0)],
   [(.return_, 1, 0, 0)]],
  [], (2, 2, 47, 9), [], ⟨"Slidingtray$Puzzle", "<init>", "()V"⟩, prog_11_method_1_code, none, [])
abbrev jm91p : List Nat := [0, 71, 95]
/-- Slidingtray$Puzzle.dropParts()V -/
def jm92 : jM := (
  [[(.aload_n 0, 1, 0, 0), (.iconst 0, 1, 0, 0), (.putfield 51, 3, 36, 4), (.return_, 1, 0, 0)]],
  [], (1, 0, 0, 9), [], ⟨"Slidingtray$Puzzle", "dropParts", "()V"⟩, prog_11_method_2_code, none, [])
abbrev jm92p : List Nat := [0]
/-- Slidingtray$Puzzle.boundTiles()I -/
def jm93 : jM := (
  [[(.iconst 0, 1, 0, 0), (.istore_n 1, 1, 0, 0), (.iconst 1, 1, 0, 0), (.istore_n 2, 1, 0, 0), (.nop, 0, 1, 0)],
   [(.iload_n 2, 1, 0, 0), (.aload_n 0, 1, 0, 0), (.getfield 12, 3, 9, 0), (.getfield 55, 3, 4, 3), (.if_icmp .ge 26, 3, 3, 0), (.aload_n 0, 1, 0, 0), (.getfield 21, 3, 9, 1), (.iload_n 2, 1, 0, 0), (.invokevirtual 58, 3, 14, 2), (.ifCond .ne 9, 3, 2, 0), (.iload_n 1, 1, 0, 0), (.iconst 1, 1, 0, 0), (.iload_n 2, 1, 0, 0), (.ishl, 1, 0, 0), (.ior, 1, 0, 0), (.istore_n 1, 1, 0, 0), (.nop, 0, 2, 0)],
   [(.iinc 2 1, 3, 0, 0), (.goto (-31), 3, 1, 0)],
   [(.iload_n 1, 1, 0, 0), (.ireturn, 1, 0, 0)]],
  [], (3, 1, 21, 9), [], ⟨"Slidingtray$Puzzle", "boundTiles", "()I"⟩, prog_11_method_3_code, (some .int), [])
abbrev jm93p : List Nat := [0, 4, 32, 38]
/-- Slidingtray$Puzzle.hasRoomFor(I)Z -/
def jm94 : jM := (
  [[(.aload_n 0, 1, 0, 0), (.getfield 51, 3, 9, 4), (.iconst 2, 1, 0, 0), (.if_icmp .ge 15, 3, 1, 0), (.aload_n 0, 1, 0, 0), (.getfield 12, 3, 9, 0), (.getfield 55, 3, 4, 3), (.bipush 9, 2, 0, 0), (.if_icmp .le 5, 3, 2, 0), (.nop, 0, 1, 0)],
   [(.iconst 0, 1, 0, 0), (.ireturn, 1, 0, 0)],
   [(.iconst 0, 1, 0, 0), (.istore_n 2, 1, 0, 0), (.nop, 0, 3, 0)],
   [(.iload_n 2, 1, 0, 0), (.aload_n 0, 1, 0, 0), (.getfield 51, 3, 9, 4), (.if_icmp .ge 25, 3, 5, 0), (.aload_n 0, 1, 0, 0), (.getfield 36, 3, 9, 3), (.iload_n 2, 1, 0, 0), (.aaload, 1, 0, 0), (.getfield 62, 3, 8, 0), (.iload_n 1, 1, 0, 0), (.iand, 1, 0, 0), (.ifCond .eq 5, 3, 4, 0), (.iconst 0, 1, 0, 0), (.ireturn, 1, 0, 0)],
   [(.iinc 2 1, 3, 0, 0), (.goto (-27), 3, 3, 0)],
   [(.iconst 1, 1, 0, 0), (.ireturn, 1, 0, 0)]],
  [], (3, 0, 0, 9), [], ⟨"Slidingtray$Puzzle", "hasRoomFor", "(I)Z"⟩, prog_11_method_4_code, (some .boolean), [])
abbrev jm94p : List Nat := [0, 20, 22, 24, 48, 54]
/-- Slidingtray$Puzzle.addPart(I)I -/
def jm95 : jM := (
  [[(.aload_n 0, 1, 0, 0), (.getfield 36, 3, 9, 3), (.aload_n 0, 1, 0, 0), (.getfield 51, 3, 9, 4), (.aaload, 1, 0, 0), (.astore_n 2, 1, 0, 0), (.aload_n 0, 1, 0, 0), (.dup, 1, 0, 0), (.getfield 51, 3, 9, 4), (.iconst 1, 1, 0, 0), (.iadd, 1, 0, 0), (.putfield 51, 3, 36, 4), (.aload_n 2, 1, 0, 0), (.iload_n 1, 1, 0, 0), (.aload_n 0, 1, 0, 0), (.getfield 12, 3, 9, 0), (.getfield 55, 3, 4, 3), (.invokevirtual 65, 3, 82, 3), (.aload_n 2, 1, 0, 0), (.aload_n 0, 1, 0, 0), (.getfield 12, 3, 9, 0), (.aload_n 0, 1, 0, 0), (.getfield 21, 3, 9, 1), (.aload_n 0, 1, 0, 0), (.getfield 30, 3, 9, 2), (.invokevirtual 69, 3, 84, 4), (.ireturn, 1, 0, 0)]],
  [], (3, 5, 124, 9), [], ⟨"Slidingtray$Puzzle", "addPart", "(I)I"⟩, prog_11_method_5_code, (some .int), [])
abbrev jm95p : List Nat := [0]
/-- Slidingtray$Puzzle.guess(LSlidingtray$Lie;I)I -/
def jm96 : jM := (
  [[(.iload_n 2, 1, 0, 0), (.tableswitch 63 1 4 #[31, 37, 43, 57], 31, 0, 0)],
   [(.aload_n 0, 1, 0, 0), (.aload_n 1, 1, 0, 0), (.invokevirtual 73, 3, 97, 2), (.ireturn, 1, 0, 0)],
   [(.aload_n 0, 1, 0, 0), (.aload_n 1, 1, 0, 0), (.invokevirtual 77, 3, 98, 2), (.ireturn, 1, 0, 0)],
   [(.aload_n 0, 1, 0, 0), (.aload_n 1, 1, 0, 0), (.invokevirtual 77, 3, 98, 2), (.iconst 2, 1, 0, 0), (.aload_n 0, 1, 0, 0), (.aload_n 1, 1, 0, 0), (.invokevirtual 80, 3, 100, 2), (.imul, 1, 0, 0), (.iadd, 1, 0, 0), (.ireturn, 1, 0, 0)],
   [(.aload_n 0, 1, 0, 0), (.aload_n 1, 1, 0, 0), (.invokevirtual 83, 3, 99, 2), (.ireturn, 1, 0, 0)],
   [(.iconst 0, 1, 0, 0), (.ireturn, 1, 0, 0)]],
  [[5, 1, 2, 3, 4]], (3, 3, 77, 9), [], ⟨"Slidingtray$Puzzle", "guess", "(LSlidingtray$Lie;I)I"⟩, prog_11_method_6_code, (some .int), [])
abbrev jm96p : List Nat := [0, 32, 38, 44, 58, 64]
/-- Slidingtray$Puzzle.displaced(LSlidingtray$Lie;)I -/
def jm97 : jM := (
  [[(.iconst 0, 1, 0, 0), (.istore_n 2, 1, 0, 0), (.iconst 1, 1, 0, 0), (.istore_n 3, 1, 0, 0), (.nop, 0, 1, 0)],
   [(.iload_n 3, 1, 0, 0), (.aload_n 0, 1, 0, 0), (.getfield 12, 3, 9, 0), (.getfield 55, 3, 4, 3), (.if_icmp .ge 44, 3, 3, 0), (.aload_n 0, 1, 0, 0), (.getfield 21, 3, 9, 1), (.iload_n 3, 1, 0, 0), (.invokevirtual 58, 3, 14, 2), (.ifCond .ne 27, 3, 2, 0), (.aload_n 0, 1, 0, 0), (.getfield 21, 3, 9, 1), (.aload_n 1, 1, 0, 0), (.iload_n 3, 1, 0, 0), (.invokevirtual 86, 3, 17, 3), (.ifCond .ne 15, 3, 2, 0), (.iload_n 2, 1, 0, 0), (.aload_n 0, 1, 0, 0), (.getfield 21, 3, 9, 1), (.getfield 90, 3, 1, 1), (.iload_n 3, 1, 0, 0), (.iaload, 1, 0, 0), (.iadd, 1, 0, 0), (.istore_n 2, 1, 0, 0), (.nop, 0, 2, 0)],
   [(.iinc 3 1, 3, 0, 0), (.goto (-49), 3, 1, 0)],
   [(.iload_n 2, 1, 0, 0), (.ireturn, 1, 0, 0)]],
  [], (4, 1, 22, 9), [], ⟨"Slidingtray$Puzzle", "displaced", "(LSlidingtray$Lie;)I"⟩, prog_11_method_7_code, (some .int), [])
abbrev jm97p : List Nat := [0, 4, 50, 56]
/-- Slidingtray$Puzzle.distances(LSlidingtray$Lie;)I -/
def jm98 : jM := (
  [[(.iconst 0, 1, 0, 0), (.istore_n 2, 1, 0, 0), (.iconst 1, 1, 0, 0), (.istore_n 3, 1, 0, 0), (.nop, 0, 1, 0)],
   [(.iload_n 3, 1, 0, 0), (.aload_n 0, 1, 0, 0), (.getfield 12, 3, 9, 0), (.getfield 55, 3, 4, 3), (.if_icmp .ge 58, 3, 4, 0), (.aload_n 0, 1, 0, 0), (.getfield 21, 3, 9, 1), (.iload_n 3, 1, 0, 0), (.invokevirtual 58, 3, 14, 2), (.ifCond .eq 6, 3, 2, 0), (.goto 38, 3, 3, 0)],
   [(.iload_n 2, 1, 0, 0), (.aload_n 0, 1, 0, 0), (.getfield 21, 3, 9, 1), (.getfield 90, 3, 1, 1), (.iload_n 3, 1, 0, 0), (.iaload, 1, 0, 0), (.aload_n 0, 1, 0, 0), (.getfield 12, 3, 9, 0), (.aload_n 1, 1, 0, 0), (.getfield 93, 3, 7, 1), (.iload_n 3, 1, 0, 0), (.iaload, 1, 0, 0), (.aload_n 0, 1, 0, 0), (.getfield 21, 3, 9, 1), (.getfield 98, 3, 1, 0), (.iload_n 3, 1, 0, 0), (.iaload, 1, 0, 0), (.invokevirtual 101, 3, 49, 3), (.imul, 1, 0, 0), (.iadd, 1, 0, 0), (.istore_n 2, 1, 0, 0), (.nop, 0, 3, 0)],
   [(.iinc 3 1, 3, 0, 0), (.goto (-63), 3, 1, 0)],
   [(.iload_n 2, 1, 0, 0), (.ireturn, 1, 0, 0)]],
  [], (4, 1, 22, 9), [], ⟨"Slidingtray$Puzzle", "distances", "(LSlidingtray$Lie;)I"⟩, prog_11_method_8_code, (some .int), [])
abbrev jm98p : List Nat := [0, 4, 29, 64, 70]
/-- Slidingtray$Puzzle.inParts(LSlidingtray$Lie;)I -/
def jm99 : jM := (
  [[(.iconst 0, 1, 0, 0), (.istore_n 2, 1, 0, 0), (.iconst 0, 1, 0, 0), (.istore_n 3, 1, 0, 0), (.nop, 0, 1, 0)],
   [(.iload_n 3, 1, 0, 0), (.aload_n 0, 1, 0, 0), (.getfield 51, 3, 9, 4), (.if_icmp .ge 22, 3, 2, 0), (.iload_n 2, 1, 0, 0), (.aload_n 0, 1, 0, 0), (.getfield 36, 3, 9, 3), (.iload_n 3, 1, 0, 0), (.aaload, 1, 0, 0), (.aload_n 1, 1, 0, 0), (.invokevirtual 105, 3, 83, 2), (.iadd, 1, 0, 0), (.istore_n 2, 1, 0, 0), (.iinc 3 1, 3, 0, 0), (.goto (-24), 3, 1, 0)],
   [(.iload_n 2, 1, 0, 0), (.ireturn, 1, 0, 0)]],
  [], (4, 1, 23, 9), [], ⟨"Slidingtray$Puzzle", "inParts", "(LSlidingtray$Lie;)I"⟩, prog_11_method_9_code, (some .int), [])
abbrev jm99p : List Nat := [0, 4, 31]
/-- Slidingtray$Puzzle.detours(LSlidingtray$Lie;)I -/
def jm100 : jM := (
  [[(.iconst 0, 1, 0, 0), (.istore_n 2, 1, 0, 0), (.iconst 0, 1, 0, 0), (.istore_n 3, 1, 0, 0), (.nop, 0, 1, 0)],
   [(.iload_n 3, 1, 0, 0), (.bipush 8, 2, 0, 0), (.if_icmp .ge 32, 3, 3, 0), (.aload_n 0, 1, 0, 0), (.aload_n 1, 1, 0, 0), (.iload_n 3, 1, 0, 0), (.invokevirtual 108, 3, 101, 3), (.istore 4, 2, 0, 0), (.iload 4, 2, 0, 0), (.iconst 1, 1, 0, 0), (.if_icmp .le 12, 3, 2, 0), (.iload_n 2, 1, 0, 0), (.aload_n 0, 1, 0, 0), (.iload 4, 2, 0, 0), (.invokevirtual 112, 3, 102, 2), (.iadd, 1, 0, 0), (.istore_n 2, 1, 0, 0), (.nop, 0, 2, 0)],
   [(.iinc 3 1, 3, 0, 0), (.goto (-32), 3, 1, 0)],
   [(.iload_n 2, 1, 0, 0), (.ireturn, 1, 0, 0)]],
  [], (5, 2, 53, 9), [], ⟨"Slidingtray$Puzzle", "detours", "(LSlidingtray$Lie;)I"⟩, prog_11_method_10_code, (some .int), [])
abbrev jm100p : List Nat := [0, 4, 33, 39]
/-- Slidingtray$Puzzle.gather(LSlidingtray$Lie;I)I -/
def jm101 : jM := (
  [[(.iconst 0, 1, 0, 0), (.istore_n 3, 1, 0, 0), (.iconst 0, 1, 0, 0), (.istore 4, 2, 0, 0), (.iconst 0, 1, 0, 0), (.istore 5, 2, 0, 0), (.nop, 0, 1, 0)],
   [(.iload 5, 2, 0, 0), (.aload_n 0, 1, 0, 0), (.getfield 12, 3, 9, 0), (.getfield 116, 3, 4, 8), (.iload_n 2, 1, 0, 0), (.iaload, 1, 0, 0), (.if_icmp .ge 155, 3, 9, 0), (.aload_n 1, 1, 0, 0), (.getfield 119, 3, 7, 0), (.aload_n 0, 1, 0, 0), (.getfield 12, 3, 9, 0), (.iload_n 2, 1, 0, 0), (.iload 5, 2, 0, 0), (.invokevirtual 122, 3, 50, 3), (.iaload, 1, 0, 0), (.istore 6, 2, 0, 0), (.iload 6, 2, 0, 0), (.ifCond .eq 127, 3, 8, 0), (.aload_n 0, 1, 0, 0), (.getfield 21, 3, 9, 1), (.iload 6, 2, 0, 0), (.invokevirtual 58, 3, 14, 2), (.ifCond .eq 6, 3, 2, 0), (.goto 112, 3, 8, 0)],
   [(.aload_n 0, 1, 0, 0), (.getfield 12, 3, 9, 0), (.iload_n 2, 1, 0, 0), (.aload_n 0, 1, 0, 0), (.getfield 21, 3, 9, 1), (.getfield 98, 3, 1, 0), (.iload 6, 2, 0, 0), (.iaload, 1, 0, 0), (.invokevirtual 125, 3, 51, 3), (.istore 7, 2, 0, 0), (.iload 7, 2, 0, 0), (.iconst (-1), 1, 0, 0), (.if_icmp .ne 6, 3, 3, 0), (.goto 83, 3, 8, 0)],
   [(.aload_n 0, 1, 0, 0), (.getfield 40, 3, 9, 5), (.iload_n 3, 1, 0, 0), (.aload_n 0, 1, 0, 0), (.getfield 21, 3, 9, 1), (.getfield 90, 3, 1, 1), (.iload 6, 2, 0, 0), (.iaload, 1, 0, 0), (.iastore, 1, 0, 0), (.aload_n 0, 1, 0, 0), (.getfield 44, 3, 9, 6), (.iload_n 3, 1, 0, 0), (.iload 7, 2, 0, 0), (.iastore, 1, 0, 0), (.aload_n 0, 1, 0, 0), (.getfield 47, 3, 9, 7), (.iload_n 3, 1, 0, 0), (.iconst 0, 1, 0, 0), (.iastore, 1, 0, 0), (.iconst 0, 1, 0, 0), (.istore 8, 2, 0, 0), (.nop, 0, 4, 0)],
   [(.iload 8, 2, 0, 0), (.iload_n 3, 1, 0, 0), (.if_icmp .ge 40, 3, 7, 0), (.aload_n 0, 1, 0, 0), (.getfield 44, 3, 9, 6), (.iload 8, 2, 0, 0), (.iaload, 1, 0, 0), (.iload 7, 2, 0, 0), (.if_icmp .ge 6, 3, 5, 0), (.goto 19, 3, 6, 0)],
   [(.iconst 1, 1, 0, 0), (.istore 4, 2, 0, 0), (.aload_n 0, 1, 0, 0), (.getfield 47, 3, 9, 7), (.iload_n 3, 1, 0, 0), (.dup2, 1, 0, 0), (.iaload, 1, 0, 0), (.iconst 1, 1, 0, 0), (.iload 8, 2, 0, 0), (.ishl, 1, 0, 0), (.ior, 1, 0, 0), (.iastore, 1, 0, 0), (.nop, 0, 6, 0)],
   [(.iinc 8 1, 3, 0, 0), (.goto (-40), 3, 4, 0)],
   [(.iinc 3 1, 3, 0, 0), (.nop, 0, 8, 0)],
   [(.iinc 5 1, 3, 0, 0), (.goto (-163), 3, 1, 0)],
   [(.iload 4, 2, 0, 0), (.ifCond .eq 7, 3, 10, 0), (.iload_n 3, 1, 0, 0), (.goto 4, 3, 11, 0)],
   [(.iconst 0, 1, 0, 0), (.nop, 0, 11, 0)],
   [(.ireturn, 1, 0, 0)]],
  [], (9, 1, 22, 9), [], ⟨"Slidingtray$Puzzle", "gather", "(LSlidingtray$Lie;I)I"⟩, prog_11_method_11_code, (some .int), [])
abbrev jm101p : List Nat := [0, 8, 59, 88, 122, 143, 159, 165, 168, 174, 183, 184]
/-- Slidingtray$Puzzle.leastStake(I)I -/
def jm102 : jM := (
  [[(.bipush 36, 2, 0, 0), (.istore_n 2, 1, 0, 0), (.iconst 0, 1, 0, 0), (.istore_n 3, 1, 0, 0), (.nop, 0, 1, 0)],
   [(.iload_n 3, 1, 0, 0), (.iconst 1, 1, 0, 0), (.iload_n 1, 1, 0, 0), (.ishl, 1, 0, 0), (.if_icmp .ge 105, 3, 11, 0), (.iconst 0, 1, 0, 0), (.istore 4, 2, 0, 0), (.iconst 0, 1, 0, 0), (.istore 5, 2, 0, 0), (.iconst 0, 1, 0, 0), (.istore 6, 2, 0, 0), (.nop, 0, 2, 0)],
   [(.iload 6, 2, 0, 0), (.iload_n 1, 1, 0, 0), (.if_icmp .ge 72, 3, 9, 0), (.iload_n 3, 1, 0, 0), (.iload 6, 2, 0, 0), (.ishr, 1, 0, 0), (.iconst 1, 1, 0, 0), (.iand, 1, 0, 0), (.iconst 1, 1, 0, 0), (.if_icmp .ne 7, 3, 3, 0), (.iconst 1, 1, 0, 0), (.goto 4, 3, 4, 0)],
   [(.iconst 0, 1, 0, 0), (.nop, 0, 4, 0)],
   [(.istore 7, 2, 0, 0), (.iload 5, 2, 0, 0), (.ifCond .ne 20, 3, 5, 0), (.iload 7, 2, 0, 0), (.ifCond .eq 19, 3, 6, 0), (.aload_n 0, 1, 0, 0), (.getfield 47, 3, 9, 7), (.iload 6, 2, 0, 0), (.iaload, 1, 0, 0), (.iload_n 3, 1, 0, 0), (.iand, 1, 0, 0), (.ifCond .eq 7, 3, 6, 0), (.nop, 0, 5, 0)],
   [(.iconst 1, 1, 0, 0), (.goto 4, 3, 7, 0)],
   [(.iconst 0, 1, 0, 0), (.nop, 0, 7, 0)],
   [(.istore 5, 2, 0, 0), (.iload 7, 2, 0, 0), (.ifCond .ne 15, 3, 8, 0), (.iload 4, 2, 0, 0), (.aload_n 0, 1, 0, 0), (.getfield 40, 3, 9, 5), (.iload 6, 2, 0, 0), (.iaload, 1, 0, 0), (.iadd, 1, 0, 0), (.istore 4, 2, 0, 0), (.nop, 0, 8, 0)],
   [(.iinc 6 1, 3, 0, 0), (.goto (-72), 3, 2, 0)],
   [(.iload 5, 2, 0, 0), (.ifCond .ne 10, 3, 10, 0), (.iload_n 2, 1, 0, 0), (.iload 4, 2, 0, 0), (.invokestatic 128, 3, 0, 775), (.istore_n 2, 1, 0, 0), (.nop, 0, 10, 0)],
   [(.iinc 3 1, 3, 0, 0), (.goto (-106), 3, 1, 0)],
   [(.iload_n 2, 1, 0, 0), (.ireturn, 1, 0, 0)]],
  [], (8, 1, 26, 9), [], ⟨"Slidingtray$Puzzle", "leastStake", "(I)I"⟩, prog_11_method_12_code, (some .int), [])
abbrev jm102p : List Nat := [0, 5, 21, 41, 42, 66, 70, 71, 90, 96, 108, 114]
/-- Slidingtray$Rings.<init>()V -/
def jm103 : jM := (
  [[(.aload_n 0, 1, 0, 0), (.invokespecial 3, 3, 0, 778), (.aload_n 0, 1, 0, 0), (.new 9, 3, 6, 0), (.dup, 1, 0, 0), (.sipush 1000, 3, 0, 0), (.bipush 11, 2, 0, 0), (.invokespecial 11, 3, 61, 3), (.putfield 14, 3, 43, 2), (.aload_n 0, 1, 0, 0), (.sipush 1000, 3, 0, 0), (.newarray .int, 2, 0, 0), (.putfield 20, 3, 43, 3), (.aload_n 0, 1, 0, 0), (.iconst 2, 1, 0, 0), (.newarray .int, 2, 0, 0), (.putfield 24, 3, 43, 4), (.aload_n 0, 1, 0, 0), (.iconst 2, 1, 0, 0), (.newarray .int, 2, 0, 0), (.putfield 27, 3, 43, 5), (.aload_n 0, 1, 0, 0), (.new 30, 3, 7, 0), (.dup, 1, 0, 0), (.invokespecial 32, 3, 65, 1), (.putfield 33, 3, 43, 6), (.return_, 1, 0, 0)]],
  [], (1, 2, 48, 10), [], ⟨"Slidingtray$Rings", "<init>", "()V"⟩, prog_12_method_1_code, none, [])
abbrev jm103p : List Nat := [0]
/-- Slidingtray$Rings.seek(LSlidingtray$Puzzle;LSlidingtray$Lie;I)I -/
def jm104 : jM := (
  [[(.aload_n 0, 1, 0, 0), (.getfield 14, 3, 10, 2), (.invokevirtual 37, 3, 62, 1), (.aload_n 0, 1, 0, 0), (.iconst 0, 1, 0, 0), (.putfield 40, 3, 40, 0), (.aload_n 0, 1, 0, 0), (.iconst 0, 1, 0, 0), (.putfield 44, 3, 40, 1), (.aload_n 0, 1, 0, 0), (.iconst 0, 1, 0, 0), (.putfield 47, 3, 41, 7), (.iconst 0, 1, 0, 0), (.istore 4, 2, 0, 0), (.nop, 0, 1, 0)],
   [(.iload 4, 2, 0, 0), (.iconst 2, 1, 0, 0), (.if_icmp .ge 77, 3, 5, 0), (.iload 4, 2, 0, 0), (.ifCond .ne 14, 3, 2, 0), (.aload_n 0, 1, 0, 0), (.getfield 33, 3, 10, 6), (.aload_n 2, 1, 0, 0), (.invokevirtual 51, 3, 74, 2), (.goto 14, 3, 3, 0)],
   [(.aload_n 1, 1, 0, 0), (.getfield 55, 3, 9, 1), (.aload_n 0, 1, 0, 0), (.getfield 33, 3, 10, 6), (.invokevirtual 61, 3, 13, 2), (.nop, 0, 3, 0)],
   [(.aload_n 0, 1, 0, 0), (.getfield 24, 3, 10, 4), (.iload 4, 2, 0, 0), (.aload_n 0, 1, 0, 0), (.getfield 14, 3, 10, 2), (.getfield 66, 3, 6, 1), (.iastore, 1, 0, 0), (.aload_n 0, 1, 0, 0), (.iload 4, 2, 0, 0), (.iload_n 3, 1, 0, 0), (.invokevirtual 69, 3, 106, 3), (.ifCond .ne 6, 3, 4, 0), (.bipush (-2), 2, 0, 0), (.ireturn, 1, 0, 0)],
   [(.aload_n 0, 1, 0, 0), (.getfield 27, 3, 10, 5), (.iload 4, 2, 0, 0), (.aload_n 0, 1, 0, 0), (.getfield 14, 3, 10, 2), (.getfield 66, 3, 6, 1), (.iastore, 1, 0, 0), (.iinc 4 1, 3, 0, 0), (.goto (-77), 3, 1, 0)],
   [(.iconst 0, 1, 0, 0), (.istore 4, 2, 0, 0), (.nop, 0, 6, 0)],
   [(.iload 4, 2, 0, 0), (.iload_n 3, 1, 0, 0), (.if_icmp .ge 62, 3, 9, 0), (.aload_n 0, 1, 0, 0), (.getfield 47, 3, 10, 7), (.ifCond .ne 55, 3, 9, 0), (.aload_n 0, 1, 0, 0), (.getfield 40, 3, 10, 0), (.istore 5, 2, 0, 0), (.aload_n 0, 1, 0, 0), (.aload_n 1, 1, 0, 0), (.getfield 73, 3, 9, 0), (.iload 4, 2, 0, 0), (.iconst 2, 1, 0, 0), (.irem, 1, 0, 0), (.iload_n 3, 1, 0, 0), (.invokevirtual 77, 3, 105, 4), (.ifCond .ne 6, 3, 7, 0), (.bipush (-2), 2, 0, 0), (.ireturn, 1, 0, 0)],
   [(.aload_n 0, 1, 0, 0), (.getfield 40, 3, 10, 0), (.iload 5, 2, 0, 0), (.if_icmp .ne 5, 3, 8, 0), (.iconst (-1), 1, 0, 0), (.ireturn, 1, 0, 0)],
   [(.aload_n 0, 1, 0, 0), (.dup, 1, 0, 0), (.getfield 44, 3, 10, 1), (.iconst 1, 1, 0, 0), (.iadd, 1, 0, 0), (.putfield 44, 3, 40, 1), (.iinc 4 1, 3, 0, 0), (.goto (-62), 3, 6, 0)],
   [(.aload_n 0, 1, 0, 0), (.getfield 47, 3, 10, 7), (.ifCond .eq 10, 3, 10, 0), (.aload_n 0, 1, 0, 0), (.getfield 44, 3, 10, 1), (.goto 5, 3, 11, 0)],
   [(.bipush (-2), 2, 0, 0), (.nop, 0, 11, 0)],
   [(.ireturn, 1, 0, 0)]],
  [], (6, 4, 99, 10), [], ⟨"Slidingtray$Rings", "seek", "(LSlidingtray$Puzzle;LSlidingtray$Lie;I)I"⟩, prog_12_method_2_code, (some .int), [])
abbrev jm104p : List Nat := [0, 25, 47, 58, 85, 105, 108, 146, 157, 173, 187, 189]
/-- Slidingtray$Rings.grow(LSlidingtray$Board;II)Z -/
def jm105 : jM := (
  [[(.aload_n 0, 1, 0, 0), (.getfield 24, 3, 10, 4), (.iload_n 2, 1, 0, 0), (.iaload, 1, 0, 0), (.istore 4, 2, 0, 0), (.aload_n 0, 1, 0, 0), (.getfield 27, 3, 10, 5), (.iload_n 2, 1, 0, 0), (.iaload, 1, 0, 0), (.istore 5, 2, 0, 0), (.aload_n 0, 1, 0, 0), (.getfield 24, 3, 10, 4), (.iload_n 2, 1, 0, 0), (.aload_n 0, 1, 0, 0), (.getfield 14, 3, 10, 2), (.getfield 66, 3, 6, 1), (.iastore, 1, 0, 0), (.iload 4, 2, 0, 0), (.istore 6, 2, 0, 0), (.nop, 0, 1, 0)],
   [(.iload 6, 2, 0, 0), (.iload 5, 2, 0, 0), (.if_icmp .ge 89, 3, 7, 0), (.aload_n 0, 1, 0, 0), (.getfield 33, 3, 10, 6), (.aload_n 0, 1, 0, 0), (.getfield 14, 3, 10, 2), (.getfield 81, 3, 6, 0), (.iload 6, 2, 0, 0), (.laload, 1, 0, 0), (.aload_n 0, 1, 0, 0), (.getfield 33, 3, 10, 6), (.getfield 85, 3, 7, 2), (.invokevirtual 88, 3, 73, 3), (.iconst 0, 1, 0, 0), (.istore 7, 2, 0, 0), (.nop, 0, 2, 0)],
   [(.iload 7, 2, 0, 0), (.iconst 3, 1, 0, 0), (.if_icmp .gt 50, 3, 6, 0), (.aload_n 0, 1, 0, 0), (.getfield 33, 3, 10, 6), (.aload_n 1, 1, 0, 0), (.iload 7, 2, 0, 0), (.invokevirtual 92, 3, 76, 3), (.ifCond .ne 6, 3, 3, 0), (.goto 28, 3, 5, 0)],
   [(.aload_n 0, 1, 0, 0), (.iload_n 2, 1, 0, 0), (.iload_n 3, 1, 0, 0), (.invokevirtual 69, 3, 106, 3), (.ifCond .ne 5, 3, 4, 0), (.iconst 0, 1, 0, 0), (.ireturn, 1, 0, 0)],
   [(.aload_n 0, 1, 0, 0), (.getfield 33, 3, 10, 6), (.aload_n 1, 1, 0, 0), (.iload 7, 2, 0, 0), (.invokestatic 96, 3, 146, 1), (.invokevirtual 92, 3, 76, 3), (.pop, 1, 0, 0), (.nop, 0, 5, 0)],
   [(.iinc 7 1, 3, 0, 0), (.goto (-50), 3, 2, 0)],
   [(.iinc 6 1, 3, 0, 0), (.goto (-90), 3, 1, 0)],
   [(.aload_n 0, 1, 0, 0), (.getfield 27, 3, 10, 5), (.iload_n 2, 1, 0, 0), (.aload_n 0, 1, 0, 0), (.getfield 14, 3, 10, 2), (.getfield 66, 3, 6, 1), (.iastore, 1, 0, 0), (.iconst 1, 1, 0, 0), (.ireturn, 1, 0, 0)]],
  [], (8, 3, 72, 10), [], ⟨"Slidingtray$Rings", "grow", "(LSlidingtray$Board;II)Z"⟩, prog_12_method_3_code, (some .boolean), [])
abbrev jm105p : List Nat := [0, 33, 67, 89, 100, 114, 120, 126]
/-- Slidingtray$Rings.find(II)Z -/
def jm106 : jM := (
  [[(.aload_n 0, 1, 0, 0), (.getfield 14, 3, 10, 2), (.getfield 66, 3, 6, 1), (.istore_n 3, 1, 0, 0), (.aload_n 0, 1, 0, 0), (.getfield 14, 3, 10, 2), (.aload_n 0, 1, 0, 0), (.getfield 33, 3, 10, 6), (.getfield 100, 3, 7, 3), (.invokevirtual 103, 3, 63, 2), (.istore 4, 2, 0, 0), (.iload 4, 2, 0, 0), (.iconst (-1), 1, 0, 0), (.if_icmp .ne 5, 3, 1, 0), (.iconst 0, 1, 0, 0), (.ireturn, 1, 0, 0)],
   [(.aload_n 0, 1, 0, 0), (.getfield 14, 3, 10, 2), (.getfield 66, 3, 6, 1), (.iload_n 3, 1, 0, 0), (.if_icmp .le 11, 3, 2, 0), (.aload_n 0, 1, 0, 0), (.getfield 20, 3, 10, 3), (.iload 4, 2, 0, 0), (.iconst 0, 1, 0, 0), (.iastore, 1, 0, 0), (.nop, 0, 2, 0)],
   [(.aload_n 0, 1, 0, 0), (.getfield 20, 3, 10, 3), (.iload 4, 2, 0, 0), (.iaload, 1, 0, 0), (.iload_n 1, 1, 0, 0), (.ishr, 1, 0, 0), (.iconst 1, 1, 0, 0), (.iand, 1, 0, 0), (.iconst 1, 1, 0, 0), (.if_icmp .ne 5, 3, 3, 0), (.iconst 1, 1, 0, 0), (.ireturn, 1, 0, 0)],
   [(.aload_n 0, 1, 0, 0), (.getfield 40, 3, 10, 0), (.iload_n 2, 1, 0, 0), (.if_icmp .lt 5, 3, 4, 0), (.iconst 0, 1, 0, 0), (.ireturn, 1, 0, 0)],
   [(.aload_n 0, 1, 0, 0), (.dup, 1, 0, 0), (.getfield 40, 3, 10, 0), (.iconst 1, 1, 0, 0), (.iadd, 1, 0, 0), (.putfield 40, 3, 40, 0), (.aload_n 0, 1, 0, 0), (.aload_n 0, 1, 0, 0), (.getfield 47, 3, 10, 7), (.ifCond .ne 13, 3, 5, 0), (.aload_n 0, 1, 0, 0), (.getfield 20, 3, 10, 3), (.iload 4, 2, 0, 0), (.iaload, 1, 0, 0), (.ifCond .eq 7, 3, 6, 0), (.nop, 0, 5, 0)],
   [(.iconst 1, 1, 0, 0), (.goto 4, 3, 7, 0)],
   [(.iconst 0, 1, 0, 0), (.nop, 0, 7, 0)],
   [(.putfield 47, 3, 41, 7), (.aload_n 0, 1, 0, 0), (.getfield 20, 3, 10, 3), (.iload 4, 2, 0, 0), (.dup2, 1, 0, 0), (.iaload, 1, 0, 0), (.iconst 1, 1, 0, 0), (.iload_n 1, 1, 0, 0), (.ishl, 1, 0, 0), (.ior, 1, 0, 0), (.iastore, 1, 0, 0), (.iconst 1, 1, 0, 0), (.ireturn, 1, 0, 0)]],
  [], (5, 2, 48, 10), [], ⟨"Slidingtray$Rings", "find", "(II)Z"⟩, prog_12_method_4_code, (some .boolean), [])
abbrev jm106p : List Nat := [0, 32, 51, 68, 78, 106, 110, 111]
/-- Slidingtray.<init>()V -/
def jm107 : jM := (
  [[(.aload_n 0, 1, 0, 0), (.invokespecial 3, 3, 0, 778), (.aload_n 0, 1, 0, 0), (.new 9, 3, 9, 0), (.dup, 1, 0, 0), (.invokespecial 11, 3, 91, 1), (.putfield 12, 3, 47, 0), (.aload_n 0, 1, 0, 0), (.new 16, 3, 7, 0), (.dup, 1, 0, 0), (.invokespecial 18, 3, 65, 1), (.putfield 19, 3, 47, 1), (.aload_n 0, 1, 0, 0), (.new 16, 3, 7, 0), (.dup, 1, 0, 0), (.invokespecial 18, 3, 65, 1), (.putfield 23, 3, 47, 2), (.aload_n 0, 1, 0, 0), (.iconst 2, 1, 0, 0), (.anewarray 16, 3, 3, 0), (.putfield 26, 3, 47, 3), (.aload_n 0, 1, 0, 0), (.iconst 2, 1, 0, 0), (.anewarray 30, 3, 4, 0), (.putfield 32, 3, 47, 4), (.aload_n 0, 1, 0, 0), (.iconst 2, 1, 0, 0), (.newarray .boolean, 2, 0, 0), (.putfield 36, 3, 47, 5), (.aload_n 0, 1, 0, 0), (.iconst 4, 1, 0, 0), (.bipush 8, 2, 0, 0), (.multianewarray 40 2, 4, 0, 0), (.putfield 42, 3, 47, 6), (.aload_n 0, 1, 0, 0), (.iconst 4, 1, 0, 0), (.newarray .int, 2, 0, 0), (.putfield 45, 3, 47, 7), (.aload_n 0, 1, 0, 0), (.sipush 200, 3, 0, 0), (.newarray .int, 2, 0, 0), (.putfield 49, 3, 47, 8), (.aload_n 0, 1, 0, 0), (.new 52, 3, 3, 0), (.dup, 1, 0, 0), (.invokespecial 54, 3, 32, 1), (.putfield 55, 3, 47, 11), (.aload_n 0, 1, 0, 0), (.new 59, 3, 5, 0), (.dup, 1, 0, 0), (.invokespecial 61, 3, 54, 1), (.putfield 62, 3, 47, 12), (.aload_n 0, 1, 0, 0), (.new 66, 3, 10, 0), (.dup, 1, 0, 0), (.invokespecial 68, 3, 103, 1), (.putfield 69, 3, 47, 13), (.aload_n 0, 1, 0, 0), (.new 73, 3, 2, 0), (.dup, 1, 0, 0), (.invokespecial 75, 3, 19, 1), (.putfield 76, 3, 47, 14), (.aload_n 0, 1, 0, 0), (.sipush 1000, 3, 0, 0), (.newarray .int, 2, 0, 0), (.putfield 80, 3, 47, 15), (.aload_n 0, 1, 0, 0), (.iconst 3, 1, 0, 0), (.newarray .int, 2, 0, 0), (.putfield 83, 3, 47, 17), (.aload_n 0, 1, 0, 0), (.sipush 500, 3, 0, 0), (.putfield 86, 3, 44, 18), (.iconst 0, 1, 0, 0), (.istore_n 1, 1, 0, 0), (.nop, 0, 1, 0)],
   [(.iload_n 1, 1, 0, 0), (.iconst 2, 1, 0, 0), (.if_icmp .ge 35, 3, 2, 0), (.aload_n 0, 1, 0, 0), (.getfield 26, 3, 11, 3), (.iload_n 1, 1, 0, 0), (.new 16, 3, 7, 0), (.dup, 1, 0, 0), (.invokespecial 18, 3, 65, 1), (.aastore, 1, 0, 0), (.aload_n 0, 1, 0, 0), (.getfield 32, 3, 11, 4), (.iload_n 1, 1, 0, 0), (.new 30, 3, 1, 0), (.dup, 1, 0, 0), (.invokespecial 90, 3, 9, 1), (.aastore, 1, 0, 0), (.iinc 1 1, 3, 0, 0), (.goto (-34), 3, 1, 0)],
   [(.aload_n 0, 1, 0, 0), (.iconst 3, 1, 0, 0), (.iconst 3, 1, 0, 0), (.iconst 0, 1, 0, 0), (.invokevirtual 91, 3, 139, 4), (.return_, 1, 0, 0)]],
  [], (2, 5, 119, 11), [], ⟨"Slidingtray", "<init>", "()V"⟩, prog_1_method_1_code, none, [])
abbrev jm107p : List Nat := [0, 156, 193]
/-- Slidingtray.tray(III)I -/
def jm108 : jM := (
  [[(.iload_n 1, 1, 0, 0), (.iload_n 2, 1, 0, 0), (.iload_n 3, 1, 0, 0), (.invokestatic 95, 3, 38, 3), (.ifCond .ne 13, 3, 1, 0), (.new 101, 3, 0, 779)],
   [(.aload_n 0, 1, 0, 0), (.iload_n 1, 1, 0, 0), (.iload_n 2, 1, 0, 0), (.iload_n 3, 1, 0, 0), (.invokevirtual 91, 3, 139, 4), (.aload_n 0, 1, 0, 0), (.invokevirtual 108, 3, 143, 1), (.ireturn, 1, 0, 0)]],
  [], (4, 6, 119, 11), [], ⟨"Slidingtray", "tray", "(III)I"⟩, prog_1_method_2_code, (some .int), [])
abbrev jm108p : List Nat := [0, 19]
/-- Slidingtray.lay(J)I -/
def jm109 : jM := (
  [[(.lload_n 1, 1, 0, 0), (.lconst 0, 1, 0, 0), (.lcmp, 1, 0, 0), (.ifCond .lt 21, 3, 1, 0), (.lload_n 1, 1, 0, 0), (.aload_n 0, 1, 0, 0), (.getfield 12, 3, 11, 0), (.getfield 112, 3, 9, 0), (.getfield 116, 3, 4, 3), (.invokestatic 119, 3, 66, 1), (.lcmp, 1, 0, 0), (.ifCond .lt 13, 3, 2, 0), (.nop, 0, 1, 0)],
   [(.new 101, 3, 0, 779)],
   [(.aload_n 0, 1, 0, 0), (.getfield 19, 3, 11, 1), (.lload_n 1, 1, 0, 0), (.aload_n 0, 1, 0, 0), (.getfield 12, 3, 11, 0), (.getfield 112, 3, 9, 0), (.getfield 116, 3, 4, 3), (.invokevirtual 125, 3, 78, 3), (.aload_n 0, 1, 0, 0), (.invokevirtual 129, 3, 141, 1), (.aload_n 0, 1, 0, 0), (.invokevirtual 132, 3, 144, 1), (.ireturn, 1, 0, 0)]],
  [], (3, 6, 90, 11), [], ⟨"Slidingtray", "lay", "(J)I"⟩, prog_1_method_3_code, (some .int), [])
abbrev jm109p : List Nat := [0, 24, 34]
/-- Slidingtray.mix(II)I -/
def jm110 : jM := (
  [[(.iload_n 2, 1, 0, 0), (.ifCond .lt 10, 3, 1, 0), (.iload_n 2, 1, 0, 0), (.sipush 200, 3, 0, 0), (.if_icmp .le 13, 3, 2, 0), (.nop, 0, 1, 0)],
   [(.new 101, 3, 0, 779)],
   [(.iload_n 1, 1, 0, 0), (.istore_n 3, 1, 0, 0), (.iconst 0, 1, 0, 0), (.istore 4, 2, 0, 0), (.nop, 0, 3, 0)],
   [(.iload 4, 2, 0, 0), (.iload_n 2, 1, 0, 0), (.if_icmp .ge 89, 3, 5, 0), (.aload_n 0, 1, 0, 0), (.getfield 12, 3, 11, 0), (.getfield 112, 3, 9, 0), (.aload_n 0, 1, 0, 0), (.getfield 19, 3, 11, 1), (.getfield 137, 3, 7, 1), (.iconst 0, 1, 0, 0), (.iaload, 1, 0, 0), (.invokevirtual 140, 3, 52, 2), (.istore 5, 2, 0, 0), (.iload 5, 2, 0, 0), (.iconst 1, 1, 0, 0), (.if_icmp .ge 6, 3, 4, 0), (.goto 59, 3, 5, 0)],
   [(.iload_n 3, 1, 0, 0), (.ldc 144, 2, 1103515245, 0), (.imul, 1, 0, 0), (.sipush 12345, 3, 0, 0), (.iadd, 1, 0, 0), (.istore_n 3, 1, 0, 0), (.aload_n 0, 1, 0, 0), (.getfield 19, 3, 11, 1), (.aload_n 0, 1, 0, 0), (.getfield 12, 3, 11, 0), (.getfield 112, 3, 9, 0), (.aload_n 0, 1, 0, 0), (.getfield 12, 3, 11, 0), (.getfield 112, 3, 9, 0), (.aload_n 0, 1, 0, 0), (.getfield 19, 3, 11, 1), (.getfield 137, 3, 7, 1), (.iconst 0, 1, 0, 0), (.iaload, 1, 0, 0), (.iload_n 3, 1, 0, 0), (.bipush 16, 2, 0, 0), (.iushr, 1, 0, 0), (.iload 5, 2, 0, 0), (.irem, 1, 0, 0), (.invokevirtual 145, 3, 53, 3), (.invokevirtual 149, 3, 76, 3), (.pop, 1, 0, 0), (.iinc 4 1, 3, 0, 0), (.goto (-89), 3, 3, 0)],
   [(.aload_n 0, 1, 0, 0), (.invokevirtual 129, 3, 141, 1), (.aload_n 0, 1, 0, 0), (.invokevirtual 132, 3, 144, 1), (.ireturn, 1, 0, 0)]],
  [], (6, 6, 90, 11), [], ⟨"Slidingtray", "mix", "(II)I"⟩, prog_1_method_4_code, (some .int), [])
abbrev jm110p : List Nat := [0, 11, 21, 26, 62, 118]
/-- Slidingtray.setGoal()J -/
def jm111 : jM := (
  [[(.aload_n 0, 1, 0, 0), (.getfield 12, 3, 11, 0), (.getfield 153, 3, 9, 1), (.aload_n 0, 1, 0, 0), (.getfield 19, 3, 11, 1), (.invokevirtual 157, 3, 11, 2), (.aload_n 0, 1, 0, 0), (.invokevirtual 161, 3, 140, 1), (.aload_n 0, 1, 0, 0), (.getfield 19, 3, 11, 1), (.invokevirtual 164, 3, 77, 1), (.lreturn, 1, 0, 0)]],
  [], (1, 2, 47, 11), [], ⟨"Slidingtray", "setGoal", "()J"⟩, prog_1_method_5_code, (some .long), [])
abbrev jm111p : List Nat := [0]
/-- Slidingtray.setFree(IZ)Z -/
def jm112 : jM := (
  [[(.iload_n 1, 1, 0, 0), (.ifCond .lt 11, 3, 1, 0), (.iload_n 1, 1, 0, 0), (.aload_n 0, 1, 0, 0), (.invokevirtual 108, 3, 143, 1), (.if_icmp .le 13, 3, 2, 0), (.nop, 0, 1, 0)],
   [(.new 168, 3, 2, 779)],
   [(.aload_n 0, 1, 0, 0), (.getfield 12, 3, 11, 0), (.getfield 153, 3, 9, 1), (.iload_n 1, 1, 0, 0), (.invokevirtual 173, 3, 14, 2), (.istore_n 3, 1, 0, 0), (.aload_n 0, 1, 0, 0), (.getfield 12, 3, 11, 0), (.getfield 153, 3, 9, 1), (.iload_n 1, 1, 0, 0), (.iload_n 2, 1, 0, 0), (.invokevirtual 177, 3, 15, 3), (.aload_n 0, 1, 0, 0), (.invokevirtual 161, 3, 140, 1), (.iload_n 3, 1, 0, 0), (.ireturn, 1, 0, 0)]],
  [], (4, 6, 90, 11), [], ⟨"Slidingtray", "setFree", "(IZ)Z"⟩, prog_1_method_6_code, (some .boolean), [])
abbrev jm112p : List Nat := [0, 12, 22]
/-- Slidingtray.setWeight(II)I -/
def jm113 : jM := (
  [[(.iload_n 1, 1, 0, 0), (.iconst 1, 1, 0, 0), (.if_icmp .lt 11, 3, 1, 0), (.iload_n 1, 1, 0, 0), (.aload_n 0, 1, 0, 0), (.invokevirtual 108, 3, 143, 1), (.if_icmp .le 13, 3, 2, 0), (.nop, 0, 1, 0)],
   [(.new 168, 3, 2, 779)],
   [(.iload_n 2, 1, 0, 0), (.iconst 1, 1, 0, 0), (.if_icmp .lt 9, 3, 3, 0), (.iload_n 2, 1, 0, 0), (.bipush 9, 2, 0, 0), (.if_icmp .le 13, 3, 4, 0), (.nop, 0, 3, 0)],
   [(.new 101, 3, 0, 779)],
   [(.aload_n 0, 1, 0, 0), (.getfield 12, 3, 11, 0), (.getfield 153, 3, 9, 1), (.getfield 183, 3, 1, 1), (.iload_n 1, 1, 0, 0), (.iaload, 1, 0, 0), (.istore_n 3, 1, 0, 0), (.aload_n 0, 1, 0, 0), (.getfield 12, 3, 11, 0), (.getfield 153, 3, 9, 1), (.getfield 183, 3, 1, 1), (.iload_n 1, 1, 0, 0), (.iload_n 2, 1, 0, 0), (.iastore, 1, 0, 0), (.aload_n 0, 1, 0, 0), (.invokevirtual 161, 3, 140, 1), (.iload_n 3, 1, 0, 0), (.ireturn, 1, 0, 0)]],
  [], (4, 6, 90, 11), [], ⟨"Slidingtray", "setWeight", "(II)I"⟩, prog_1_method_7_code, (some .int), [])
abbrev jm113p : List Nat := [0, 13, 23, 34, 44]
/-- Slidingtray.setLimit(I)I -/
def jm114 : jM := (
  [[(.iload_n 1, 1, 0, 0), (.iconst 1, 1, 0, 0), (.if_icmp .lt 10, 3, 1, 0), (.iload_n 1, 1, 0, 0), (.sipush 1000, 3, 0, 0), (.if_icmp .le 13, 3, 2, 0), (.nop, 0, 1, 0)],
   [(.new 101, 3, 0, 779)],
   [(.aload_n 0, 1, 0, 0), (.getfield 86, 3, 11, 18), (.istore_n 2, 1, 0, 0), (.aload_n 0, 1, 0, 0), (.iload_n 1, 1, 0, 0), (.putfield 86, 3, 44, 18), (.iload_n 2, 1, 0, 0), (.ireturn, 1, 0, 0)]],
  [], (3, 6, 90, 11), [], ⟨"Slidingtray", "setLimit", "(I)I"⟩, prog_1_method_8_code, (some .int), [])
abbrev jm114p : List Nat := [0, 12, 22]
/-- Slidingtray.move(II)I -/
def jm115 : jM := (
  [[(.iload_n 1, 1, 0, 0), (.invokestatic 188, 3, 145, 1), (.ifCond .eq 13, 3, 1, 0), (.iload_n 2, 1, 0, 0), (.iconst 1, 1, 0, 0), (.if_icmp .lt 8, 3, 1, 0), (.iload_n 2, 1, 0, 0), (.iconst 3, 1, 0, 0), (.if_icmp .le 13, 3, 2, 0), (.nop, 0, 1, 0)],
   [(.new 101, 3, 0, 779)],
   [(.aload_n 0, 1, 0, 0), (.iload_n 1, 1, 0, 0), (.iload_n 2, 1, 0, 0), (.invokevirtual 193, 3, 150, 3), (.ifCond .ne 13, 3, 3, 0), (.new 197, 3, 1, 779)],
   [(.iconst 0, 1, 0, 0), (.istore_n 3, 1, 0, 0), (.iconst 0, 1, 0, 0), (.istore 4, 2, 0, 0), (.nop, 0, 4, 0)],
   [(.iload 4, 2, 0, 0), (.iload_n 2, 1, 0, 0), (.if_icmp .ge 28, 3, 5, 0), (.iload_n 3, 1, 0, 0), (.aload_n 0, 1, 0, 0), (.getfield 12, 3, 11, 0), (.getfield 153, 3, 9, 1), (.getfield 183, 3, 1, 1), (.aload_n 0, 1, 0, 0), (.iload_n 1, 1, 0, 0), (.invokevirtual 202, 3, 151, 2), (.iaload, 1, 0, 0), (.iadd, 1, 0, 0), (.istore_n 3, 1, 0, 0), (.iinc 4 1, 3, 0, 0), (.goto (-28), 3, 4, 0)],
   [(.iload_n 3, 1, 0, 0), (.ireturn, 1, 0, 0)]],
  [], (5, 6, 90, 11), [], ⟨"Slidingtray", "move", "(II)I"⟩, prog_1_method_9_code, (some .int), [])
abbrev jm115p : List Nat := [0, 17, 27, 46, 51, 82]
/-- Slidingtray.undo(I)I -/
def jm116 : jM := (
  [[(.iload_n 1, 1, 0, 0), (.iconst 1, 1, 0, 0), (.if_icmp .lt 10, 3, 1, 0), (.iload_n 1, 1, 0, 0), (.sipush 200, 3, 0, 0), (.if_icmp .le 13, 3, 2, 0), (.nop, 0, 1, 0)],
   [(.new 101, 3, 0, 779)],
   [(.iload_n 1, 1, 0, 0), (.aload_n 0, 1, 0, 0), (.getfield 205, 3, 11, 10), (.invokestatic 208, 3, 0, 775), (.istore_n 2, 1, 0, 0), (.iconst 0, 1, 0, 0), (.istore_n 3, 1, 0, 0), (.nop, 0, 3, 0)],
   [(.iload_n 3, 1, 0, 0), (.iload_n 2, 1, 0, 0), (.if_icmp .ge 54, 3, 4, 0), (.aload_n 0, 1, 0, 0), (.aload_n 0, 1, 0, 0), (.getfield 213, 3, 11, 9), (.sipush 200, 3, 0, 0), (.iadd, 1, 0, 0), (.iconst 1, 1, 0, 0), (.isub, 1, 0, 0), (.sipush 200, 3, 0, 0), (.irem, 1, 0, 0), (.putfield 213, 3, 44, 9), (.aload_n 0, 1, 0, 0), (.getfield 19, 3, 11, 1), (.aload_n 0, 1, 0, 0), (.getfield 12, 3, 11, 0), (.getfield 112, 3, 9, 0), (.aload_n 0, 1, 0, 0), (.getfield 49, 3, 11, 8), (.aload_n 0, 1, 0, 0), (.getfield 213, 3, 11, 9), (.iaload, 1, 0, 0), (.invokestatic 216, 3, 146, 1), (.invokevirtual 149, 3, 76, 3), (.pop, 1, 0, 0), (.iinc 3 1, 3, 0, 0), (.goto (-53), 3, 3, 0)],
   [(.aload_n 0, 1, 0, 0), (.dup, 1, 0, 0), (.getfield 205, 3, 11, 10), (.iload_n 2, 1, 0, 0), (.isub, 1, 0, 0), (.putfield 205, 3, 44, 10), (.iload_n 2, 1, 0, 0), (.ireturn, 1, 0, 0)]],
  [], (4, 6, 90, 11), [], ⟨"Slidingtray", "undo", "(I)I"⟩, prog_1_method_10_code, (some .int), [])
abbrev jm116p : List Nat := [0, 12, 22, 33, 89]
/-- Slidingtray.setMacro(IJ)I -/
def jm117 : jM := (
  [[(.iload_n 1, 1, 0, 0), (.invokestatic 219, 3, 147, 1), (.ifCond .ne 13, 3, 1, 0), (.new 168, 3, 2, 779)],
   [(.iconst 0, 1, 0, 0), (.istore 4, 2, 0, 0), (.nop, 0, 2, 0)],
   [(.iload 4, 2, 0, 0), (.bipush 8, 2, 0, 0), (.if_icmp .ge 41, 3, 4, 0), (.lload_n 2, 1, 0, 0), (.iload 4, 2, 0, 0), (.invokestatic 224, 3, 152, 2), (.istore 5, 2, 0, 0), (.iload 5, 2, 0, 0), (.ifCond .eq 22, 3, 3, 0), (.iload 5, 2, 0, 0), (.invokestatic 228, 3, 153, 1), (.iconst (-1), 1, 0, 0), (.if_icmp .ne 13, 3, 3, 0), (.new 101, 3, 0, 779)],
   [(.iinc 4 1, 3, 0, 0), (.goto (-42), 3, 2, 0)],
   [(.iconst 0, 1, 0, 0), (.istore 4, 2, 0, 0), (.iconst 0, 1, 0, 0), (.istore 5, 2, 0, 0), (.nop, 0, 5, 0)],
   [(.iload 5, 2, 0, 0), (.bipush 8, 2, 0, 0), (.if_icmp .ge 43, 3, 8, 0), (.lload_n 2, 1, 0, 0), (.iload 5, 2, 0, 0), (.invokestatic 224, 3, 152, 2), (.invokestatic 228, 3, 153, 1), (.istore 6, 2, 0, 0), (.iload 6, 2, 0, 0), (.iconst (-1), 1, 0, 0), (.if_icmp .ne 6, 3, 6, 0), (.goto 17, 3, 7, 0)],
   [(.aload_n 0, 1, 0, 0), (.getfield 42, 3, 11, 6), (.iload_n 1, 1, 0, 0), (.aaload, 1, 0, 0), (.iload 4, 2, 0, 0), (.iload 6, 2, 0, 0), (.iastore, 1, 0, 0), (.iinc 4 1, 3, 0, 0), (.nop, 0, 7, 0)],
   [(.iinc 5 1, 3, 0, 0), (.goto (-44), 3, 5, 0)],
   [(.aload_n 0, 1, 0, 0), (.getfield 45, 3, 11, 7), (.iload_n 1, 1, 0, 0), (.iload 4, 2, 0, 0), (.iastore, 1, 0, 0), (.iload 4, 2, 0, 0), (.ireturn, 1, 0, 0)]],
  [], (7, 6, 90, 11), [], ⟨"Slidingtray", "setMacro", "(IJ)I"⟩, prog_1_method_11_code, (some .int), [])
abbrev jm117p : List Nat := [0, 17, 20, 59, 65, 71, 98, 112, 118]
/-- Slidingtray.play(II)I -/
def jm118 : jM := (
  [[(.iload_n 1, 1, 0, 0), (.invokestatic 219, 3, 147, 1), (.ifCond .ne 13, 3, 1, 0), (.new 168, 3, 2, 779)],
   [(.iload_n 2, 1, 0, 0), (.iconst 1, 1, 0, 0), (.if_icmp .lt 9, 3, 2, 0), (.iload_n 2, 1, 0, 0), (.bipush 20, 2, 0, 0), (.if_icmp .le 13, 3, 3, 0), (.nop, 0, 2, 0)],
   [(.new 101, 3, 0, 779)],
   [(.aload_n 0, 1, 0, 0), (.getfield 45, 3, 11, 7), (.iload_n 1, 1, 0, 0), (.iaload, 1, 0, 0), (.istore_n 3, 1, 0, 0), (.iload_n 3, 1, 0, 0), (.ifCond .ne 13, 3, 4, 0), (.new 235, 3, 3, 779)],
   [(.iconst 0, 1, 0, 0), (.istore 4, 2, 0, 0), (.iconst 0, 1, 0, 0), (.istore 5, 2, 0, 0), (.nop, 0, 5, 0)],
   [(.iload 5, 2, 0, 0), (.iload_n 2, 1, 0, 0), (.if_icmp .ge 46, 3, 9, 0), (.iconst 0, 1, 0, 0), (.istore 6, 2, 0, 0), (.nop, 0, 6, 0)],
   [(.iload 6, 2, 0, 0), (.iload_n 3, 1, 0, 0), (.if_icmp .ge 31, 3, 8, 0), (.aload_n 0, 1, 0, 0), (.aload_n 0, 1, 0, 0), (.getfield 42, 3, 11, 6), (.iload_n 1, 1, 0, 0), (.aaload, 1, 0, 0), (.iload 6, 2, 0, 0), (.iaload, 1, 0, 0), (.invokevirtual 202, 3, 151, 2), (.ifCond .ne 6, 3, 7, 0), (.iload 4, 2, 0, 0), (.ireturn, 1, 0, 0)],
   [(.iinc 4 1, 3, 0, 0), (.iinc 6 1, 3, 0, 0), (.goto (-31), 3, 6, 0)],
   [(.iinc 5 1, 3, 0, 0), (.goto (-46), 3, 5, 0)],
   [(.iload 4, 2, 0, 0), (.ireturn, 1, 0, 0)]],
  [], (7, 6, 90, 11), [], ⟨"Slidingtray", "play", "(II)I"⟩, prog_1_method_12_code, (some .int), [])
abbrev jm118p : List Nat := [0, 17, 28, 38, 59, 65, 74, 99, 108, 114]
/-- Slidingtray.keep(I)J -/
def jm119 : jM := (
  [[(.iload_n 1, 1, 0, 0), (.invokestatic 240, 3, 148, 1), (.ifCond .ne 13, 3, 1, 0), (.new 168, 3, 2, 779)],
   [(.aload_n 0, 1, 0, 0), (.getfield 26, 3, 11, 3), (.iload_n 1, 1, 0, 0), (.aaload, 1, 0, 0), (.aload_n 0, 1, 0, 0), (.getfield 19, 3, 11, 1), (.invokevirtual 245, 3, 74, 2), (.aload_n 0, 1, 0, 0), (.getfield 32, 3, 11, 4), (.iload_n 1, 1, 0, 0), (.aaload, 1, 0, 0), (.aload_n 0, 1, 0, 0), (.getfield 12, 3, 11, 0), (.getfield 153, 3, 9, 1), (.invokevirtual 248, 3, 12, 2), (.aload_n 0, 1, 0, 0), (.getfield 36, 3, 11, 5), (.iload_n 1, 1, 0, 0), (.iconst 1, 1, 0, 0), (.bastore, 1, 0, 0), (.aload_n 0, 1, 0, 0), (.getfield 19, 3, 11, 1), (.invokevirtual 164, 3, 77, 1), (.lreturn, 1, 0, 0)]],
  [], (2, 6, 90, 11), [], ⟨"Slidingtray", "keep", "(I)J"⟩, prog_1_method_13_code, (some .long), [])
abbrev jm119p : List Nat := [0, 17]
/-- Slidingtray.restore(I)I -/
def jm120 : jM := (
  [[(.iload_n 1, 1, 0, 0), (.invokestatic 240, 3, 148, 1), (.ifCond .ne 13, 3, 1, 0), (.new 168, 3, 2, 779)],
   [(.aload_n 0, 1, 0, 0), (.getfield 36, 3, 11, 5), (.iload_n 1, 1, 0, 0), (.baload, 1, 0, 0), (.ifCond .ne 13, 3, 2, 0), (.new 197, 3, 1, 779)],
   [(.aload_n 0, 1, 0, 0), (.getfield 19, 3, 11, 1), (.aload_n 0, 1, 0, 0), (.getfield 26, 3, 11, 3), (.iload_n 1, 1, 0, 0), (.aaload, 1, 0, 0), (.invokevirtual 245, 3, 74, 2), (.aload_n 0, 1, 0, 0), (.getfield 12, 3, 11, 0), (.getfield 153, 3, 9, 1), (.aload_n 0, 1, 0, 0), (.getfield 32, 3, 11, 4), (.iload_n 1, 1, 0, 0), (.aaload, 1, 0, 0), (.invokevirtual 248, 3, 12, 2), (.aload_n 0, 1, 0, 0), (.invokevirtual 161, 3, 140, 1), (.aload_n 0, 1, 0, 0), (.invokevirtual 129, 3, 141, 1), (.aload_n 0, 1, 0, 0), (.invokevirtual 132, 3, 144, 1), (.ireturn, 1, 0, 0)]],
  [], (2, 6, 90, 11), [], ⟨"Slidingtray", "restore", "(I)I"⟩, prog_1_method_14_code, (some .int), [])
abbrev jm120p : List Nat := [0, 17, 36]
/-- Slidingtray.tileAt(I)I -/
def jm121 : jM := (
  [[(.iload_n 1, 1, 0, 0), (.ifCond .lt 17, 3, 1, 0), (.iload_n 1, 1, 0, 0), (.aload_n 0, 1, 0, 0), (.getfield 12, 3, 11, 0), (.getfield 112, 3, 9, 0), (.getfield 253, 3, 4, 2), (.if_icmp .lt 14, 3, 2, 0), (.nop, 0, 1, 0)],
   [(.new 168, 3, 2, 779)],
   [(.aload_n 0, 1, 0, 0), (.getfield 12, 3, 11, 0), (.getfield 112, 3, 9, 0), (.getfield 258, 3, 4, 4), (.iload_n 1, 1, 0, 0), (.iaload, 1, 0, 0), (.istore_n 2, 1, 0, 0), (.iload_n 2, 1, 0, 0), (.iconst (-1), 1, 0, 0), (.if_icmp .ne 7, 3, 3, 0), (.iconst (-1), 1, 0, 0), (.goto 12, 3, 4, 0)],
   [(.aload_n 0, 1, 0, 0), (.getfield 19, 3, 11, 1), (.getfield 261, 3, 7, 0), (.iload_n 2, 1, 0, 0), (.iaload, 1, 0, 0), (.nop, 0, 4, 0)],
   [(.ireturn, 1, 0, 0)]],
  [], (3, 6, 90, 11), [], ⟨"Slidingtray", "tileAt", "(I)I"⟩, prog_1_method_15_code, (some .int), [])
abbrev jm121p : List Nat := [0, 18, 29, 51, 60]
/-- Slidingtray.rank()J -/
def jm122 : jM := (
  [[(.aload_n 0, 1, 0, 0), (.getfield 19, 3, 11, 1), (.invokevirtual 164, 3, 77, 1), (.lreturn, 1, 0, 0)]],
  [], (1, 2, 46, 11), [], ⟨"Slidingtray", "rank", "()J"⟩, prog_1_method_16_code, (some .long), [])
abbrev jm122p : List Nat := [0]
/-- Slidingtray.inversions()I -/
def jm123 : jM := (
  [[(.aload_n 0, 1, 0, 0), (.getfield 19, 3, 11, 1), (.invokevirtual 264, 3, 80, 1), (.ireturn, 1, 0, 0)]],
  [], (1, 2, 45, 11), [], ⟨"Slidingtray", "inversions", "()I"⟩, prog_1_method_17_code, (some .int), [])
abbrev jm123p : List Nat := [0]
/-- Slidingtray.reaches()Z -/
def jm124 : jM := (
  [[(.aload_n 0, 1, 0, 0), (.getfield 12, 3, 11, 0), (.getfield 112, 3, 9, 0), (.invokevirtual 267, 3, 47, 1), (.ifCond .ne 16, 3, 1, 0), (.aload_n 0, 1, 0, 0), (.getfield 12, 3, 11, 0), (.getfield 153, 3, 9, 1), (.invokevirtual 271, 3, 16, 1), (.ifCond .eq 14, 3, 2, 0), (.nop, 0, 1, 0)],
   [(.new 197, 3, 1, 779)],
   [(.aload_n 0, 1, 0, 0), (.getfield 12, 3, 11, 0), (.getfield 153, 3, 9, 1), (.aload_n 0, 1, 0, 0), (.getfield 23, 3, 11, 2), (.invokevirtual 276, 3, 13, 2), (.aload_n 0, 1, 0, 0), (.getfield 12, 3, 11, 0), (.getfield 112, 3, 9, 0), (.aload_n 0, 1, 0, 0), (.getfield 19, 3, 11, 1), (.getfield 137, 3, 7, 1), (.iconst 0, 1, 0, 0), (.iaload, 1, 0, 0), (.aload_n 0, 1, 0, 0), (.getfield 23, 3, 11, 2), (.getfield 137, 3, 7, 1), (.iconst 0, 1, 0, 0), (.iaload, 1, 0, 0), (.invokevirtual 279, 3, 49, 3), (.istore_n 1, 1, 0, 0), (.aload_n 0, 1, 0, 0), (.getfield 19, 3, 11, 1), (.invokevirtual 264, 3, 80, 1), (.aload_n 0, 1, 0, 0), (.getfield 23, 3, 11, 2), (.invokevirtual 264, 3, 80, 1), (.iadd, 1, 0, 0), (.iload_n 1, 1, 0, 0), (.iadd, 1, 0, 0), (.iconst 2, 1, 0, 0), (.irem, 1, 0, 0), (.ifCond .ne 7, 3, 3, 0), (.iconst 1, 1, 0, 0), (.goto 4, 3, 4, 0)],
   [(.iconst 0, 1, 0, 0), (.nop, 0, 4, 0)],
   [(.ireturn, 1, 0, 0)]],
  [], (2, 6, 90, 11), [], ⟨"Slidingtray", "reaches", "()Z"⟩, prog_1_method_18_code, (some .boolean), [])
abbrev jm124p : List Nat := [0, 26, 37, 106, 107]
/-- Slidingtray.estimate(I)I -/
def jm125 : jM := (
  [[(.iload_n 1, 1, 0, 0), (.invokestatic 282, 3, 149, 1), (.ifCond .ne 14, 3, 1, 0), (.new 101, 3, 0, 779)],
   [(.aload_n 0, 1, 0, 0), (.getfield 12, 3, 11, 0), (.aload_n 0, 1, 0, 0), (.getfield 19, 3, 11, 1), (.iload_n 1, 1, 0, 0), (.invokevirtual 287, 3, 96, 3), (.ireturn, 1, 0, 0)]],
  [], (2, 6, 99, 11), [], ⟨"Slidingtray", "estimate", "(I)I"⟩, prog_1_method_19_code, (some .int), [])
abbrev jm125p : List Nat := [0, 18]
/-- Slidingtray.solve(I)I -/
def jm126 : jM := (
  [[(.iload_n 1, 1, 0, 0), (.invokestatic 282, 3, 149, 1), (.ifCond .ne 14, 3, 1, 0), (.new 101, 3, 0, 779)],
   [(.aload_n 0, 1, 0, 0), (.getfield 55, 3, 11, 11), (.aload_n 0, 1, 0, 0), (.getfield 12, 3, 11, 0), (.aload_n 0, 1, 0, 0), (.getfield 19, 3, 11, 1), (.iload_n 1, 1, 0, 0), (.aload_n 0, 1, 0, 0), (.getfield 86, 3, 11, 18), (.invokevirtual 291, 3, 33, 5), (.istore_n 2, 1, 0, 0), (.iload_n 2, 1, 0, 0), (.bipush (-2), 2, 0, 0), (.if_icmp .ne 14, 3, 2, 0), (.new 197, 3, 1, 779)],
   [(.aload_n 0, 1, 0, 0), (.aload_n 0, 1, 0, 0), (.getfield 55, 3, 11, 11), (.aload_n 0, 1, 0, 0), (.getfield 80, 3, 11, 15), (.invokevirtual 297, 3, 36, 2), (.putfield 301, 3, 44, 16), (.aload_n 0, 1, 0, 0), (.aload_n 0, 1, 0, 0), (.getfield 55, 3, 11, 11), (.getfield 304, 3, 3, 0), (.iconst 0, 1, 0, 0), (.aload_n 0, 1, 0, 0), (.getfield 301, 3, 11, 16), (.invokevirtual 307, 3, 142, 4), (.iload_n 2, 1, 0, 0), (.ireturn, 1, 0, 0)]],
  [], (3, 7, 180, 11), [], ⟨"Slidingtray", "solve", "(I)I"⟩, prog_1_method_20_code, (some .int), [])
abbrev jm126p : List Nat := [0, 18, 56]
/-- Slidingtray.deepen(I)I -/
def jm127 : jM := (
  [[(.iload_n 1, 1, 0, 0), (.invokestatic 282, 3, 149, 1), (.ifCond .ne 14, 3, 1, 0), (.new 101, 3, 0, 779)],
   [(.aload_n 0, 1, 0, 0), (.getfield 62, 3, 11, 12), (.aload_n 0, 1, 0, 0), (.getfield 12, 3, 11, 0), (.aload_n 0, 1, 0, 0), (.getfield 19, 3, 11, 1), (.iload_n 1, 1, 0, 0), (.aload_n 0, 1, 0, 0), (.getfield 86, 3, 11, 18), (.invokevirtual 310, 3, 55, 5), (.istore_n 2, 1, 0, 0), (.iload_n 2, 1, 0, 0), (.bipush (-2), 2, 0, 0), (.if_icmp .ne 14, 3, 2, 0), (.new 197, 3, 1, 779)],
   [(.aload_n 0, 1, 0, 0), (.aload_n 0, 1, 0, 0), (.getfield 62, 3, 11, 12), (.aload_n 0, 1, 0, 0), (.getfield 80, 3, 11, 15), (.invokevirtual 313, 3, 60, 2), (.putfield 301, 3, 44, 16), (.aload_n 0, 1, 0, 0), (.aload_n 0, 1, 0, 0), (.getfield 62, 3, 11, 12), (.getfield 314, 3, 5, 0), (.aload_n 0, 1, 0, 0), (.getfield 62, 3, 11, 12), (.getfield 317, 3, 5, 1), (.aload_n 0, 1, 0, 0), (.getfield 301, 3, 11, 16), (.invokevirtual 307, 3, 142, 4), (.iload_n 2, 1, 0, 0), (.ireturn, 1, 0, 0)]],
  [], (3, 6, 153, 11), [], ⟨"Slidingtray", "deepen", "(I)I"⟩, prog_1_method_21_code, (some .int), [])
abbrev jm127p : List Nat := [0, 18, 56]
/-- Slidingtray.both()I -/
def jm128 : jM := (
  [[(.aload_n 0, 1, 0, 0), (.getfield 12, 3, 11, 0), (.getfield 153, 3, 9, 1), (.invokevirtual 271, 3, 16, 1), (.ifCond .eq 14, 3, 1, 0), (.new 197, 3, 1, 779)],
   [(.aload_n 0, 1, 0, 0), (.getfield 69, 3, 11, 13), (.aload_n 0, 1, 0, 0), (.getfield 12, 3, 11, 0), (.aload_n 0, 1, 0, 0), (.getfield 19, 3, 11, 1), (.aload_n 0, 1, 0, 0), (.getfield 86, 3, 11, 18), (.invokevirtual 322, 3, 104, 4), (.istore_n 1, 1, 0, 0), (.iload_n 1, 1, 0, 0), (.bipush (-2), 2, 0, 0), (.if_icmp .ne 14, 3, 2, 0), (.new 197, 3, 1, 779)],
   [(.aload_n 0, 1, 0, 0), (.aload_n 0, 1, 0, 0), (.getfield 69, 3, 11, 13), (.getfield 325, 3, 10, 0), (.aload_n 0, 1, 0, 0), (.getfield 69, 3, 11, 13), (.getfield 328, 3, 10, 1), (.iconst 0, 1, 0, 0), (.invokevirtual 307, 3, 142, 4), (.iload_n 1, 1, 0, 0), (.ireturn, 1, 0, 0)]],
  [], (2, 6, 124, 11), [], ⟨"Slidingtray", "both", "()I"⟩, prog_1_method_22_code, (some .int), [])
abbrev jm128p : List Nat := [0, 24, 61]
/-- Slidingtray.searched(I)I -/
def jm129 : jM := (
  [[(.iload_n 1, 1, 0, 0), (.ifCond .lt 12, 3, 1, 0), (.iload_n 1, 1, 0, 0), (.aload_n 0, 1, 0, 0), (.getfield 83, 3, 11, 17), (.arraylength, 1, 0, 0), (.if_icmp .lt 14, 3, 2, 0), (.nop, 0, 1, 0)],
   [(.new 101, 3, 0, 779)],
   [(.aload_n 0, 1, 0, 0), (.getfield 83, 3, 11, 17), (.iload_n 1, 1, 0, 0), (.iaload, 1, 0, 0), (.ireturn, 1, 0, 0)]],
  [], (2, 6, 90, 11), [], ⟨"Slidingtray", "searched", "(I)I"⟩, prog_1_method_23_code, (some .int), [])
abbrev jm129p : List Nat := [0, 13, 24]
/-- Slidingtray.wayAt(I)I -/
def jm130 : jM := (
  [[(.iload_n 1, 1, 0, 0), (.ifCond .lt 11, 3, 1, 0), (.iload_n 1, 1, 0, 0), (.aload_n 0, 1, 0, 0), (.getfield 301, 3, 11, 16), (.if_icmp .lt 13, 3, 2, 0), (.nop, 0, 1, 0)],
   [(.new 235, 3, 3, 779)],
   [(.aload_n 0, 1, 0, 0), (.getfield 80, 3, 11, 15), (.iload_n 1, 1, 0, 0), (.iaload, 1, 0, 0), (.ireturn, 1, 0, 0)]],
  [], (2, 6, 90, 11), [], ⟨"Slidingtray", "wayAt", "(I)I"⟩, prog_1_method_24_code, (some .int), [])
abbrev jm130p : List Nat := [0, 12, 22]
/-- Slidingtray.hint()I -/
def jm131 : jM := (
  [[(.aload_n 0, 1, 0, 0), (.getfield 55, 3, 11, 11), (.aload_n 0, 1, 0, 0), (.getfield 12, 3, 11, 0), (.aload_n 0, 1, 0, 0), (.getfield 19, 3, 11, 1), (.iconst 3, 1, 0, 0), (.bipush 100, 2, 0, 0), (.invokevirtual 291, 3, 33, 5), (.istore_n 1, 1, 0, 0), (.iload_n 1, 1, 0, 0), (.bipush (-2), 2, 0, 0), (.if_icmp .ne 14, 3, 1, 0), (.new 197, 3, 1, 779)],
   [(.iload_n 1, 1, 0, 0), (.iconst (-1), 1, 0, 0), (.if_icmp .eq 7, 3, 2, 0), (.iload_n 1, 1, 0, 0), (.ifCond .ne 5, 3, 3, 0), (.nop, 0, 2, 0)],
   [(.iconst (-1), 1, 0, 0), (.ireturn, 1, 0, 0)],
   [(.iconst 0, 1, 0, 0), (.istore_n 2, 1, 0, 0), (.nop, 0, 4, 0)],
   [(.iload_n 2, 1, 0, 0), (.iconst 3, 1, 0, 0), (.if_icmp .gt 102, 3, 8, 0), (.aload_n 0, 1, 0, 0), (.getfield 23, 3, 11, 2), (.aload_n 0, 1, 0, 0), (.getfield 19, 3, 11, 1), (.invokevirtual 245, 3, 74, 2), (.aload_n 0, 1, 0, 0), (.getfield 23, 3, 11, 2), (.aload_n 0, 1, 0, 0), (.getfield 12, 3, 11, 0), (.getfield 112, 3, 9, 0), (.iload_n 2, 1, 0, 0), (.invokevirtual 149, 3, 76, 3), (.istore_n 3, 1, 0, 0), (.iload_n 3, 1, 0, 0), (.ifCond .ne 6, 3, 5, 0), (.goto 62, 3, 7, 0)],
   [(.aload_n 0, 1, 0, 0), (.getfield 55, 3, 11, 11), (.aload_n 0, 1, 0, 0), (.getfield 12, 3, 11, 0), (.aload_n 0, 1, 0, 0), (.getfield 23, 3, 11, 2), (.iconst 3, 1, 0, 0), (.bipush 100, 2, 0, 0), (.invokevirtual 291, 3, 33, 5), (.istore 4, 2, 0, 0), (.iload 4, 2, 0, 0), (.bipush (-2), 2, 0, 0), (.if_icmp .ne 14, 3, 6, 0), (.new 197, 3, 1, 779)],
   [(.iload 4, 2, 0, 0), (.aload_n 0, 1, 0, 0), (.getfield 12, 3, 11, 0), (.getfield 153, 3, 9, 1), (.getfield 183, 3, 1, 1), (.iload_n 3, 1, 0, 0), (.iaload, 1, 0, 0), (.iadd, 1, 0, 0), (.iload_n 1, 1, 0, 0), (.if_icmp .ne 5, 3, 7, 0), (.iload_n 2, 1, 0, 0), (.ireturn, 1, 0, 0)],
   [(.iinc 2 1, 3, 0, 0), (.goto (-101), 3, 4, 0)],
   [(.iconst (-1), 1, 0, 0), (.ireturn, 1, 0, 0)]],
  [], (5, 7, 180, 11), [], ⟨"Slidingtray", "hint", "()I"⟩, prog_1_method_25_code, (some .int), [])
abbrev jm131p : List Nat := [0, 36, 45, 47, 49, 88, 126, 147, 153]
/-- Slidingtray.far(I)I -/
def jm132 : jM := (
  [[(.iload_n 1, 1, 0, 0), (.ifCond .lt 8, 3, 1, 0), (.iload_n 1, 1, 0, 0), (.iconst 5, 1, 0, 0), (.if_icmp .le 14, 3, 2, 0), (.nop, 0, 1, 0)],
   [(.new 101, 3, 0, 779)],
   [(.aload_n 0, 1, 0, 0), (.getfield 12, 3, 11, 0), (.getfield 112, 3, 9, 0), (.getfield 116, 3, 4, 3), (.bipush 6, 2, 0, 0), (.if_icmp .le 14, 3, 3, 0), (.new 197, 3, 1, 779)],
   [(.aload_n 0, 1, 0, 0), (.getfield 76, 3, 11, 14), (.aload_n 0, 1, 0, 0), (.getfield 12, 3, 11, 0), (.invokevirtual 336, 3, 22, 2), (.iload_n 1, 1, 0, 0), (.tableswitch 89 0 4 #[34, 42, 50, 58, 74], 34, 0, 0)],
   [(.aload_n 0, 1, 0, 0), (.getfield 76, 3, 11, 14), (.getfield 340, 3, 2, 0), (.ireturn, 1, 0, 0)],
   [(.aload_n 0, 1, 0, 0), (.getfield 76, 3, 11, 14), (.getfield 343, 3, 2, 1), (.ireturn, 1, 0, 0)],
   [(.aload_n 0, 1, 0, 0), (.getfield 76, 3, 11, 14), (.getfield 346, 3, 2, 2), (.ireturn, 1, 0, 0)],
   [(.aload_n 0, 1, 0, 0), (.getfield 76, 3, 11, 14), (.aload_n 0, 1, 0, 0), (.getfield 76, 3, 11, 14), (.getfield 343, 3, 2, 1), (.iconst 0, 1, 0, 0), (.invokevirtual 349, 3, 29, 3), (.ireturn, 1, 0, 0)],
   [(.aload_n 0, 1, 0, 0), (.getfield 76, 3, 11, 14), (.aload_n 0, 1, 0, 0), (.getfield 19, 3, 11, 1), (.invokevirtual 164, 3, 77, 1), (.invokevirtual 353, 3, 27, 2), (.ireturn, 1, 0, 0)],
   [(.aload_n 0, 1, 0, 0), (.getfield 76, 3, 11, 14), (.aload_n 0, 1, 0, 0), (.getfield 19, 3, 11, 1), (.invokevirtual 164, 3, 77, 1), (.invokevirtual 357, 3, 28, 2), (.ireturn, 1, 0, 0)]],
  [[9, 4, 5, 6, 7, 8]], (2, 6, 117, 11), [], ⟨"Slidingtray", "far", "(I)I"⟩, prog_1_method_26_code, (some .int), [])
abbrev jm132p : List Nat := [0, 9, 20, 46, 92, 100, 108, 116, 132, 147]
/-- Slidingtray.onlyWay(I)I -/
def jm133 : jM := (
  [[(.iload_n 1, 1, 0, 0), (.ifCond .ge 14, 3, 1, 0), (.new 101, 3, 0, 779)],
   [(.aload_n 0, 1, 0, 0), (.getfield 12, 3, 11, 0), (.getfield 112, 3, 9, 0), (.getfield 116, 3, 4, 3), (.bipush 6, 2, 0, 0), (.if_icmp .le 14, 3, 2, 0), (.new 197, 3, 1, 779)],
   [(.aload_n 0, 1, 0, 0), (.getfield 76, 3, 11, 14), (.aload_n 0, 1, 0, 0), (.getfield 12, 3, 11, 0), (.invokevirtual 336, 3, 22, 2), (.aload_n 0, 1, 0, 0), (.getfield 76, 3, 11, 14), (.iload_n 1, 1, 0, 0), (.iconst 1, 1, 0, 0), (.invokevirtual 349, 3, 29, 3), (.ireturn, 1, 0, 0)]],
  [], (2, 6, 117, 11), [], ⟨"Slidingtray", "onlyWay", "(I)I"⟩, prog_1_method_27_code, (some .int), [])
abbrev jm133p : List Nat := [0, 15, 41]
/-- Slidingtray.isFair(I)Z -/
def jm134 : jM := (
  [[(.iload_n 1, 1, 0, 0), (.invokestatic 282, 3, 149, 1), (.ifCond .ne 14, 3, 1, 0), (.new 101, 3, 0, 779)],
   [(.aload_n 0, 1, 0, 0), (.getfield 12, 3, 11, 0), (.getfield 112, 3, 9, 0), (.getfield 116, 3, 4, 3), (.bipush 6, 2, 0, 0), (.if_icmp .le 14, 3, 2, 0), (.new 197, 3, 1, 779)],
   [(.aload_n 0, 1, 0, 0), (.getfield 76, 3, 11, 14), (.aload_n 0, 1, 0, 0), (.getfield 12, 3, 11, 0), (.invokevirtual 336, 3, 22, 2), (.aload_n 0, 1, 0, 0), (.getfield 76, 3, 11, 14), (.aload_n 0, 1, 0, 0), (.getfield 12, 3, 11, 0), (.iload_n 1, 1, 0, 0), (.invokevirtual 362, 3, 30, 3), (.ireturn, 1, 0, 0)]],
  [], (2, 6, 122, 11), [], ⟨"Slidingtray", "isFair", "(I)Z"⟩, prog_1_method_28_code, (some .boolean), [])
abbrev jm134p : List Nat := [0, 18, 44]
/-- Slidingtray.part(I)I -/
def jm135 : jM := (
  [[(.iload_n 1, 1, 0, 0), (.ifCond .eq 25, 3, 1, 0), (.iload_n 1, 1, 0, 0), (.aload_n 0, 1, 0, 0), (.getfield 12, 3, 11, 0), (.invokevirtual 366, 3, 93, 1), (.iconst (-1), 1, 0, 0), (.ixor, 1, 0, 0), (.iand, 1, 0, 0), (.ifCond .ne 11, 3, 1, 0), (.iload_n 1, 1, 0, 0), (.invokestatic 369, 3, 0, 1), (.iconst 3, 1, 0, 0), (.if_icmp .le 14, 3, 2, 0), (.nop, 0, 1, 0)],
   [(.new 101, 3, 0, 779)],
   [(.aload_n 0, 1, 0, 0), (.getfield 12, 3, 11, 0), (.iload_n 1, 1, 0, 0), (.invokevirtual 376, 3, 94, 2), (.ifCond .ne 14, 3, 3, 0), (.new 197, 3, 1, 779)],
   [(.aload_n 0, 1, 0, 0), (.getfield 12, 3, 11, 0), (.iload_n 1, 1, 0, 0), (.invokevirtual 381, 3, 95, 2), (.ireturn, 1, 0, 0)]],
  [], (2, 6, 146, 11), [], ⟨"Slidingtray", "part", "(I)I"⟩, prog_1_method_29_code, (some .int), [])
abbrev jm135p : List Nat := [0, 26, 37, 59]
/-- Slidingtray.meanWeight()D -/
def jm136 : jM := (
  [[(.iconst 0, 1, 0, 0), (.istore_n 1, 1, 0, 0), (.iconst 1, 1, 0, 0), (.istore_n 2, 1, 0, 0), (.nop, 0, 1, 0)],
   [(.iload_n 2, 1, 0, 0), (.aload_n 0, 1, 0, 0), (.invokevirtual 108, 3, 143, 1), (.if_icmp .gt 24, 3, 2, 0), (.iload_n 1, 1, 0, 0), (.aload_n 0, 1, 0, 0), (.getfield 12, 3, 11, 0), (.getfield 153, 3, 9, 1), (.getfield 183, 3, 1, 1), (.iload_n 2, 1, 0, 0), (.iaload, 1, 0, 0), (.iadd, 1, 0, 0), (.istore_n 1, 1, 0, 0), (.iinc 2 1, 3, 0, 0), (.goto (-26), 3, 1, 0)],
   [(.iload_n 1, 1, 0, 0), (.i2d, 1, 0, 0), (.aload_n 0, 1, 0, 0), (.invokevirtual 108, 3, 143, 1), (.i2d, 1, 0, 0), (.ddiv, 1, 0, 0), (.dreturn, 1, 0, 0)]],
  [], (3, 1, 20, 11), [], ⟨"Slidingtray", "meanWeight", "()D"⟩, prog_1_method_30_code, (some .double), [])
abbrev jm136p : List Nat := [0, 4, 33]
/-- Slidingtray.settled()F -/
def jm137 : jM := (
  [[(.iconst 0, 1, 0, 0), (.istore_n 1, 1, 0, 0), (.iconst 0, 1, 0, 0), (.istore_n 2, 1, 0, 0), (.iconst 1, 1, 0, 0), (.istore_n 3, 1, 0, 0), (.nop, 0, 1, 0)],
   [(.iload_n 3, 1, 0, 0), (.aload_n 0, 1, 0, 0), (.invokevirtual 108, 3, 143, 1), (.if_icmp .gt 50, 3, 4, 0), (.aload_n 0, 1, 0, 0), (.getfield 12, 3, 11, 0), (.getfield 153, 3, 9, 1), (.iload_n 3, 1, 0, 0), (.invokevirtual 173, 3, 14, 2), (.ifCond .eq 6, 3, 2, 0), (.goto 27, 3, 3, 0)],
   [(.iinc 1 1, 3, 0, 0), (.aload_n 0, 1, 0, 0), (.getfield 12, 3, 11, 0), (.getfield 153, 3, 9, 1), (.aload_n 0, 1, 0, 0), (.getfield 19, 3, 11, 1), (.iload_n 3, 1, 0, 0), (.invokevirtual 384, 3, 17, 3), (.ifCond .eq 6, 3, 3, 0), (.iinc 2 1, 3, 0, 0), (.nop, 0, 3, 0)],
   [(.iinc 3 1, 3, 0, 0), (.goto (-52), 3, 1, 0)],
   [(.iload_n 1, 1, 0, 0), (.ifCond .ne 7, 3, 5, 0), (.fconst 0, 1, 0, 0), (.goto 8, 3, 6, 0)],
   [(.iload_n 2, 1, 0, 0), (.i2f, 1, 0, 0), (.iload_n 1, 1, 0, 0), (.i2f, 1, 0, 0), (.fdiv, 1, 0, 0), (.nop, 0, 6, 0)],
   [(.freturn, 1, 0, 0)]],
  [], (4, 1, 22, 11), [], ⟨"Slidingtray", "settled", "()F"⟩, prog_1_method_31_code, (some .float), [])
abbrev jm137p : List Nat := [0, 6, 31, 55, 61, 69, 74]
