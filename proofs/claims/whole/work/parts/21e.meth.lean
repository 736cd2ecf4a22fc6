/-- SlidingtrayModel.onlyWay(I)I -/
def jm235 : jM := (
  [[(.iload_n 1, 1, 0, 0), (.ifCond .ge 9, 3, 1, 0), (.aload_n 0, 1, 0, 0), (.iconst 1, 1, 0, 0), (.invokevirtual 204, 3, 158, 2), (.ireturn, 1, 0, 0)],
   [(.aload_n 0, 1, 0, 0), (.getfield 170, 3, 12, 7), (.bipush 6, 2, 0, 0), (.if_icmp .le 9, 3, 2, 0), (.aload_n 0, 1, 0, 0), (.iconst 2, 1, 0, 0), (.invokevirtual 204, 3, 158, 2), (.ireturn, 1, 0, 0)],
   [(.aload_n 0, 1, 0, 0), (.invokevirtual 389, 3, 231, 1), (.aload_n 0, 1, 0, 0), (.invokevirtual 392, 3, 233, 1), (.iconst 0, 1, 0, 0), (.istore_n 2, 1, 0, 0), (.nop, 0, 3, 0)],
   [(.iload_n 2, 1, 0, 0), (.aload_n 0, 1, 0, 0), (.getfield 382, 3, 12, 65), (.if_icmp .ge 46, 3, 5, 0), (.aload_n 0, 1, 0, 0), (.getfield 149, 3, 12, 61), (.iload_n 2, 1, 0, 0), (.iaload, 1, 0, 0), (.ldc 199, 2, 1000000000, 0), (.if_icmp .ge 29, 3, 4, 0), (.aload_n 0, 1, 0, 0), (.getfield 149, 3, 12, 61), (.iload_n 2, 1, 0, 0), (.iaload, 1, 0, 0), (.iload_n 1, 1, 0, 0), (.if_icmp .ne 19, 3, 4, 0), (.aload_n 0, 1, 0, 0), (.getfield 158, 3, 12, 64), (.iload_n 2, 1, 0, 0), (.iaload, 1, 0, 0), (.iconst 1, 1, 0, 0), (.if_icmp .ne 9, 3, 4, 0), (.aload_n 0, 1, 0, 0), (.iload_n 2, 1, 0, 0), (.invokevirtual 215, 3, 159, 2), (.ireturn, 1, 0, 0)],
   [(.iinc 2 1, 3, 0, 0), (.goto (-48), 3, 3, 0)],
   [(.aload_n 0, 1, 0, 0), (.iconst (-1), 1, 0, 0), (.invokevirtual 215, 3, 159, 2), (.ireturn, 1, 0, 0)]],
  [], (3, 3, 76, 12), [], ⟨"SlidingtrayModel", "onlyWay", "(I)I"⟩, prog_14_method_81_code, (some .int), [])
abbrev jm235p : List Nat := [0, 10, 25, 35, 80, 86]
/-- SlidingtrayModel.isFairBy(I)Z -/
def jm236 : jM := (
  [[(.iconst 0, 1, 0, 0), (.istore_n 2, 1, 0, 0), (.nop, 0, 1, 0)],
   [(.iload_n 2, 1, 0, 0), (.aload_n 0, 1, 0, 0), (.getfield 382, 3, 12, 65), (.if_icmp .ge 34, 3, 2, 0), (.aload_n 0, 1, 0, 0), (.iload_n 2, 1, 0, 0), (.i2l, 1, 0, 0), (.aload_n 0, 1, 0, 0), (.getfield 128, 3, 12, 43), (.invokevirtual 265, 3, 172, 3), (.aload_n 0, 1, 0, 0), (.getfield 161, 3, 12, 66), (.iload_n 2, 1, 0, 0), (.aload_n 0, 1, 0, 0), (.aload_n 0, 1, 0, 0), (.getfield 128, 3, 12, 43), (.iload_n 1, 1, 0, 0), (.invokevirtual 302, 3, 177, 3), (.iastore, 1, 0, 0), (.iinc 2 1, 3, 0, 0), (.goto (-36), 3, 1, 0)],
   [(.iconst 1, 1, 0, 0), (.istore_n 2, 1, 0, 0), (.iconst 0, 1, 0, 0), (.istore_n 3, 1, 0, 0), (.nop, 0, 3, 0)],
   [(.iload_n 3, 1, 0, 0), (.iconst 4, 1, 0, 0), (.aload_n 0, 1, 0, 0), (.getfield 382, 3, 12, 65), (.imul, 1, 0, 0), (.if_icmp .ge 118, 3, 12, 0), (.iload_n 3, 1, 0, 0), (.iconst 4, 1, 0, 0), (.idiv, 1, 0, 0), (.istore 4, 2, 0, 0), (.aload_n 0, 1, 0, 0), (.getfield 149, 3, 12, 61), (.iload 4, 2, 0, 0), (.iaload, 1, 0, 0), (.ldc 199, 2, 1000000000, 0), (.if_icmp .ge 7, 3, 4, 0), (.iconst 1, 1, 0, 0), (.goto 4, 3, 5, 0)],
   [(.iconst 0, 1, 0, 0), (.nop, 0, 5, 0)],
   [(.istore 5, 2, 0, 0), (.iload_n 2, 1, 0, 0), (.ifCond .eq 29, 3, 7, 0), (.iload 5, 2, 0, 0), (.ifCond .eq 20, 3, 6, 0), (.aload_n 0, 1, 0, 0), (.getfield 161, 3, 12, 66), (.iload 4, 2, 0, 0), (.iaload, 1, 0, 0), (.aload_n 0, 1, 0, 0), (.getfield 149, 3, 12, 61), (.iload 4, 2, 0, 0), (.iaload, 1, 0, 0), (.if_icmp .gt 7, 3, 7, 0), (.nop, 0, 6, 0)],
   [(.iconst 1, 1, 0, 0), (.goto 4, 3, 8, 0)],
   [(.iconst 0, 1, 0, 0), (.nop, 0, 8, 0)],
   [(.istore_n 2, 1, 0, 0), (.iload_n 2, 1, 0, 0), (.ifCond .eq 50, 3, 10, 0), (.iload 5, 2, 0, 0), (.ifCond .eq 41, 3, 9, 0), (.aload_n 0, 1, 0, 0), (.getfield 152, 3, 12, 62), (.iload_n 3, 1, 0, 0), (.iaload, 1, 0, 0), (.iconst (-1), 1, 0, 0), (.if_icmp .eq 31, 3, 9, 0), (.aload_n 0, 1, 0, 0), (.getfield 161, 3, 12, 66), (.iload 4, 2, 0, 0), (.iaload, 1, 0, 0), (.aload_n 0, 1, 0, 0), (.getfield 161, 3, 12, 66), (.aload_n 0, 1, 0, 0), (.getfield 152, 3, 12, 62), (.iload_n 3, 1, 0, 0), (.iaload, 1, 0, 0), (.iaload, 1, 0, 0), (.isub, 1, 0, 0), (.aload_n 0, 1, 0, 0), (.getfield 155, 3, 12, 63), (.iload_n 3, 1, 0, 0), (.iaload, 1, 0, 0), (.if_icmp .gt 7, 3, 10, 0), (.nop, 0, 9, 0)],
   [(.iconst 1, 1, 0, 0), (.goto 4, 3, 11, 0)],
   [(.iconst 0, 1, 0, 0), (.nop, 0, 11, 0)],
   [(.istore_n 2, 1, 0, 0), (.iinc 3 1, 3, 0, 0), (.goto (-122), 3, 3, 0)],
   [(.iload_n 2, 1, 0, 0), (.ireturn, 1, 0, 0)]],
  [], (6, 3, 77, 12), [], ⟨"SlidingtrayModel", "isFairBy", "(I)Z"⟩, prog_14_method_82_code, (some .boolean), [])
abbrev jm236p : List Nat := [0, 2, 41, 45, 76, 77, 105, 109, 110, 158, 162, 163, 170]
/-- SlidingtrayModel.isFair(I)Z -/
def jm237 : jM := (
  [[(.iload_n 1, 1, 0, 0), (.iconst 0, 1, 0, 0), (.iconst 4, 1, 0, 0), (.invokestatic 200, 3, 157, 3), (.ifCond .ne 9, 3, 1, 0), (.aload_n 0, 1, 0, 0), (.iconst 1, 1, 0, 0), (.invokevirtual 278, 3, 161, 2), (.ireturn, 1, 0, 0)],
   [(.aload_n 0, 1, 0, 0), (.getfield 170, 3, 12, 7), (.bipush 6, 2, 0, 0), (.if_icmp .le 9, 3, 2, 0), (.aload_n 0, 1, 0, 0), (.iconst 2, 1, 0, 0), (.invokevirtual 278, 3, 161, 2), (.ireturn, 1, 0, 0)],
   [(.aload_n 0, 1, 0, 0), (.invokevirtual 389, 3, 231, 1), (.aload_n 0, 1, 0, 0), (.aload_n 0, 1, 0, 0), (.iload_n 1, 1, 0, 0), (.invokevirtual 395, 3, 236, 2), (.invokevirtual 281, 3, 160, 2), (.ireturn, 1, 0, 0)]],
  [], (2, 4, 102, 12), [], ⟨"SlidingtrayModel", "isFair", "(I)Z"⟩, prog_14_method_83_code, (some .boolean), [])
abbrev jm237p : List Nat := [0, 15, 30]
/-- SlidingtrayModel.meanWeight()D -/
def jm238 : jM := (
  [[(.aload_n 0, 1, 0, 0), (.iconst 0, 1, 0, 0), (.putfield 167, 3, 48, 8), (.iconst 0, 1, 0, 0), (.istore_n 1, 1, 0, 0), (.iconst 1, 1, 0, 0), (.istore_n 2, 1, 0, 0), (.nop, 0, 1, 0)],
   [(.iload_n 2, 1, 0, 0), (.aload_n 0, 1, 0, 0), (.getfield 170, 3, 12, 7), (.if_icmp .ge 18, 3, 2, 0), (.iload_n 1, 1, 0, 0), (.aload_n 0, 1, 0, 0), (.getfield 39, 3, 12, 11), (.iload_n 2, 1, 0, 0), (.iaload, 1, 0, 0), (.iadd, 1, 0, 0), (.istore_n 1, 1, 0, 0), (.iinc 2 1, 3, 0, 0), (.goto (-20), 3, 1, 0)],
   [(.iload_n 1, 1, 0, 0), (.i2d, 1, 0, 0), (.aload_n 0, 1, 0, 0), (.invokevirtual 211, 3, 165, 1), (.i2d, 1, 0, 0), (.ddiv, 1, 0, 0), (.dreturn, 1, 0, 0)]],
  [], (3, 1, 20, 12), [], ⟨"SlidingtrayModel", "meanWeight", "()D"⟩, prog_14_method_84_code, (some .double), [])
abbrev jm238p : List Nat := [0, 9, 32]
/-- SlidingtrayModel.settled()F -/
def jm239 : jM := (
  [[(.aload_n 0, 1, 0, 0), (.iconst 0, 1, 0, 0), (.putfield 167, 3, 48, 8), (.iconst 0, 1, 0, 0), (.istore_n 1, 1, 0, 0), (.iconst 0, 1, 0, 0), (.istore_n 2, 1, 0, 0), (.iconst 0, 1, 0, 0), (.istore_n 3, 1, 0, 0), (.nop, 0, 1, 0)],
   [(.iload_n 3, 1, 0, 0), (.aload_n 0, 1, 0, 0), (.getfield 170, 3, 12, 7), (.if_icmp .ge 76, 3, 8, 0), (.aload_n 0, 1, 0, 0), (.getfield 33, 3, 12, 9), (.iload_n 3, 1, 0, 0), (.iaload, 1, 0, 0), (.istore 4, 2, 0, 0), (.iload 4, 2, 0, 0), (.ifCond .le 17, 3, 2, 0), (.aload_n 0, 1, 0, 0), (.getfield 42, 3, 12, 12), (.iload 4, 2, 0, 0), (.baload, 1, 0, 0), (.ifCond .ne 7, 3, 2, 0), (.iconst 1, 1, 0, 0), (.goto 4, 3, 3, 0)],
   [(.iconst 0, 1, 0, 0), (.nop, 0, 3, 0)],
   [(.istore 5, 2, 0, 0), (.iload_n 2, 1, 0, 0), (.iload 5, 2, 0, 0), (.ifCond .eq 7, 3, 4, 0), (.iconst 1, 1, 0, 0), (.goto 4, 3, 5, 0)],
   [(.iconst 0, 1, 0, 0), (.nop, 0, 5, 0)],
   [(.iadd, 1, 0, 0), (.istore_n 2, 1, 0, 0), (.iload_n 1, 1, 0, 0), (.iload 5, 2, 0, 0), (.ifCond .eq 18, 3, 6, 0), (.aload_n 0, 1, 0, 0), (.getfield 36, 3, 12, 10), (.iload 4, 2, 0, 0), (.iaload, 1, 0, 0), (.iload_n 3, 1, 0, 0), (.if_icmp .ne 7, 3, 6, 0), (.iconst 1, 1, 0, 0), (.goto 4, 3, 7, 0)],
   [(.iconst 0, 1, 0, 0), (.nop, 0, 7, 0)],
   [(.iadd, 1, 0, 0), (.istore_n 1, 1, 0, 0), (.iinc 3 1, 3, 0, 0), (.goto (-78), 3, 1, 0)],
   [(.iload_n 2, 1, 0, 0), (.ifCond .ne 7, 3, 9, 0), (.fconst 0, 1, 0, 0), (.goto 8, 3, 10, 0)],
   [(.iload_n 1, 1, 0, 0), (.i2f, 1, 0, 0), (.iload_n 2, 1, 0, 0), (.i2f, 1, 0, 0), (.fdiv, 1, 0, 0), (.nop, 0, 10, 0)],
   [(.freturn, 1, 0, 0)]],
  [], (6, 0, 0, 12), [], ⟨"SlidingtrayModel", "settled", "()F"⟩, prog_14_method_85_code, (some .float), [])
abbrev jm239p : List Nat := [0, 11, 46, 47, 59, 60, 83, 84, 92, 100, 105]
/-- SlidingtrayModel.isRowAsLies()Z -/
def jm240 : jM := (
  [[(.iconst 1, 1, 0, 0), (.istore_n 1, 1, 0, 0), (.iconst 0, 1, 0, 0), (.istore_n 2, 1, 0, 0), (.nop, 0, 1, 0)],
   [(.iload_n 2, 1, 0, 0), (.aload_n 0, 1, 0, 0), (.getfield 170, 3, 12, 7), (.if_icmp .ge 34, 3, 4, 0), (.iload_n 1, 1, 0, 0), (.ifCond .eq 22, 3, 2, 0), (.aload_n 0, 1, 0, 0), (.getfield 128, 3, 12, 43), (.iload_n 2, 1, 0, 0), (.iaload, 1, 0, 0), (.aload_n 0, 1, 0, 0), (.getfield 33, 3, 12, 9), (.iload_n 2, 1, 0, 0), (.iaload, 1, 0, 0), (.if_icmp .ne 7, 3, 2, 0), (.iconst 1, 1, 0, 0), (.goto 4, 3, 3, 0)],
   [(.iconst 0, 1, 0, 0), (.nop, 0, 3, 0)],
   [(.istore_n 1, 1, 0, 0), (.iinc 2 1, 3, 0, 0), (.goto (-36), 3, 1, 0)],
   [(.iload_n 1, 1, 0, 0), (.ireturn, 1, 0, 0)]],
  [], (3, 0, 0, 12), [], ⟨"SlidingtrayModel", "isRowAsLies", "()Z"⟩, prog_14_method_86_code, (some .boolean), [])
abbrev jm240p : List Nat := [0, 4, 35, 36, 43]
/-- SlidingtrayModel.errors()I -/
def jm241 : jM := (
  [[(.iconst 0, 1, 0, 0), (.istore_n 1, 1, 0, 0), (.aload_n 0, 1, 0, 0), (.aload_n 0, 1, 0, 0), (.aload_n 0, 1, 0, 0), (.getfield 33, 3, 12, 9), (.invokevirtual 274, 3, 170, 2), (.aload_n 0, 1, 0, 0), (.getfield 128, 3, 12, 43), (.invokevirtual 265, 3, 172, 3), (.iload_n 1, 1, 0, 0), (.aload_n 0, 1, 0, 0), (.invokevirtual 398, 3, 240, 1), (.ifCond .eq 7, 3, 1, 0), (.iconst 0, 1, 0, 0), (.goto 4, 3, 2, 0)],
   [(.iconst 1, 1, 0, 0), (.nop, 0, 2, 0)],
   [(.iadd, 1, 0, 0), (.istore_n 1, 1, 0, 0), (.iconst 0, 1, 0, 0), (.istore_n 2, 1, 0, 0), (.nop, 0, 3, 0)],
   [(.iload_n 2, 1, 0, 0), (.iconst 4, 1, 0, 0), (.if_icmp .ge 124, 3, 12, 0), (.iconst 0, 1, 0, 0), (.istore_n 3, 1, 0, 0), (.nop, 0, 4, 0)],
   [(.iload_n 3, 1, 0, 0), (.iconst 4, 1, 0, 0), (.if_icmp .gt 111, 3, 11, 0), (.aload_n 0, 1, 0, 0), (.invokevirtual 343, 3, 218, 1), (.aload_n 0, 1, 0, 0), (.aload_n 0, 1, 0, 0), (.getfield 128, 3, 12, 43), (.iload_n 3, 1, 0, 0), (.invokevirtual 302, 3, 177, 3), (.istore 4, 2, 0, 0), (.aload_n 0, 1, 0, 0), (.aload_n 0, 1, 0, 0), (.getfield 128, 3, 12, 43), (.iload_n 2, 1, 0, 0), (.invokevirtual 270, 3, 187, 3), (.istore 5, 2, 0, 0), (.iload_n 1, 1, 0, 0), (.iload 5, 2, 0, 0), (.iconst (-1), 1, 0, 0), (.if_icmp .eq 24, 3, 5, 0), (.iload 4, 2, 0, 0), (.aload_n 0, 1, 0, 0), (.aload_n 0, 1, 0, 0), (.getfield 128, 3, 12, 43), (.iload_n 3, 1, 0, 0), (.invokevirtual 302, 3, 177, 3), (.isub, 1, 0, 0), (.iload 5, 2, 0, 0), (.if_icmp .le 7, 3, 5, 0), (.iconst 1, 1, 0, 0), (.goto 4, 3, 6, 0)],
   [(.iconst 0, 1, 0, 0), (.nop, 0, 6, 0)],
   [(.iadd, 1, 0, 0), (.istore_n 1, 1, 0, 0), (.iload 5, 2, 0, 0), (.iconst (-1), 1, 0, 0), (.if_icmp .ne 7, 3, 7, 0), (.iconst (-1), 1, 0, 0), (.goto 14, 3, 8, 0)],
   [(.aload_n 0, 1, 0, 0), (.aload_n 0, 1, 0, 0), (.getfield 128, 3, 12, 43), (.iconst 3, 1, 0, 0), (.iload_n 2, 1, 0, 0), (.isub, 1, 0, 0), (.invokevirtual 270, 3, 187, 3), (.nop, 0, 8, 0)],
   [(.istore 6, 2, 0, 0), (.iload_n 1, 1, 0, 0), (.iload 6, 2, 0, 0), (.iload 5, 2, 0, 0), (.if_icmp .ne 14, 3, 9, 0), (.aload_n 0, 1, 0, 0), (.invokevirtual 398, 3, 240, 1), (.ifCond .eq 7, 3, 9, 0), (.iconst 0, 1, 0, 0), (.goto 4, 3, 10, 0)],
   [(.iconst 1, 1, 0, 0), (.nop, 0, 10, 0)],
   [(.iadd, 1, 0, 0), (.istore_n 1, 1, 0, 0), (.iinc 3 1, 3, 0, 0), (.goto (-110), 3, 4, 0)],
   [(.iinc 2 1, 3, 0, 0), (.goto (-123), 3, 3, 0)],
   [(.aload_n 0, 1, 0, 0), (.getfield 170, 3, 12, 7), (.bipush 6, 2, 0, 0), (.if_icmp .gt 102, 3, 21, 0), (.aload_n 0, 1, 0, 0), (.invokevirtual 389, 3, 231, 1), (.aload_n 0, 1, 0, 0), (.getfield 149, 3, 12, 61), (.aload_n 0, 1, 0, 0), (.aload_n 0, 1, 0, 0), (.getfield 33, 3, 12, 9), (.invokevirtual 274, 3, 170, 2), (.l2i, 1, 0, 0), (.iaload, 1, 0, 0), (.istore_n 2, 1, 0, 0), (.iload_n 2, 1, 0, 0), (.ldc 199, 2, 1000000000, 0), (.if_icmp .ne 7, 3, 13, 0), (.iconst (-1), 1, 0, 0), (.goto 4, 3, 14, 0)],
   [(.iload_n 2, 1, 0, 0), (.nop, 0, 14, 0)],
   [(.istore_n 3, 1, 0, 0), (.aload_n 0, 1, 0, 0), (.invokevirtual 343, 3, 218, 1), (.aload_n 0, 1, 0, 0), (.iconst 3, 1, 0, 0), (.aload_n 0, 1, 0, 0), (.getfield 45, 3, 12, 13), (.invokevirtual 346, 3, 215, 3), (.istore 4, 2, 0, 0), (.aload_n 0, 1, 0, 0), (.invokevirtual 343, 3, 218, 1), (.aload_n 0, 1, 0, 0), (.iconst 3, 1, 0, 0), (.invokevirtual 371, 3, 222, 2), (.istore 5, 2, 0, 0), (.iload_n 1, 1, 0, 0), (.iload 4, 2, 0, 0), (.bipush (-2), 2, 0, 0), (.if_icmp .eq 9, 3, 15, 0), (.iload 4, 2, 0, 0), (.iload_n 3, 1, 0, 0), (.if_icmp .ne 7, 3, 16, 0), (.nop, 0, 15, 0)],
   [(.iconst 0, 1, 0, 0), (.goto 4, 3, 17, 0)],
   [(.iconst 1, 1, 0, 0), (.nop, 0, 17, 0)],
   [(.iadd, 1, 0, 0), (.istore_n 1, 1, 0, 0), (.iload_n 1, 1, 0, 0), (.iload 5, 2, 0, 0), (.bipush (-2), 2, 0, 0), (.if_icmp .eq 9, 3, 18, 0), (.iload 5, 2, 0, 0), (.iload_n 3, 1, 0, 0), (.if_icmp .ne 7, 3, 19, 0), (.nop, 0, 18, 0)],
   [(.iconst 0, 1, 0, 0), (.goto 4, 3, 20, 0)],
   [(.iconst 1, 1, 0, 0), (.nop, 0, 20, 0)],
   [(.iadd, 1, 0, 0), (.istore_n 1, 1, 0, 0), (.nop, 0, 21, 0)],
   [(.aload_n 0, 1, 0, 0), (.iload_n 1, 1, 0, 0), (.invokevirtual 215, 3, 159, 2), (.ireturn, 1, 0, 0)]],
  [], (7, 6, 149, 12), [], ⟨"SlidingtrayModel", "errors", "()I"⟩, prog_14_method_87_code, (some .int), [])
abbrev jm241p : List Nat := [0, 30, 31, 35, 42, 101, 102, 114, 125, 146, 147, 155, 161, 199, 200, 241, 245, 246, 262, 266, 267, 269]
/-- SlidingtrayLaw.tray(LSlidingtray;III[J)I -/
def jm242 : jM := (
  [[(.aload 4, 2, 0, 0), (.iconst 0, 1, 0, 0), (.aload_n 0, 1, 0, 0), (.iload_n 1, 1, 0, 0), (.iload_n 2, 1, 0, 0), (.iload_n 3, 1, 0, 0), (.invokevirtual 7, 3, 108, 4), (.i2l, 1, 0, 0), (.lastore, 1, 0, 0), (.goto 7, 3, 2, 0)],
   [(.astore 5, 2, 0, 0), (.iconst 1, 1, 0, 0), (.ireturn, 1, 0, 0)],
   [(.iconst 0, 1, 0, 0), (.ireturn, 1, 0, 0)]],
  [], (6, 7, 142, 99), [(0, 1)], ⟨"SlidingtrayLaw", "tray", "(LSlidingtray;III[J)I"⟩, method_3_code, (some .int), [(0, 12, 15, 13)])
abbrev jm242p : List Nat := [0, 15, 19]
/-- SlidingtrayLaw.lay(LSlidingtray;J[J)I -/
def jm243 : jM := (
  [[(.aload_n 3, 1, 0, 0), (.iconst 0, 1, 0, 0), (.aload_n 0, 1, 0, 0), (.lload_n 1, 1, 0, 0), (.invokevirtual 15, 3, 109, 2), (.i2l, 1, 0, 0), (.lastore, 1, 0, 0), (.goto 7, 3, 2, 0)],
   [(.astore 4, 2, 0, 0), (.iconst 1, 1, 0, 0), (.ireturn, 1, 0, 0)],
   [(.iconst 0, 1, 0, 0), (.ireturn, 1, 0, 0)]],
  [], (5, 7, 112, 99), [(0, 1)], ⟨"SlidingtrayLaw", "lay", "(LSlidingtray;J[J)I"⟩, method_4_code, (some .int), [(0, 9, 12, 13)])
abbrev jm243p : List Nat := [0, 12, 16]
/-- SlidingtrayLaw.mix(LSlidingtray;II[J)I -/
def jm244 : jM := (
  [[(.aload_n 3, 1, 0, 0), (.iconst 0, 1, 0, 0), (.aload_n 0, 1, 0, 0), (.iload_n 1, 1, 0, 0), (.iload_n 2, 1, 0, 0), (.invokevirtual 19, 3, 110, 3), (.i2l, 1, 0, 0), (.lastore, 1, 0, 0), (.goto 7, 3, 2, 0)],
   [(.astore 4, 2, 0, 0), (.iconst 1, 1, 0, 0), (.ireturn, 1, 0, 0)],
   [(.iconst 0, 1, 0, 0), (.ireturn, 1, 0, 0)]],
  [], (5, 7, 115, 99), [(0, 1)], ⟨"SlidingtrayLaw", "mix", "(LSlidingtray;II[J)I"⟩, method_5_code, (some .int), [(0, 10, 13, 13)])
abbrev jm244p : List Nat := [0, 13, 17]
/-- SlidingtrayLaw.setFree(LSlidingtray;IZ[J)I -/
def jm245 : jM := (
  [[(.aload_n 3, 1, 0, 0), (.iconst 0, 1, 0, 0), (.aload_n 0, 1, 0, 0), (.iload_n 1, 1, 0, 0), (.iload_n 2, 1, 0, 0), (.invokevirtual 23, 3, 112, 3), (.ifCond .eq 7, 3, 1, 0), (.lconst 1, 1, 0, 0), (.goto 4, 3, 2, 0)],
   [(.lconst 0, 1, 0, 0), (.nop, 0, 2, 0)],
   [(.lastore, 1, 0, 0), (.goto 7, 3, 4, 0)],
   [(.astore 4, 2, 0, 0), (.iconst 1, 1, 0, 0), (.ireturn, 1, 0, 0)],
   [(.iconst 0, 1, 0, 0), (.ireturn, 1, 0, 0)]],
  [], (5, 7, 113, 99), [(2, 3)], ⟨"SlidingtrayLaw", "setFree", "(LSlidingtray;IZ[J)I"⟩, method_6_code, (some .int), [(0, 17, 20, 27)])
abbrev jm245p : List Nat := [0, 15, 16, 20, 24]
/-- SlidingtrayLaw.setWeight(LSlidingtray;II[J)I -/
def jm246 : jM := (
  [[(.aload_n 3, 1, 0, 0), (.iconst 0, 1, 0, 0), (.aload_n 0, 1, 0, 0), (.iload_n 1, 1, 0, 0), (.iload_n 2, 1, 0, 0), (.invokevirtual 29, 3, 113, 3), (.i2l, 1, 0, 0), (.lastore, 1, 0, 0), (.goto 11, 3, 3, 0)],
   [(.astore 4, 2, 0, 0), (.iconst 1, 1, 0, 0), (.ireturn, 1, 0, 0)],
   [(.astore 4, 2, 0, 0), (.iconst 2, 1, 0, 0), (.ireturn, 1, 0, 0)],
   [(.iconst 0, 1, 0, 0), (.ireturn, 1, 0, 0)]],
  [], (5, 7, 113, 99), [(2, 1), (0, 2)], ⟨"SlidingtrayLaw", "setWeight", "(LSlidingtray;II[J)I"⟩, method_7_code, (some .int), [(0, 10, 13, 27), (0, 10, 17, 13)])
abbrev jm246p : List Nat := [0, 13, 17, 21]
/-- SlidingtrayLaw.setLimit(LSlidingtray;I[J)I -/
def jm247 : jM := (
  [[(.aload_n 2, 1, 0, 0), (.iconst 0, 1, 0, 0), (.aload_n 0, 1, 0, 0), (.iload_n 1, 1, 0, 0), (.invokevirtual 32, 3, 114, 2), (.i2l, 1, 0, 0), (.lastore, 1, 0, 0), (.goto 6, 3, 2, 0)],
   [(.astore_n 3, 1, 0, 0), (.iconst 1, 1, 0, 0), (.ireturn, 1, 0, 0)],
   [(.iconst 0, 1, 0, 0), (.ireturn, 1, 0, 0)]],
  [], (4, 7, 112, 99), [(0, 1)], ⟨"SlidingtrayLaw", "setLimit", "(LSlidingtray;I[J)I"⟩, method_8_code, (some .int), [(0, 9, 12, 13)])
abbrev jm247p : List Nat := [0, 12, 15]
/-- SlidingtrayLaw.move(LSlidingtray;II[J)I -/
def jm248 : jM := (
  [[(.aload_n 3, 1, 0, 0), (.iconst 0, 1, 0, 0), (.aload_n 0, 1, 0, 0), (.iload_n 1, 1, 0, 0), (.iload_n 2, 1, 0, 0), (.invokevirtual 36, 3, 115, 3), (.i2l, 1, 0, 0), (.lastore, 1, 0, 0), (.goto 11, 3, 3, 0)],
   [(.astore 4, 2, 0, 0), (.iconst 1, 1, 0, 0), (.ireturn, 1, 0, 0)],
   [(.astore 4, 2, 0, 0), (.iconst 2, 1, 0, 0), (.ireturn, 1, 0, 0)],
   [(.iconst 0, 1, 0, 0), (.ireturn, 1, 0, 0)]],
  [], (5, 7, 114, 99), [(0, 1), (1, 2)], ⟨"SlidingtrayLaw", "move", "(LSlidingtray;II[J)I"⟩, method_9_code, (some .int), [(0, 10, 13, 13), (0, 10, 17, 39)])
abbrev jm248p : List Nat := [0, 13, 17, 21]
/-- SlidingtrayLaw.undo(LSlidingtray;I[J)I -/
def jm249 : jM := (
  [[(.aload_n 2, 1, 0, 0), (.iconst 0, 1, 0, 0), (.aload_n 0, 1, 0, 0), (.iload_n 1, 1, 0, 0), (.invokevirtual 41, 3, 116, 2), (.i2l, 1, 0, 0), (.lastore, 1, 0, 0), (.goto 6, 3, 2, 0)],
   [(.astore_n 3, 1, 0, 0), (.iconst 1, 1, 0, 0), (.ireturn, 1, 0, 0)],
   [(.iconst 0, 1, 0, 0), (.ireturn, 1, 0, 0)]],
  [], (4, 7, 113, 99), [(0, 1)], ⟨"SlidingtrayLaw", "undo", "(LSlidingtray;I[J)I"⟩, method_10_code, (some .int), [(0, 9, 12, 13)])
abbrev jm249p : List Nat := [0, 12, 15]
/-- SlidingtrayLaw.setMacro(LSlidingtray;IJ[J)I -/
def jm250 : jM := (
  [[(.aload 4, 2, 0, 0), (.iconst 0, 1, 0, 0), (.aload_n 0, 1, 0, 0), (.iload_n 1, 1, 0, 0), (.lload_n 2, 1, 0, 0), (.invokevirtual 44, 3, 117, 3), (.i2l, 1, 0, 0), (.lastore, 1, 0, 0), (.goto 11, 3, 3, 0)],
   [(.astore 5, 2, 0, 0), (.iconst 1, 1, 0, 0), (.ireturn, 1, 0, 0)],
   [(.astore 5, 2, 0, 0), (.iconst 2, 1, 0, 0), (.ireturn, 1, 0, 0)],
   [(.iconst 0, 1, 0, 0), (.ireturn, 1, 0, 0)]],
  [], (6, 7, 116, 99), [(2, 1), (0, 2)], ⟨"SlidingtrayLaw", "setMacro", "(LSlidingtray;IJ[J)I"⟩, method_11_code, (some .int), [(0, 11, 14, 27), (0, 11, 18, 13)])
abbrev jm250p : List Nat := [0, 14, 18, 22]
/-- SlidingtrayLaw.play(LSlidingtray;II[J)I -/
def jm251 : jM := (
  [[(.aload_n 3, 1, 0, 0), (.iconst 0, 1, 0, 0), (.aload_n 0, 1, 0, 0), (.iload_n 1, 1, 0, 0), (.iload_n 2, 1, 0, 0), (.invokevirtual 48, 3, 118, 3), (.i2l, 1, 0, 0), (.lastore, 1, 0, 0), (.goto 15, 3, 4, 0)],
   [(.astore 4, 2, 0, 0), (.iconst 1, 1, 0, 0), (.ireturn, 1, 0, 0)],
   [(.astore 4, 2, 0, 0), (.iconst 2, 1, 0, 0), (.ireturn, 1, 0, 0)],
   [(.astore 4, 2, 0, 0), (.iconst 3, 1, 0, 0), (.ireturn, 1, 0, 0)],
   [(.iconst 0, 1, 0, 0), (.ireturn, 1, 0, 0)]],
  [], (5, 7, 116, 99), [(2, 1), (0, 2), (3, 3)], ⟨"SlidingtrayLaw", "play", "(LSlidingtray;II[J)I"⟩, method_12_code, (some .int), [(0, 10, 13, 27), (0, 10, 17, 13), (0, 10, 21, 51)])
abbrev jm251p : List Nat := [0, 13, 17, 21, 25]
/-- SlidingtrayLaw.keep(LSlidingtray;I[J)I -/
def jm252 : jM := (
  [[(.aload_n 2, 1, 0, 0), (.iconst 0, 1, 0, 0), (.aload_n 0, 1, 0, 0), (.iload_n 1, 1, 0, 0), (.invokevirtual 53, 3, 119, 2), (.lastore, 1, 0, 0), (.goto 6, 3, 2, 0)],
   [(.astore_n 3, 1, 0, 0), (.iconst 1, 1, 0, 0), (.ireturn, 1, 0, 0)],
   [(.iconst 0, 1, 0, 0), (.ireturn, 1, 0, 0)]],
  [], (4, 7, 111, 99), [(2, 1)], ⟨"SlidingtrayLaw", "keep", "(LSlidingtray;I[J)I"⟩, method_13_code, (some .int), [(0, 8, 11, 27)])
abbrev jm252p : List Nat := [0, 11, 14]
/-- SlidingtrayLaw.restore(LSlidingtray;I[J)I -/
def jm253 : jM := (
  [[(.aload_n 2, 1, 0, 0), (.iconst 0, 1, 0, 0), (.aload_n 0, 1, 0, 0), (.iload_n 1, 1, 0, 0), (.invokevirtual 57, 3, 120, 2), (.i2l, 1, 0, 0), (.lastore, 1, 0, 0), (.goto 9, 3, 3, 0)],
   [(.astore_n 3, 1, 0, 0), (.iconst 1, 1, 0, 0), (.ireturn, 1, 0, 0)],
   [(.astore_n 3, 1, 0, 0), (.iconst 2, 1, 0, 0), (.ireturn, 1, 0, 0)],
   [(.iconst 0, 1, 0, 0), (.ireturn, 1, 0, 0)]],
  [], (4, 7, 111, 99), [(2, 1), (1, 2)], ⟨"SlidingtrayLaw", "restore", "(LSlidingtray;I[J)I"⟩, method_14_code, (some .int), [(0, 9, 12, 27), (0, 9, 15, 39)])
abbrev jm253p : List Nat := [0, 12, 15, 18]
/-- SlidingtrayLaw.tileAt(LSlidingtray;I[J)I -/
def jm254 : jM := (
  [[(.aload_n 2, 1, 0, 0), (.iconst 0, 1, 0, 0), (.aload_n 0, 1, 0, 0), (.iload_n 1, 1, 0, 0), (.invokevirtual 60, 3, 121, 2), (.i2l, 1, 0, 0), (.lastore, 1, 0, 0), (.goto 6, 3, 2, 0)],
   [(.astore_n 3, 1, 0, 0), (.iconst 1, 1, 0, 0), (.ireturn, 1, 0, 0)],
   [(.iconst 0, 1, 0, 0), (.ireturn, 1, 0, 0)]],
  [], (4, 7, 112, 99), [(2, 1)], ⟨"SlidingtrayLaw", "tileAt", "(LSlidingtray;I[J)I"⟩, method_15_code, (some .int), [(0, 9, 12, 27)])
abbrev jm254p : List Nat := [0, 12, 15]
/-- SlidingtrayLaw.reaches(LSlidingtray;[J)I -/
def jm255 : jM := (
  [[(.aload_n 1, 1, 0, 0), (.iconst 0, 1, 0, 0), (.aload_n 0, 1, 0, 0), (.invokevirtual 63, 3, 124, 1), (.ifCond .eq 7, 3, 1, 0), (.lconst 1, 1, 0, 0), (.goto 4, 3, 2, 0)],
   [(.lconst 0, 1, 0, 0), (.nop, 0, 2, 0)],
   [(.lastore, 1, 0, 0), (.goto 6, 3, 4, 0)],
   [(.astore_n 2, 1, 0, 0), (.iconst 1, 1, 0, 0), (.ireturn, 1, 0, 0)],
   [(.iconst 0, 1, 0, 0), (.ireturn, 1, 0, 0)]],
  [], (3, 7, 111, 99), [(1, 3)], ⟨"SlidingtrayLaw", "reaches", "(LSlidingtray;[J)I"⟩, method_16_code, (some .int), [(0, 15, 18, 39)])
abbrev jm255p : List Nat := [0, 13, 14, 18, 21]
/-- SlidingtrayLaw.estimate(LSlidingtray;I[J)I -/
def jm256 : jM := (
  [[(.aload_n 2, 1, 0, 0), (.iconst 0, 1, 0, 0), (.aload_n 0, 1, 0, 0), (.iload_n 1, 1, 0, 0), (.invokevirtual 67, 3, 125, 2), (.i2l, 1, 0, 0), (.lastore, 1, 0, 0), (.goto 6, 3, 2, 0)],
   [(.astore_n 3, 1, 0, 0), (.iconst 1, 1, 0, 0), (.ireturn, 1, 0, 0)],
   [(.iconst 0, 1, 0, 0), (.ireturn, 1, 0, 0)]],
  [], (4, 7, 120, 99), [(0, 1)], ⟨"SlidingtrayLaw", "estimate", "(LSlidingtray;I[J)I"⟩, method_17_code, (some .int), [(0, 9, 12, 13)])
abbrev jm256p : List Nat := [0, 12, 15]
/-- SlidingtrayLaw.solve(LSlidingtray;I[J)I -/
def jm257 : jM := (
  [[(.aload_n 2, 1, 0, 0), (.iconst 0, 1, 0, 0), (.aload_n 0, 1, 0, 0), (.iload_n 1, 1, 0, 0), (.invokevirtual 70, 3, 126, 2), (.i2l, 1, 0, 0), (.lastore, 1, 0, 0), (.goto 9, 3, 3, 0)],
   [(.astore_n 3, 1, 0, 0), (.iconst 1, 1, 0, 0), (.ireturn, 1, 0, 0)],
   [(.astore_n 3, 1, 0, 0), (.iconst 2, 1, 0, 0), (.ireturn, 1, 0, 0)],
   [(.iconst 0, 1, 0, 0), (.ireturn, 1, 0, 0)]],
  [], (4, 8, 202, 99), [(0, 1), (1, 2)], ⟨"SlidingtrayLaw", "solve", "(LSlidingtray;I[J)I"⟩, method_18_code, (some .int), [(0, 9, 12, 13), (0, 9, 15, 39)])
abbrev jm257p : List Nat := [0, 12, 15, 18]
/-- SlidingtrayLaw.deepen(LSlidingtray;I[J)I -/
def jm258 : jM := (
  [[(.aload_n 2, 1, 0, 0), (.iconst 0, 1, 0, 0), (.aload_n 0, 1, 0, 0), (.iload_n 1, 1, 0, 0), (.invokevirtual 73, 3, 127, 2), (.i2l, 1, 0, 0), (.lastore, 1, 0, 0), (.goto 9, 3, 3, 0)],
   [(.astore_n 3, 1, 0, 0), (.iconst 1, 1, 0, 0), (.ireturn, 1, 0, 0)],
   [(.astore_n 3, 1, 0, 0), (.iconst 2, 1, 0, 0), (.ireturn, 1, 0, 0)],
   [(.iconst 0, 1, 0, 0), (.ireturn, 1, 0, 0)]],
  [], (4, 7, 175, 99), [(0, 1), (1, 2)], ⟨"SlidingtrayLaw", "deepen", "(LSlidingtray;I[J)I"⟩, method_19_code, (some .int), [(0, 9, 12, 13), (0, 9, 15, 39)])
abbrev jm258p : List Nat := [0, 12, 15, 18]
/-- SlidingtrayLaw.both(LSlidingtray;[J)I -/
def jm259 : jM := (
  [[(.aload_n 1, 1, 0, 0), (.iconst 0, 1, 0, 0), (.aload_n 0, 1, 0, 0), (.invokevirtual 76, 3, 128, 1), (.i2l, 1, 0, 0), (.lastore, 1, 0, 0), (.goto 6, 3, 2, 0)],
   [(.astore_n 2, 1, 0, 0), (.iconst 1, 1, 0, 0), (.ireturn, 1, 0, 0)],
   [(.iconst 0, 1, 0, 0), (.ireturn, 1, 0, 0)]],
  [], (3, 7, 145, 99), [(1, 1)], ⟨"SlidingtrayLaw", "both", "(LSlidingtray;[J)I"⟩, method_20_code, (some .int), [(0, 8, 11, 39)])
abbrev jm259p : List Nat := [0, 11, 14]
/-- SlidingtrayLaw.searched(LSlidingtray;I[J)I -/
def jm260 : jM := (
  [[(.aload_n 2, 1, 0, 0), (.iconst 0, 1, 0, 0), (.aload_n 0, 1, 0, 0), (.iload_n 1, 1, 0, 0), (.invokevirtual 80, 3, 129, 2), (.i2l, 1, 0, 0), (.lastore, 1, 0, 0), (.goto 6, 3, 2, 0)],
   [(.astore_n 3, 1, 0, 0), (.iconst 1, 1, 0, 0), (.ireturn, 1, 0, 0)],
   [(.iconst 0, 1, 0, 0), (.ireturn, 1, 0, 0)]],
  [], (4, 7, 111, 99), [(0, 1)], ⟨"SlidingtrayLaw", "searched", "(LSlidingtray;I[J)I"⟩, method_21_code, (some .int), [(0, 9, 12, 13)])
abbrev jm260p : List Nat := [0, 12, 15]
/-- SlidingtrayLaw.wayAt(LSlidingtray;I[J)I -/
def jm261 : jM := (
  [[(.aload_n 2, 1, 0, 0), (.iconst 0, 1, 0, 0), (.aload_n 0, 1, 0, 0), (.iload_n 1, 1, 0, 0), (.invokevirtual 83, 3, 130, 2), (.i2l, 1, 0, 0), (.lastore, 1, 0, 0), (.goto 6, 3, 2, 0)],
   [(.astore_n 3, 1, 0, 0), (.iconst 1, 1, 0, 0), (.ireturn, 1, 0, 0)],
   [(.iconst 0, 1, 0, 0), (.ireturn, 1, 0, 0)]],
  [], (4, 7, 111, 99), [(3, 1)], ⟨"SlidingtrayLaw", "wayAt", "(LSlidingtray;I[J)I"⟩, method_22_code, (some .int), [(0, 9, 12, 51)])
abbrev jm261p : List Nat := [0, 12, 15]
/-- SlidingtrayLaw.hint(LSlidingtray;[J)I -/
def jm262 : jM := (
  [[(.aload_n 1, 1, 0, 0), (.iconst 0, 1, 0, 0), (.aload_n 0, 1, 0, 0), (.invokevirtual 86, 3, 131, 1), (.i2l, 1, 0, 0), (.lastore, 1, 0, 0), (.goto 6, 3, 2, 0)],
   [(.astore_n 2, 1, 0, 0), (.iconst 1, 1, 0, 0), (.ireturn, 1, 0, 0)],
   [(.iconst 0, 1, 0, 0), (.ireturn, 1, 0, 0)]],
  [], (3, 8, 204, 99), [(1, 1)], ⟨"SlidingtrayLaw", "hint", "(LSlidingtray;[J)I"⟩, method_23_code, (some .int), [(0, 8, 11, 39)])
abbrev jm262p : List Nat := [0, 11, 14]
/-- SlidingtrayLaw.far(LSlidingtray;I[J)I -/
def jm263 : jM := (
  [[(.aload_n 2, 1, 0, 0), (.iconst 0, 1, 0, 0), (.aload_n 0, 1, 0, 0), (.iload_n 1, 1, 0, 0), (.invokevirtual 89, 3, 132, 2), (.i2l, 1, 0, 0), (.lastore, 1, 0, 0), (.goto 9, 3, 3, 0)],
   [(.astore_n 3, 1, 0, 0), (.iconst 1, 1, 0, 0), (.ireturn, 1, 0, 0)],
   [(.astore_n 3, 1, 0, 0), (.iconst 2, 1, 0, 0), (.ireturn, 1, 0, 0)],
   [(.iconst 0, 1, 0, 0), (.ireturn, 1, 0, 0)]],
  [], (4, 7, 138, 99), [(0, 1), (1, 2)], ⟨"SlidingtrayLaw", "far", "(LSlidingtray;I[J)I"⟩, method_24_code, (some .int), [(0, 9, 12, 13), (0, 9, 15, 39)])
abbrev jm263p : List Nat := [0, 12, 15, 18]
/-- SlidingtrayLaw.onlyWay(LSlidingtray;I[J)I -/
def jm264 : jM := (
  [[(.aload_n 2, 1, 0, 0), (.iconst 0, 1, 0, 0), (.aload_n 0, 1, 0, 0), (.iload_n 1, 1, 0, 0), (.invokevirtual 92, 3, 133, 2), (.i2l, 1, 0, 0), (.lastore, 1, 0, 0), (.goto 9, 3, 3, 0)],
   [(.astore_n 3, 1, 0, 0), (.iconst 1, 1, 0, 0), (.ireturn, 1, 0, 0)],
   [(.astore_n 3, 1, 0, 0), (.iconst 2, 1, 0, 0), (.ireturn, 1, 0, 0)],
   [(.iconst 0, 1, 0, 0), (.ireturn, 1, 0, 0)]],
  [], (4, 7, 138, 99), [(0, 1), (1, 2)], ⟨"SlidingtrayLaw", "onlyWay", "(LSlidingtray;I[J)I"⟩, method_25_code, (some .int), [(0, 9, 12, 13), (0, 9, 15, 39)])
abbrev jm264p : List Nat := [0, 12, 15, 18]
/-- SlidingtrayLaw.isFair(LSlidingtray;I[J)I -/
def jm265 : jM := (
  [[(.aload_n 2, 1, 0, 0), (.iconst 0, 1, 0, 0), (.aload_n 0, 1, 0, 0), (.iload_n 1, 1, 0, 0), (.invokevirtual 95, 3, 134, 2), (.ifCond .eq 7, 3, 1, 0), (.lconst 1, 1, 0, 0), (.goto 4, 3, 2, 0)],
   [(.lconst 0, 1, 0, 0), (.nop, 0, 2, 0)],
   [(.lastore, 1, 0, 0), (.goto 9, 3, 5, 0)],
   [(.astore_n 3, 1, 0, 0), (.iconst 1, 1, 0, 0), (.ireturn, 1, 0, 0)],
   [(.astore_n 3, 1, 0, 0), (.iconst 2, 1, 0, 0), (.ireturn, 1, 0, 0)],
   [(.iconst 0, 1, 0, 0), (.ireturn, 1, 0, 0)]],
  [], (4, 7, 143, 99), [(0, 3), (1, 4)], ⟨"SlidingtrayLaw", "isFair", "(LSlidingtray;I[J)I"⟩, method_26_code, (some .int), [(0, 16, 19, 13), (0, 16, 22, 39)])
abbrev jm265p : List Nat := [0, 14, 15, 19, 22, 25]
/-- SlidingtrayLaw.part(LSlidingtray;I[J)I -/
def jm266 : jM := (
  [[(.aload_n 2, 1, 0, 0), (.iconst 0, 1, 0, 0), (.aload_n 0, 1, 0, 0), (.iload_n 1, 1, 0, 0), (.invokevirtual 99, 3, 135, 2), (.i2l, 1, 0, 0), (.lastore, 1, 0, 0), (.goto 9, 3, 3, 0)],
   [(.astore_n 3, 1, 0, 0), (.iconst 1, 1, 0, 0), (.ireturn, 1, 0, 0)],
   [(.astore_n 3, 1, 0, 0), (.iconst 2, 1, 0, 0), (.ireturn, 1, 0, 0)],
   [(.iconst 0, 1, 0, 0), (.ireturn, 1, 0, 0)]],
  [], (4, 7, 167, 99), [(0, 1), (1, 2)], ⟨"SlidingtrayLaw", "part", "(LSlidingtray;I[J)I"⟩, method_27_code, (some .int), [(0, 9, 12, 13), (0, 9, 15, 39)])
abbrev jm266p : List Nat := [0, 12, 15, 18]
/-- SlidingtrayLaw.law([I)Z -/
def jmL : jM := (
  [[(.new 8, 3, 11, 0), (.dup, 1, 0, 0), (.invokespecial 102, 3, 107, 1), (.astore_n 1, 1, 0, 0), (.new 103, 3, 12, 0), (.dup, 1, 0, 0), (.invokespecial 105, 3, 155, 1), (.astore_n 2, 1, 0, 0), (.iconst 1, 1, 0, 0), (.newarray .long, 2, 0, 0), (.astore_n 3, 1, 0, 0), (.iconst 0, 1, 0, 0), (.istore 4, 2, 0, 0), (.nop, 0, 1, 0)],
   [(.iload 4, 2, 0, 0), (.aload_n 0, 1, 0, 0), (.arraylength, 1, 0, 0), (.iconst 4, 1, 0, 0), (.isub, 1, 0, 0), (.if_icmp .gt 1851, 3, 98, 0), (.aload_n 0, 1, 0, 0), (.iload 4, 2, 0, 0), (.iaload, 1, 0, 0), (.bipush 31, 2, 0, 0), (.iand, 1, 0, 0), (.tableswitch 1835 0 30 #[137, 217, 305, 373, 387, 478, 546, 602, 670, 726, 826, 894, 949, 1005, 1061, 1075, 1088, 1139, 1195, 1251, 1307, 1351, 1407, 1463, 1507, 1563, 1619, 1682, 1738, 1779, 1822], 137, 0, 0)],
   [(.aload_n 1, 1, 0, 0), (.aload_n 0, 1, 0, 0), (.iload 4, 2, 0, 0), (.iconst 1, 1, 0, 0), (.iadd, 1, 0, 0), (.iaload, 1, 0, 0), (.aload_n 0, 1, 0, 0), (.iload 4, 2, 0, 0), (.iconst 2, 1, 0, 0), (.iadd, 1, 0, 0), (.iaload, 1, 0, 0), (.aload_n 0, 1, 0, 0), (.iload 4, 2, 0, 0), (.iconst 3, 1, 0, 0), (.iadd, 1, 0, 0), (.iaload, 1, 0, 0), (.aload_n 3, 1, 0, 0), (.invokestatic 106, 3, 242, 5), (.istore 5, 2, 0, 0), (.aload_n 2, 1, 0, 0), (.aload_n 0, 1, 0, 0), (.iload 4, 2, 0, 0), (.iconst 1, 1, 0, 0), (.iadd, 1, 0, 0), (.iaload, 1, 0, 0), (.aload_n 0, 1, 0, 0), (.iload 4, 2, 0, 0), (.iconst 2, 1, 0, 0), (.iadd, 1, 0, 0), (.iaload, 1, 0, 0), (.aload_n 0, 1, 0, 0), (.iload 4, 2, 0, 0), (.iconst 3, 1, 0, 0), (.iadd, 1, 0, 0), (.iaload, 1, 0, 0), (.invokevirtual 111, 3, 167, 4), (.istore 6, 2, 0, 0), (.aload_n 2, 1, 0, 0), (.invokevirtual 112, 3, 156, 1), (.iload 5, 2, 0, 0), (.if_icmp .eq 5, 3, 3, 0), (.iconst 0, 1, 0, 0), (.ireturn, 1, 0, 0)],
   [(.iload 5, 2, 0, 0), (.ifCond .ne 15, 3, 4, 0), (.aload_n 3, 1, 0, 0), (.iconst 0, 1, 0, 0), (.laload, 1, 0, 0), (.iload 6, 2, 0, 0), (.i2l, 1, 0, 0), (.lcmp, 1, 0, 0), (.ifCond .eq 5, 3, 4, 0), (.iconst 0, 1, 0, 0), (.ireturn, 1, 0, 0)],
   [(.goto 1621, 3, 97, 0)],
   [(.aload_n 1, 1, 0, 0), (.aload_n 0, 1, 0, 0), (.iload 4, 2, 0, 0), (.iconst 1, 1, 0, 0), (.iadd, 1, 0, 0), (.iaload, 1, 0, 0), (.i2l, 1, 0, 0), (.bipush 32, 2, 0, 0), (.lshl, 1, 0, 0), (.aload_n 0, 1, 0, 0), (.iload 4, 2, 0, 0), (.iconst 2, 1, 0, 0), (.iadd, 1, 0, 0), (.iaload, 1, 0, 0), (.i2l, 1, 0, 0), (.ldc2_w 115, 3, 4294967295, 0), (.land, 1, 0, 0), (.lor, 1, 0, 0), (.aload_n 3, 1, 0, 0), (.invokestatic 117, 3, 243, 3), (.istore 5, 2, 0, 0), (.aload_n 2, 1, 0, 0), (.aload_n 0, 1, 0, 0), (.iload 4, 2, 0, 0), (.iconst 1, 1, 0, 0), (.iadd, 1, 0, 0), (.iaload, 1, 0, 0), (.i2l, 1, 0, 0), (.bipush 32, 2, 0, 0), (.lshl, 1, 0, 0), (.aload_n 0, 1, 0, 0), (.iload 4, 2, 0, 0), (.iconst 2, 1, 0, 0), (.iadd, 1, 0, 0), (.iaload, 1, 0, 0), (.i2l, 1, 0, 0), (.ldc2_w 115, 3, 4294967295, 0), (.land, 1, 0, 0), (.lor, 1, 0, 0), (.invokevirtual 120, 3, 188, 2), (.istore 6, 2, 0, 0), (.aload_n 2, 1, 0, 0), (.invokevirtual 112, 3, 156, 1), (.iload 5, 2, 0, 0), (.if_icmp .eq 5, 3, 6, 0), (.iconst 0, 1, 0, 0), (.ireturn, 1, 0, 0)],
   [(.iload 5, 2, 0, 0), (.ifCond .ne 15, 3, 7, 0), (.aload_n 3, 1, 0, 0), (.iconst 0, 1, 0, 0), (.laload, 1, 0, 0), (.iload 6, 2, 0, 0), (.i2l, 1, 0, 0), (.lcmp, 1, 0, 0), (.ifCond .eq 5, 3, 7, 0), (.iconst 0, 1, 0, 0), (.ireturn, 1, 0, 0)],
   [(.goto 1533, 3, 97, 0)],
   [(.aload_n 1, 1, 0, 0), (.aload_n 0, 1, 0, 0), (.iload 4, 2, 0, 0), (.iconst 1, 1, 0, 0), (.iadd, 1, 0, 0), (.iaload, 1, 0, 0), (.aload_n 0, 1, 0, 0), (.iload 4, 2, 0, 0), (.iconst 2, 1, 0, 0), (.iadd, 1, 0, 0), (.iaload, 1, 0, 0), (.aload_n 3, 1, 0, 0), (.invokestatic 121, 3, 244, 4), (.istore 5, 2, 0, 0), (.aload_n 2, 1, 0, 0), (.aload_n 0, 1, 0, 0), (.iload 4, 2, 0, 0), (.iconst 1, 1, 0, 0), (.iadd, 1, 0, 0), (.iaload, 1, 0, 0), (.aload_n 0, 1, 0, 0), (.iload 4, 2, 0, 0), (.iconst 2, 1, 0, 0), (.iadd, 1, 0, 0), (.iaload, 1, 0, 0), (.invokevirtual 124, 3, 189, 3), (.istore 6, 2, 0, 0), (.aload_n 2, 1, 0, 0), (.invokevirtual 112, 3, 156, 1), (.iload 5, 2, 0, 0), (.if_icmp .eq 5, 3, 9, 0), (.iconst 0, 1, 0, 0), (.ireturn, 1, 0, 0)],
   [(.iload 5, 2, 0, 0), (.ifCond .ne 15, 3, 10, 0), (.aload_n 3, 1, 0, 0), (.iconst 0, 1, 0, 0), (.laload, 1, 0, 0), (.iload 6, 2, 0, 0), (.i2l, 1, 0, 0), (.lcmp, 1, 0, 0), (.ifCond .eq 5, 3, 10, 0), (.iconst 0, 1, 0, 0), (.ireturn, 1, 0, 0)],
   [(.goto 1465, 3, 97, 0)],
   [(.aload_n 1, 1, 0, 0), (.invokevirtual 125, 3, 111, 1), (.aload_n 2, 1, 0, 0), (.invokevirtual 129, 3, 190, 1), (.lcmp, 1, 0, 0), (.ifCond .eq 1453, 3, 97, 0), (.iconst 0, 1, 0, 0), (.ireturn, 1, 0, 0)],
   [(.aload_n 1, 1, 0, 0), (.aload_n 0, 1, 0, 0), (.iload 4, 2, 0, 0), (.iconst 1, 1, 0, 0), (.iadd, 1, 0, 0), (.iaload, 1, 0, 0), (.aload_n 0, 1, 0, 0), (.iload 4, 2, 0, 0), (.iconst 2, 1, 0, 0), (.iadd, 1, 0, 0), (.iaload, 1, 0, 0), (.ifCond .eq 7, 3, 13, 0), (.iconst 1, 1, 0, 0), (.goto 4, 3, 14, 0)],
   [(.iconst 0, 1, 0, 0), (.nop, 0, 14, 0)],
   [(.aload_n 3, 1, 0, 0), (.invokestatic 130, 3, 245, 4), (.istore 5, 2, 0, 0), (.aload_n 2, 1, 0, 0), (.aload_n 0, 1, 0, 0), (.iload 4, 2, 0, 0), (.iconst 1, 1, 0, 0), (.iadd, 1, 0, 0), (.iaload, 1, 0, 0), (.aload_n 0, 1, 0, 0), (.iload 4, 2, 0, 0), (.iconst 2, 1, 0, 0), (.iadd, 1, 0, 0), (.iaload, 1, 0, 0), (.ifCond .eq 7, 3, 15, 0), (.iconst 1, 1, 0, 0), (.goto 4, 3, 16, 0)],
   [(.iconst 0, 1, 0, 0), (.nop, 0, 16, 0)],
   [(.invokevirtual 133, 3, 191, 3), (.istore 6, 2, 0, 0), (.aload_n 2, 1, 0, 0), (.invokevirtual 112, 3, 156, 1), (.iload 5, 2, 0, 0), (.if_icmp .eq 5, 3, 17, 0), (.iconst 0, 1, 0, 0), (.ireturn, 1, 0, 0)],
   [(.iload 5, 2, 0, 0), (.ifCond .ne 22, 3, 20, 0), (.aload_n 3, 1, 0, 0), (.iconst 0, 1, 0, 0), (.laload, 1, 0, 0), (.iload 6, 2, 0, 0), (.ifCond .eq 7, 3, 18, 0), (.lconst 1, 1, 0, 0), (.goto 4, 3, 19, 0)],
   [(.lconst 0, 1, 0, 0), (.nop, 0, 19, 0)],
   [(.lcmp, 1, 0, 0), (.ifCond .eq 5, 3, 20, 0), (.iconst 0, 1, 0, 0), (.ireturn, 1, 0, 0)],
   [(.goto 1360, 3, 97, 0)],
   [(.aload_n 1, 1, 0, 0), (.aload_n 0, 1, 0, 0), (.iload 4, 2, 0, 0), (.iconst 1, 1, 0, 0), (.iadd, 1, 0, 0), (.iaload, 1, 0, 0), (.aload_n 0, 1, 0, 0), (.iload 4, 2, 0, 0), (.iconst 2, 1, 0, 0), (.iadd, 1, 0, 0), (.iaload, 1, 0, 0), (.aload_n 3, 1, 0, 0), (.invokestatic 134, 3, 246, 4), (.istore 5, 2, 0, 0), (.aload_n 2, 1, 0, 0), (.aload_n 0, 1, 0, 0), (.iload 4, 2, 0, 0), (.iconst 1, 1, 0, 0), (.iadd, 1, 0, 0), (.iaload, 1, 0, 0), (.aload_n 0, 1, 0, 0), (.iload 4, 2, 0, 0), (.iconst 2, 1, 0, 0), (.iadd, 1, 0, 0), (.iaload, 1, 0, 0), (.invokevirtual 136, 3, 192, 3), (.istore 6, 2, 0, 0), (.aload_n 2, 1, 0, 0), (.invokevirtual 112, 3, 156, 1), (.iload 5, 2, 0, 0), (.if_icmp .eq 5, 3, 22, 0), (.iconst 0, 1, 0, 0), (.ireturn, 1, 0, 0)],
   [(.iload 5, 2, 0, 0), (.ifCond .ne 15, 3, 23, 0), (.aload_n 3, 1, 0, 0), (.iconst 0, 1, 0, 0), (.laload, 1, 0, 0), (.iload 6, 2, 0, 0), (.i2l, 1, 0, 0), (.lcmp, 1, 0, 0), (.ifCond .eq 5, 3, 23, 0), (.iconst 0, 1, 0, 0), (.ireturn, 1, 0, 0)],
   [(.goto 1292, 3, 97, 0)],
   [(.aload_n 1, 1, 0, 0), (.aload_n 0, 1, 0, 0), (.iload 4, 2, 0, 0), (.iconst 1, 1, 0, 0), (.iadd, 1, 0, 0), (.iaload, 1, 0, 0), (.aload_n 3, 1, 0, 0), (.invokestatic 137, 3, 247, 3), (.istore 5, 2, 0, 0), (.aload_n 2, 1, 0, 0), (.aload_n 0, 1, 0, 0), (.iload 4, 2, 0, 0), (.iconst 1, 1, 0, 0), (.iadd, 1, 0, 0), (.iaload, 1, 0, 0), (.invokevirtual 140, 3, 193, 2), (.istore 6, 2, 0, 0), (.aload_n 2, 1, 0, 0), (.invokevirtual 112, 3, 156, 1), (.iload 5, 2, 0, 0), (.if_icmp .eq 5, 3, 25, 0), (.iconst 0, 1, 0, 0), (.ireturn, 1, 0, 0)],
   [(.iload 5, 2, 0, 0), (.ifCond .ne 15, 3, 26, 0), (.aload_n 3, 1, 0, 0), (.iconst 0, 1, 0, 0), (.laload, 1, 0, 0), (.iload 6, 2, 0, 0), (.i2l, 1, 0, 0), (.lcmp, 1, 0, 0), (.ifCond .eq 5, 3, 26, 0), (.iconst 0, 1, 0, 0), (.ireturn, 1, 0, 0)],
   [(.goto 1236, 3, 97, 0)],
   [(.aload_n 1, 1, 0, 0), (.aload_n 0, 1, 0, 0), (.iload 4, 2, 0, 0), (.iconst 1, 1, 0, 0), (.iadd, 1, 0, 0), (.iaload, 1, 0, 0), (.aload_n 0, 1, 0, 0), (.iload 4, 2, 0, 0), (.iconst 2, 1, 0, 0), (.iadd, 1, 0, 0), (.iaload, 1, 0, 0), (.aload_n 3, 1, 0, 0), (.invokestatic 141, 3, 248, 4), (.istore 5, 2, 0, 0), (.aload_n 2, 1, 0, 0), (.aload_n 0, 1, 0, 0), (.iload 4, 2, 0, 0), (.iconst 1, 1, 0, 0), (.iadd, 1, 0, 0), (.iaload, 1, 0, 0), (.aload_n 0, 1, 0, 0), (.iload 4, 2, 0, 0), (.iconst 2, 1, 0, 0), (.iadd, 1, 0, 0), (.iaload, 1, 0, 0), (.invokevirtual 143, 3, 195, 3), (.istore 6, 2, 0, 0), (.aload_n 2, 1, 0, 0), (.invokevirtual 112, 3, 156, 1), (.iload 5, 2, 0, 0), (.if_icmp .eq 5, 3, 28, 0), (.iconst 0, 1, 0, 0), (.ireturn, 1, 0, 0)],
   [(.iload 5, 2, 0, 0), (.ifCond .ne 15, 3, 29, 0), (.aload_n 3, 1, 0, 0), (.iconst 0, 1, 0, 0), (.laload, 1, 0, 0), (.iload 6, 2, 0, 0), (.i2l, 1, 0, 0), (.lcmp, 1, 0, 0), (.ifCond .eq 5, 3, 29, 0), (.iconst 0, 1, 0, 0), (.ireturn, 1, 0, 0)],
   [(.goto 1168, 3, 97, 0)],
   [(.aload_n 1, 1, 0, 0), (.aload_n 0, 1, 0, 0), (.iload 4, 2, 0, 0), (.iconst 1, 1, 0, 0), (.iadd, 1, 0, 0), (.iaload, 1, 0, 0), (.aload_n 3, 1, 0, 0), (.invokestatic 144, 3, 249, 3), (.istore 5, 2, 0, 0), (.aload_n 2, 1, 0, 0), (.aload_n 0, 1, 0, 0), (.iload 4, 2, 0, 0), (.iconst 1, 1, 0, 0), (.iadd, 1, 0, 0), (.iaload, 1, 0, 0), (.invokevirtual 146, 3, 196, 2), (.istore 6, 2, 0, 0), (.aload_n 2, 1, 0, 0), (.invokevirtual 112, 3, 156, 1), (.iload 5, 2, 0, 0), (.if_icmp .eq 5, 3, 31, 0), (.iconst 0, 1, 0, 0), (.ireturn, 1, 0, 0)],
   [(.iload 5, 2, 0, 0), (.ifCond .ne 15, 3, 32, 0), (.aload_n 3, 1, 0, 0), (.iconst 0, 1, 0, 0), (.laload, 1, 0, 0), (.iload 6, 2, 0, 0), (.i2l, 1, 0, 0), (.lcmp, 1, 0, 0), (.ifCond .eq 5, 3, 32, 0), (.iconst 0, 1, 0, 0), (.ireturn, 1, 0, 0)],
   [(.goto 1112, 3, 97, 0)],
   [(.aload_n 1, 1, 0, 0), (.aload_n 0, 1, 0, 0), (.iload 4, 2, 0, 0), (.iconst 1, 1, 0, 0), (.iadd, 1, 0, 0), (.iaload, 1, 0, 0), (.aload_n 0, 1, 0, 0), (.iload 4, 2, 0, 0), (.iconst 2, 1, 0, 0), (.iadd, 1, 0, 0), (.iaload, 1, 0, 0), (.i2l, 1, 0, 0), (.bipush 32, 2, 0, 0), (.lshl, 1, 0, 0), (.aload_n 0, 1, 0, 0), (.iload 4, 2, 0, 0), (.iconst 3, 1, 0, 0), (.iadd, 1, 0, 0), (.iaload, 1, 0, 0), (.i2l, 1, 0, 0), (.ldc2_w 115, 3, 4294967295, 0), (.land, 1, 0, 0), (.lor, 1, 0, 0), (.aload_n 3, 1, 0, 0), (.invokestatic 147, 3, 250, 4), (.istore 5, 2, 0, 0), (.aload_n 2, 1, 0, 0), (.aload_n 0, 1, 0, 0), (.iload 4, 2, 0, 0), (.iconst 1, 1, 0, 0), (.iadd, 1, 0, 0), (.iaload, 1, 0, 0), (.aload_n 0, 1, 0, 0), (.iload 4, 2, 0, 0), (.iconst 2, 1, 0, 0), (.iadd, 1, 0, 0), (.iaload, 1, 0, 0), (.i2l, 1, 0, 0), (.bipush 32, 2, 0, 0), (.lshl, 1, 0, 0), (.aload_n 0, 1, 0, 0), (.iload 4, 2, 0, 0), (.iconst 3, 1, 0, 0), (.iadd, 1, 0, 0), (.iaload, 1, 0, 0), (.i2l, 1, 0, 0), (.ldc2_w 115, 3, 4294967295, 0), (.land, 1, 0, 0), (.lor, 1, 0, 0), (.invokevirtual 150, 3, 198, 3), (.istore 6, 2, 0, 0), (.aload_n 2, 1, 0, 0), (.invokevirtual 112, 3, 156, 1), (.iload 5, 2, 0, 0), (.if_icmp .eq 5, 3, 34, 0), (.iconst 0, 1, 0, 0), (.ireturn, 1, 0, 0)],
   [(.iload 5, 2, 0, 0), (.ifCond .ne 15, 3, 35, 0), (.aload_n 3, 1, 0, 0), (.iconst 0, 1, 0, 0), (.laload, 1, 0, 0), (.iload 6, 2, 0, 0), (.i2l, 1, 0, 0), (.lcmp, 1, 0, 0), (.ifCond .eq 5, 3, 35, 0), (.iconst 0, 1, 0, 0), (.ireturn, 1, 0, 0)],
   [(.goto 1012, 3, 97, 0)],
   [(.aload_n 1, 1, 0, 0), (.aload_n 0, 1, 0, 0), (.iload 4, 2, 0, 0), (.iconst 1, 1, 0, 0), (.iadd, 1, 0, 0), (.iaload, 1, 0, 0), (.aload_n 0, 1, 0, 0), (.iload 4, 2, 0, 0), (.iconst 2, 1, 0, 0), (.iadd, 1, 0, 0), (.iaload, 1, 0, 0), (.aload_n 3, 1, 0, 0), (.invokestatic 151, 3, 251, 4), (.istore 5, 2, 0, 0), (.aload_n 2, 1, 0, 0), (.aload_n 0, 1, 0, 0), (.iload 4, 2, 0, 0), (.iconst 1, 1, 0, 0), (.iadd, 1, 0, 0), (.iaload, 1, 0, 0), (.aload_n 0, 1, 0, 0), (.iload 4, 2, 0, 0), (.iconst 2, 1, 0, 0), (.iadd, 1, 0, 0), (.iaload, 1, 0, 0), (.invokevirtual 153, 3, 199, 3), (.istore 6, 2, 0, 0), (.aload_n 2, 1, 0, 0), (.invokevirtual 112, 3, 156, 1), (.iload 5, 2, 0, 0), (.if_icmp .eq 5, 3, 37, 0), (.iconst 0, 1, 0, 0), (.ireturn, 1, 0, 0)],
   [(.iload 5, 2, 0, 0), (.ifCond .ne 15, 3, 38, 0), (.aload_n 3, 1, 0, 0), (.iconst 0, 1, 0, 0), (.laload, 1, 0, 0), (.iload 6, 2, 0, 0), (.i2l, 1, 0, 0), (.lcmp, 1, 0, 0), (.ifCond .eq 5, 3, 38, 0), (.iconst 0, 1, 0, 0), (.ireturn, 1, 0, 0)],
   [(.goto 944, 3, 97, 0)],
   [(.aload_n 1, 1, 0, 0), (.aload_n 0, 1, 0, 0), (.iload 4, 2, 0, 0), (.iconst 1, 1, 0, 0), (.iadd, 1, 0, 0), (.iaload, 1, 0, 0), (.aload_n 3, 1, 0, 0), (.invokestatic 154, 3, 252, 3), (.istore 5, 2, 0, 0), (.aload_n 2, 1, 0, 0), (.aload_n 0, 1, 0, 0), (.iload 4, 2, 0, 0), (.iconst 1, 1, 0, 0), (.iadd, 1, 0, 0), (.iaload, 1, 0, 0), (.invokevirtual 156, 3, 200, 2), (.lstore 6, 2, 0, 0), (.aload_n 2, 1, 0, 0), (.invokevirtual 112, 3, 156, 1), (.iload 5, 2, 0, 0), (.if_icmp .eq 5, 3, 40, 0), (.iconst 0, 1, 0, 0), (.ireturn, 1, 0, 0)],
   [(.iload 5, 2, 0, 0), (.ifCond .ne 14, 3, 41, 0), (.aload_n 3, 1, 0, 0), (.iconst 0, 1, 0, 0), (.laload, 1, 0, 0), (.lload 6, 2, 0, 0), (.lcmp, 1, 0, 0), (.ifCond .eq 5, 3, 41, 0), (.iconst 0, 1, 0, 0), (.ireturn, 1, 0, 0)],
   [(.goto 889, 3, 97, 0)],
   [(.aload_n 1, 1, 0, 0), (.aload_n 0, 1, 0, 0), (.iload 4, 2, 0, 0), (.iconst 1, 1, 0, 0), (.iadd, 1, 0, 0), (.iaload, 1, 0, 0), (.aload_n 3, 1, 0, 0), (.invokestatic 157, 3, 253, 3), (.istore 5, 2, 0, 0), (.aload_n 2, 1, 0, 0), (.aload_n 0, 1, 0, 0), (.iload 4, 2, 0, 0), (.iconst 1, 1, 0, 0), (.iadd, 1, 0, 0), (.iaload, 1, 0, 0), (.invokevirtual 159, 3, 201, 2), (.istore 6, 2, 0, 0), (.aload_n 2, 1, 0, 0), (.invokevirtual 112, 3, 156, 1), (.iload 5, 2, 0, 0), (.if_icmp .eq 5, 3, 43, 0), (.iconst 0, 1, 0, 0), (.ireturn, 1, 0, 0)],
   [(.iload 5, 2, 0, 0), (.ifCond .ne 15, 3, 44, 0), (.aload_n 3, 1, 0, 0), (.iconst 0, 1, 0, 0), (.laload, 1, 0, 0), (.iload 6, 2, 0, 0), (.i2l, 1, 0, 0), (.lcmp, 1, 0, 0), (.ifCond .eq 5, 3, 44, 0), (.iconst 0, 1, 0, 0), (.ireturn, 1, 0, 0)],
   [(.goto 833, 3, 97, 0)],
   [(.aload_n 1, 1, 0, 0), (.aload_n 0, 1, 0, 0), (.iload 4, 2, 0, 0), (.iconst 1, 1, 0, 0), (.iadd, 1, 0, 0), (.iaload, 1, 0, 0), (.aload_n 3, 1, 0, 0), (.invokestatic 160, 3, 254, 3), (.istore 5, 2, 0, 0), (.aload_n 2, 1, 0, 0), (.aload_n 0, 1, 0, 0), (.iload 4, 2, 0, 0), (.iconst 1, 1, 0, 0), (.iadd, 1, 0, 0), (.iaload, 1, 0, 0), (.invokevirtual 162, 3, 202, 2), (.istore 6, 2, 0, 0), (.aload_n 2, 1, 0, 0), (.invokevirtual 112, 3, 156, 1), (.iload 5, 2, 0, 0), (.if_icmp .eq 5, 3, 46, 0), (.iconst 0, 1, 0, 0), (.ireturn, 1, 0, 0)],
   [(.iload 5, 2, 0, 0), (.ifCond .ne 15, 3, 47, 0), (.aload_n 3, 1, 0, 0), (.iconst 0, 1, 0, 0), (.laload, 1, 0, 0), (.iload 6, 2, 0, 0), (.i2l, 1, 0, 0), (.lcmp, 1, 0, 0), (.ifCond .eq 5, 3, 47, 0), (.iconst 0, 1, 0, 0), (.ireturn, 1, 0, 0)],
   [(.goto 777, 3, 97, 0)],
   [(.aload_n 1, 1, 0, 0), (.invokevirtual 163, 3, 122, 1), (.aload_n 2, 1, 0, 0), (.invokevirtual 166, 3, 203, 1), (.lcmp, 1, 0, 0), (.ifCond .eq 765, 3, 97, 0), (.iconst 0, 1, 0, 0), (.ireturn, 1, 0, 0)],
   [(.aload_n 1, 1, 0, 0), (.invokevirtual 167, 3, 123, 1), (.aload_n 2, 1, 0, 0), (.invokevirtual 170, 3, 205, 1), (.if_icmp .eq 752, 3, 97, 0), (.iconst 0, 1, 0, 0), (.ireturn, 1, 0, 0)],
   [(.aload_n 1, 1, 0, 0), (.aload_n 3, 1, 0, 0), (.invokestatic 171, 3, 255, 2), (.istore 5, 2, 0, 0), (.aload_n 2, 1, 0, 0), (.invokevirtual 174, 3, 208, 1), (.istore 6, 2, 0, 0), (.aload_n 2, 1, 0, 0), (.invokevirtual 112, 3, 156, 1), (.iload 5, 2, 0, 0), (.if_icmp .eq 5, 3, 51, 0), (.iconst 0, 1, 0, 0), (.ireturn, 1, 0, 0)],
   [(.iload 5, 2, 0, 0), (.ifCond .ne 22, 3, 54, 0), (.aload_n 3, 1, 0, 0), (.iconst 0, 1, 0, 0), (.laload, 1, 0, 0), (.iload 6, 2, 0, 0), (.ifCond .eq 7, 3, 52, 0), (.lconst 1, 1, 0, 0), (.goto 4, 3, 53, 0)],
   [(.lconst 0, 1, 0, 0), (.nop, 0, 53, 0)],
   [(.lcmp, 1, 0, 0), (.ifCond .eq 5, 3, 54, 0), (.iconst 0, 1, 0, 0), (.ireturn, 1, 0, 0)],
   [(.goto 699, 3, 97, 0)],
   [(.aload_n 1, 1, 0, 0), (.aload_n 0, 1, 0, 0), (.iload 4, 2, 0, 0), (.iconst 1, 1, 0, 0), (.iadd, 1, 0, 0), (.iaload, 1, 0, 0), (.aload_n 3, 1, 0, 0), (.invokestatic 175, 3, 256, 3), (.istore 5, 2, 0, 0), (.aload_n 2, 1, 0, 0), (.aload_n 0, 1, 0, 0), (.iload 4, 2, 0, 0), (.iconst 1, 1, 0, 0), (.iadd, 1, 0, 0), (.iaload, 1, 0, 0), (.invokevirtual 177, 3, 209, 2), (.istore 6, 2, 0, 0), (.aload_n 2, 1, 0, 0), (.invokevirtual 112, 3, 156, 1), (.iload 5, 2, 0, 0), (.if_icmp .eq 5, 3, 56, 0), (.iconst 0, 1, 0, 0), (.ireturn, 1, 0, 0)],
   [(.iload 5, 2, 0, 0), (.ifCond .ne 15, 3, 57, 0), (.aload_n 3, 1, 0, 0), (.iconst 0, 1, 0, 0), (.laload, 1, 0, 0), (.iload 6, 2, 0, 0), (.i2l, 1, 0, 0), (.lcmp, 1, 0, 0), (.ifCond .eq 5, 3, 57, 0), (.iconst 0, 1, 0, 0), (.ireturn, 1, 0, 0)],
   [(.goto 643, 3, 97, 0)],
   [(.aload_n 1, 1, 0, 0), (.aload_n 0, 1, 0, 0), (.iload 4, 2, 0, 0), (.iconst 1, 1, 0, 0), (.iadd, 1, 0, 0), (.iaload, 1, 0, 0), (.aload_n 3, 1, 0, 0), (.invokestatic 178, 3, 257, 3), (.istore 5, 2, 0, 0), (.aload_n 2, 1, 0, 0), (.aload_n 0, 1, 0, 0), (.iload 4, 2, 0, 0), (.iconst 1, 1, 0, 0), (.iadd, 1, 0, 0), (.iaload, 1, 0, 0), (.invokevirtual 180, 3, 219, 2), (.istore 6, 2, 0, 0), (.aload_n 2, 1, 0, 0), (.invokevirtual 112, 3, 156, 1), (.iload 5, 2, 0, 0), (.if_icmp .eq 5, 3, 59, 0), (.iconst 0, 1, 0, 0), (.ireturn, 1, 0, 0)],
   [(.iload 5, 2, 0, 0), (.ifCond .ne 15, 3, 60, 0), (.aload_n 3, 1, 0, 0), (.iconst 0, 1, 0, 0), (.laload, 1, 0, 0), (.iload 6, 2, 0, 0), (.i2l, 1, 0, 0), (.lcmp, 1, 0, 0), (.ifCond .eq 5, 3, 60, 0), (.iconst 0, 1, 0, 0), (.ireturn, 1, 0, 0)],
   [(.goto 587, 3, 97, 0)],
   [(.aload_n 1, 1, 0, 0), (.aload_n 0, 1, 0, 0), (.iload 4, 2, 0, 0), (.iconst 1, 1, 0, 0), (.iadd, 1, 0, 0), (.iaload, 1, 0, 0), (.aload_n 3, 1, 0, 0), (.invokestatic 181, 3, 258, 3), (.istore 5, 2, 0, 0), (.aload_n 2, 1, 0, 0), (.aload_n 0, 1, 0, 0), (.iload 4, 2, 0, 0), (.iconst 1, 1, 0, 0), (.iadd, 1, 0, 0), (.iaload, 1, 0, 0), (.invokevirtual 183, 3, 223, 2), (.istore 6, 2, 0, 0), (.aload_n 2, 1, 0, 0), (.invokevirtual 112, 3, 156, 1), (.iload 5, 2, 0, 0), (.if_icmp .eq 5, 3, 62, 0), (.iconst 0, 1, 0, 0), (.ireturn, 1, 0, 0)],
   [(.iload 5, 2, 0, 0), (.ifCond .ne 15, 3, 63, 0), (.aload_n 3, 1, 0, 0), (.iconst 0, 1, 0, 0), (.laload, 1, 0, 0), (.iload 6, 2, 0, 0), (.i2l, 1, 0, 0), (.lcmp, 1, 0, 0), (.ifCond .eq 5, 3, 63, 0), (.iconst 0, 1, 0, 0), (.ireturn, 1, 0, 0)],
   [(.goto 531, 3, 97, 0)],
   [(.aload_n 1, 1, 0, 0), (.aload_n 3, 1, 0, 0), (.invokestatic 184, 3, 259, 2), (.istore 5, 2, 0, 0), (.aload_n 2, 1, 0, 0), (.invokevirtual 186, 3, 227, 1), (.istore 6, 2, 0, 0), (.aload_n 2, 1, 0, 0), (.invokevirtual 112, 3, 156, 1), (.iload 5, 2, 0, 0), (.if_icmp .eq 5, 3, 65, 0), (.iconst 0, 1, 0, 0), (.ireturn, 1, 0, 0)],
   [(.iload 5, 2, 0, 0), (.ifCond .ne 15, 3, 66, 0), (.aload_n 3, 1, 0, 0), (.iconst 0, 1, 0, 0), (.laload, 1, 0, 0), (.iload 6, 2, 0, 0), (.i2l, 1, 0, 0), (.lcmp, 1, 0, 0), (.ifCond .eq 5, 3, 66, 0), (.iconst 0, 1, 0, 0), (.ireturn, 1, 0, 0)],
   [(.goto 487, 3, 97, 0)],
   [(.aload_n 1, 1, 0, 0), (.aload_n 0, 1, 0, 0), (.iload 4, 2, 0, 0), (.iconst 1, 1, 0, 0), (.iadd, 1, 0, 0), (.iaload, 1, 0, 0), (.aload_n 3, 1, 0, 0), (.invokestatic 187, 3, 260, 3), (.istore 5, 2, 0, 0), (.aload_n 2, 1, 0, 0), (.aload_n 0, 1, 0, 0), (.iload 4, 2, 0, 0), (.iconst 1, 1, 0, 0), (.iadd, 1, 0, 0), (.iaload, 1, 0, 0), (.invokevirtual 189, 3, 228, 2), (.istore 6, 2, 0, 0), (.aload_n 2, 1, 0, 0), (.invokevirtual 112, 3, 156, 1), (.iload 5, 2, 0, 0), (.if_icmp .eq 5, 3, 68, 0), (.iconst 0, 1, 0, 0), (.ireturn, 1, 0, 0)],
   [(.iload 5, 2, 0, 0), (.ifCond .ne 15, 3, 69, 0), (.aload_n 3, 1, 0, 0), (.iconst 0, 1, 0, 0), (.laload, 1, 0, 0), (.iload 6, 2, 0, 0), (.i2l, 1, 0, 0), (.lcmp, 1, 0, 0), (.ifCond .eq 5, 3, 69, 0), (.iconst 0, 1, 0, 0), (.ireturn, 1, 0, 0)],
   [(.goto 431, 3, 97, 0)],
   [(.aload_n 1, 1, 0, 0), (.aload_n 0, 1, 0, 0), (.iload 4, 2, 0, 0), (.iconst 1, 1, 0, 0), (.iadd, 1, 0, 0), (.iaload, 1, 0, 0), (.aload_n 3, 1, 0, 0), (.invokestatic 190, 3, 261, 3), (.istore 5, 2, 0, 0), (.aload_n 2, 1, 0, 0), (.aload_n 0, 1, 0, 0), (.iload 4, 2, 0, 0), (.iconst 1, 1, 0, 0), (.iadd, 1, 0, 0), (.iaload, 1, 0, 0), (.invokevirtual 192, 3, 229, 2), (.istore 6, 2, 0, 0), (.aload_n 2, 1, 0, 0), (.invokevirtual 112, 3, 156, 1), (.iload 5, 2, 0, 0), (.if_icmp .eq 5, 3, 71, 0), (.iconst 0, 1, 0, 0), (.ireturn, 1, 0, 0)],
   [(.iload 5, 2, 0, 0), (.ifCond .ne 15, 3, 72, 0), (.aload_n 3, 1, 0, 0), (.iconst 0, 1, 0, 0), (.laload, 1, 0, 0), (.iload 6, 2, 0, 0), (.i2l, 1, 0, 0), (.lcmp, 1, 0, 0), (.ifCond .eq 5, 3, 72, 0), (.iconst 0, 1, 0, 0), (.ireturn, 1, 0, 0)],
   [(.goto 375, 3, 97, 0)],
   [(.aload_n 1, 1, 0, 0), (.aload_n 3, 1, 0, 0), (.invokestatic 193, 3, 262, 2), (.istore 5, 2, 0, 0), (.aload_n 2, 1, 0, 0), (.invokevirtual 195, 3, 230, 1), (.istore 6, 2, 0, 0), (.aload_n 2, 1, 0, 0), (.invokevirtual 112, 3, 156, 1), (.iload 5, 2, 0, 0), (.if_icmp .eq 5, 3, 74, 0), (.iconst 0, 1, 0, 0), (.ireturn, 1, 0, 0)],
   [(.iload 5, 2, 0, 0), (.ifCond .ne 15, 3, 75, 0), (.aload_n 3, 1, 0, 0), (.iconst 0, 1, 0, 0), (.laload, 1, 0, 0), (.iload 6, 2, 0, 0), (.i2l, 1, 0, 0), (.lcmp, 1, 0, 0), (.ifCond .eq 5, 3, 75, 0), (.iconst 0, 1, 0, 0), (.ireturn, 1, 0, 0)],
   [(.goto 331, 3, 97, 0)],
   [(.aload_n 1, 1, 0, 0), (.aload_n 0, 1, 0, 0), (.iload 4, 2, 0, 0), (.iconst 1, 1, 0, 0), (.iadd, 1, 0, 0), (.iaload, 1, 0, 0), (.aload_n 3, 1, 0, 0), (.invokestatic 196, 3, 263, 3), (.istore 5, 2, 0, 0), (.aload_n 2, 1, 0, 0), (.aload_n 0, 1, 0, 0), (.iload 4, 2, 0, 0), (.iconst 1, 1, 0, 0), (.iadd, 1, 0, 0), (.iaload, 1, 0, 0), (.invokevirtual 198, 3, 234, 2), (.istore 6, 2, 0, 0), (.aload_n 2, 1, 0, 0), (.invokevirtual 112, 3, 156, 1), (.iload 5, 2, 0, 0), (.if_icmp .eq 5, 3, 77, 0), (.iconst 0, 1, 0, 0), (.ireturn, 1, 0, 0)],
   [(.iload 5, 2, 0, 0), (.ifCond .ne 15, 3, 78, 0), (.aload_n 3, 1, 0, 0), (.iconst 0, 1, 0, 0), (.laload, 1, 0, 0), (.iload 6, 2, 0, 0), (.i2l, 1, 0, 0), (.lcmp, 1, 0, 0), (.ifCond .eq 5, 3, 78, 0), (.iconst 0, 1, 0, 0), (.ireturn, 1, 0, 0)],
   [(.goto 275, 3, 97, 0)],
   [(.aload_n 1, 1, 0, 0), (.aload_n 0, 1, 0, 0), (.iload 4, 2, 0, 0), (.iconst 1, 1, 0, 0), (.iadd, 1, 0, 0), (.iaload, 1, 0, 0), (.aload_n 3, 1, 0, 0), (.invokestatic 199, 3, 264, 3), (.istore 5, 2, 0, 0), (.aload_n 2, 1, 0, 0), (.aload_n 0, 1, 0, 0), (.iload 4, 2, 0, 0), (.iconst 1, 1, 0, 0), (.iadd, 1, 0, 0), (.iaload, 1, 0, 0), (.invokevirtual 201, 3, 235, 2), (.istore 6, 2, 0, 0), (.aload_n 2, 1, 0, 0), (.invokevirtual 112, 3, 156, 1), (.iload 5, 2, 0, 0), (.if_icmp .eq 5, 3, 80, 0), (.iconst 0, 1, 0, 0), (.ireturn, 1, 0, 0)],
   [(.iload 5, 2, 0, 0), (.ifCond .ne 15, 3, 81, 0), (.aload_n 3, 1, 0, 0), (.iconst 0, 1, 0, 0), (.laload, 1, 0, 0), (.iload 6, 2, 0, 0), (.i2l, 1, 0, 0), (.lcmp, 1, 0, 0), (.ifCond .eq 5, 3, 81, 0), (.iconst 0, 1, 0, 0), (.ireturn, 1, 0, 0)],
   [(.goto 219, 3, 97, 0)],
   [(.aload_n 1, 1, 0, 0), (.aload_n 0, 1, 0, 0), (.iload 4, 2, 0, 0), (.iconst 1, 1, 0, 0), (.iadd, 1, 0, 0), (.iaload, 1, 0, 0), (.aload_n 3, 1, 0, 0), (.invokestatic 202, 3, 265, 3), (.istore 5, 2, 0, 0), (.aload_n 2, 1, 0, 0), (.aload_n 0, 1, 0, 0), (.iload 4, 2, 0, 0), (.iconst 1, 1, 0, 0), (.iadd, 1, 0, 0), (.iaload, 1, 0, 0), (.invokevirtual 204, 3, 237, 2), (.istore 6, 2, 0, 0), (.aload_n 2, 1, 0, 0), (.invokevirtual 112, 3, 156, 1), (.iload 5, 2, 0, 0), (.if_icmp .eq 5, 3, 83, 0), (.iconst 0, 1, 0, 0), (.ireturn, 1, 0, 0)],
   [(.iload 5, 2, 0, 0), (.ifCond .ne 22, 3, 86, 0), (.aload_n 3, 1, 0, 0), (.iconst 0, 1, 0, 0), (.laload, 1, 0, 0), (.iload 6, 2, 0, 0), (.ifCond .eq 7, 3, 84, 0), (.lconst 1, 1, 0, 0), (.goto 4, 3, 85, 0)],
   [(.lconst 0, 1, 0, 0), (.nop, 0, 85, 0)],
   [(.lcmp, 1, 0, 0), (.ifCond .eq 5, 3, 86, 0), (.iconst 0, 1, 0, 0), (.ireturn, 1, 0, 0)],
   [(.goto 156, 3, 97, 0)],
   [(.aload_n 1, 1, 0, 0), (.aload_n 0, 1, 0, 0), (.iload 4, 2, 0, 0), (.iconst 1, 1, 0, 0), (.iadd, 1, 0, 0), (.iaload, 1, 0, 0), (.aload_n 3, 1, 0, 0), (.invokestatic 205, 3, 266, 3), (.istore 5, 2, 0, 0), (.aload_n 2, 1, 0, 0), (.aload_n 0, 1, 0, 0), (.iload 4, 2, 0, 0), (.iconst 1, 1, 0, 0), (.iadd, 1, 0, 0), (.iaload, 1, 0, 0), (.invokevirtual 207, 3, 185, 2), (.istore 6, 2, 0, 0), (.aload_n 2, 1, 0, 0), (.invokevirtual 112, 3, 156, 1), (.iload 5, 2, 0, 0), (.if_icmp .eq 5, 3, 88, 0), (.iconst 0, 1, 0, 0), (.ireturn, 1, 0, 0)],
   [(.iload 5, 2, 0, 0), (.ifCond .ne 15, 3, 89, 0), (.aload_n 3, 1, 0, 0), (.iconst 0, 1, 0, 0), (.laload, 1, 0, 0), (.iload 6, 2, 0, 0), (.i2l, 1, 0, 0), (.lcmp, 1, 0, 0), (.ifCond .eq 5, 3, 89, 0), (.iconst 0, 1, 0, 0), (.ireturn, 1, 0, 0)],
   [(.goto 100, 3, 97, 0)],
   [(.aload_n 1, 1, 0, 0), (.invokevirtual 208, 3, 136, 1), (.dstore 5, 2, 0, 0), (.aload_n 2, 1, 0, 0), (.invokevirtual 212, 3, 238, 1), (.dstore 7, 2, 0, 0), (.dload 5, 2, 0, 0), (.dload 7, 2, 0, 0), (.dcmp .l, 1, 0, 0), (.ifCond .eq 21, 3, 92, 0), (.dload 5, 2, 0, 0), (.dload 5, 2, 0, 0), (.dcmp .l, 1, 0, 0), (.ifCond .eq 11, 3, 91, 0), (.dload 7, 2, 0, 0), (.dload 7, 2, 0, 0), (.dcmp .l, 1, 0, 0), (.ifCond .ne 5, 3, 92, 0), (.nop, 0, 91, 0)],
   [(.iconst 0, 1, 0, 0), (.ireturn, 1, 0, 0)],
   [(.goto 59, 3, 97, 0)],
   [(.aload_n 1, 1, 0, 0), (.invokevirtual 213, 3, 137, 1), (.f2d, 1, 0, 0), (.dstore 5, 2, 0, 0), (.aload_n 2, 1, 0, 0), (.invokevirtual 217, 3, 239, 1), (.f2d, 1, 0, 0), (.dstore 7, 2, 0, 0), (.dload 5, 2, 0, 0), (.dload 7, 2, 0, 0), (.dcmp .l, 1, 0, 0), (.ifCond .eq 21, 3, 95, 0), (.dload 5, 2, 0, 0), (.dload 5, 2, 0, 0), (.dcmp .l, 1, 0, 0), (.ifCond .eq 11, 3, 94, 0), (.dload 7, 2, 0, 0), (.dload 7, 2, 0, 0), (.dcmp .l, 1, 0, 0), (.ifCond .ne 5, 3, 95, 0), (.nop, 0, 94, 0)],
   [(.iconst 0, 1, 0, 0), (.ireturn, 1, 0, 0)],
   [(.goto 16, 3, 97, 0)],
   [(.aload_n 1, 1, 0, 0), (.invokevirtual 218, 3, 138, 1), (.aload_n 2, 1, 0, 0), (.invokevirtual 221, 3, 241, 1), (.if_icmp .eq 5, 3, 97, 0), (.iconst 0, 1, 0, 0), (.ireturn, 1, 0, 0)],
   [(.iinc 4 4, 3, 0, 0), (.goto (-1854), 3, 1, 0)],
   [(.iconst 1, 1, 0, 0), (.ireturn, 1, 0, 0)]],
  [[97, 2, 5, 8, 11, 12, 21, 24, 27, 30, 33, 36, 39, 42, 45, 48, 49, 50, 55, 58, 61, 64, 67, 70, 73, 76, 79, 82, 87, 90, 93, 96]], (9, 9, 226, 99), [], ⟨"SlidingtrayLaw", "law", "([I)Z"⟩, code, (some .boolean), [])
abbrev jmLp : List Nat := [0, 23, 176, 236, 253, 256, 324, 341, 344, 392, 409, 412, 426, 446, 447, 473, 474, 490, 507, 508, 514, 517, 565, 582, 585, 621, 638, 641, 689, 706, 709, 745, 762, 765, 845, 862, 865, 913, 930, 933, 969, 985, 988, 1024, 1041, 1044, 1080, 1097, 1100, 1114, 1127, 1151, 1168, 1169, 1175, 1178, 1214, 1231, 1234, 1270, 1287, 1290, 1326, 1343, 1346, 1370, 1387, 1390, 1426, 1443, 1446, 1482, 1499, 1502, 1526, 1543, 1546, 1582, 1599, 1602, 1638, 1655, 1658, 1694, 1711, 1712, 1718, 1721, 1757, 1774, 1777, 1813, 1815, 1818, 1856, 1858, 1861, 1874, 1880]
