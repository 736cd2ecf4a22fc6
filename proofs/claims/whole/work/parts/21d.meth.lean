/-- SlidingtrayModel.mix(II)I -/
def jm189 : jM := (
  [[(.iload_n 2, 1, 0, 0), (.iconst 0, 1, 0, 0), (.sipush 200, 3, 0, 0), (.invokestatic 200, 3, 157, 3), (.ifCond .ne 9, 3, 1, 0), (.aload_n 0, 1, 0, 0), (.iconst 1, 1, 0, 0), (.invokevirtual 204, 3, 158, 2), (.ireturn, 1, 0, 0)],
   [(.iload_n 1, 1, 0, 0), (.istore_n 3, 1, 0, 0), (.iconst 0, 1, 0, 0), (.istore 4, 2, 0, 0), (.nop, 0, 2, 0)],
   [(.iload 4, 2, 0, 0), (.iload_n 2, 1, 0, 0), (.if_icmp .ge 134, 3, 11, 0), (.aload_n 0, 1, 0, 0), (.aload_n 0, 1, 0, 0), (.getfield 33, 3, 12, 9), (.invokevirtual 242, 3, 166, 2), (.istore 5, 2, 0, 0), (.iconst 0, 1, 0, 0), (.istore 6, 2, 0, 0), (.iconst 0, 1, 0, 0), (.istore 7, 2, 0, 0), (.nop, 0, 3, 0)],
   [(.iload 7, 2, 0, 0), (.iconst 4, 1, 0, 0), (.if_icmp .ge 35, 3, 6, 0), (.iload 6, 2, 0, 0), (.aload_n 0, 1, 0, 0), (.getfield 16, 3, 12, 2), (.iconst 4, 1, 0, 0), (.iload 5, 2, 0, 0), (.imul, 1, 0, 0), (.iload 7, 2, 0, 0), (.iadd, 1, 0, 0), (.iaload, 1, 0, 0), (.iconst (-1), 1, 0, 0), (.if_icmp .ne 7, 3, 4, 0), (.iconst 0, 1, 0, 0), (.goto 4, 3, 5, 0)],
   [(.iconst 1, 1, 0, 0), (.nop, 0, 5, 0)],
   [(.iadd, 1, 0, 0), (.istore 6, 2, 0, 0), (.iinc 7 1, 3, 0, 0), (.goto (-35), 3, 3, 0)],
   [(.iload_n 3, 1, 0, 0), (.ldc_w 269, 3, 1103515245, 0), (.imul, 1, 0, 0), (.sipush 12345, 3, 0, 0), (.iadd, 1, 0, 0), (.istore_n 3, 1, 0, 0), (.iload_n 3, 1, 0, 0), (.bipush 16, 2, 0, 0), (.iushr, 1, 0, 0), (.iload 6, 2, 0, 0), (.irem, 1, 0, 0), (.istore 7, 2, 0, 0), (.iconst (-1), 1, 0, 0), (.istore 8, 2, 0, 0), (.nop, 0, 7, 0)],
   [(.iload 7, 2, 0, 0), (.ifCond .lt 35, 3, 10, 0), (.iinc 8 1, 3, 0, 0), (.iload 7, 2, 0, 0), (.aload_n 0, 1, 0, 0), (.getfield 16, 3, 12, 2), (.iconst 4, 1, 0, 0), (.iload 5, 2, 0, 0), (.imul, 1, 0, 0), (.iload 8, 2, 0, 0), (.iadd, 1, 0, 0), (.iaload, 1, 0, 0), (.iconst (-1), 1, 0, 0), (.if_icmp .ne 7, 3, 8, 0), (.iconst 0, 1, 0, 0), (.goto 4, 3, 9, 0)],
   [(.iconst 1, 1, 0, 0), (.nop, 0, 9, 0)],
   [(.isub, 1, 0, 0), (.istore 7, 2, 0, 0), (.goto (-34), 3, 7, 0)],
   [(.aload_n 0, 1, 0, 0), (.aload_n 0, 1, 0, 0), (.getfield 33, 3, 12, 9), (.iload 8, 2, 0, 0), (.invokevirtual 270, 3, 187, 3), (.istore 9, 2, 0, 0), (.iinc 4 1, 3, 0, 0), (.goto (-134), 3, 2, 0)],
   [(.aload_n 0, 1, 0, 0), (.iconst 0, 1, 0, 0), (.putfield 184, 3, 48, 17), (.aload_n 0, 1, 0, 0), (.aload_n 0, 1, 0, 0), (.getfield 7, 3, 12, 0), (.aload_n 0, 1, 0, 0), (.aload_n 0, 1, 0, 0), (.getfield 33, 3, 12, 9), (.invokevirtual 242, 3, 166, 2), (.iaload, 1, 0, 0), (.invokevirtual 215, 3, 159, 2), (.ireturn, 1, 0, 0)]],
  [], (10, 2, 47, 12), [], ⟨"SlidingtrayModel", "mix", "(II)I"⟩, prog_14_method_35_code, (some .int), [])
abbrev jm189p : List Nat := [0, 17, 22, 44, 72, 73, 82, 104, 134, 135, 141, 159]
/-- SlidingtrayModel.setGoal()J -/
def jm190 : jM := (
  [[(.aload_n 0, 1, 0, 0), (.iconst 0, 1, 0, 0), (.putfield 167, 3, 48, 8), (.iconst 0, 1, 0, 0), (.istore_n 1, 1, 0, 0), (.nop, 0, 1, 0)],
   [(.iload_n 1, 1, 0, 0), (.aload_n 0, 1, 0, 0), (.getfield 170, 3, 12, 7), (.if_icmp .ge 21, 3, 2, 0), (.aload_n 0, 1, 0, 0), (.getfield 36, 3, 12, 10), (.aload_n 0, 1, 0, 0), (.getfield 33, 3, 12, 9), (.iload_n 1, 1, 0, 0), (.iaload, 1, 0, 0), (.iload_n 1, 1, 0, 0), (.iastore, 1, 0, 0), (.iinc 1 1, 3, 0, 0), (.goto (-23), 3, 1, 0)],
   [(.aload_n 0, 1, 0, 0), (.iconst 0, 1, 0, 0), (.putfield 181, 3, 48, 32), (.aload_n 0, 1, 0, 0), (.aload_n 0, 1, 0, 0), (.getfield 33, 3, 12, 9), (.invokevirtual 274, 3, 170, 2), (.lreturn, 1, 0, 0)]],
  [], (2, 2, 47, 12), [], ⟨"SlidingtrayModel", "setGoal", "()J"⟩, prog_14_method_36_code, (some .long), [])
abbrev jm190p : List Nat := [0, 7, 33]
/-- SlidingtrayModel.setFree(IZ)Z -/
def jm191 : jM := (
  [[(.iload_n 1, 1, 0, 0), (.iconst 0, 1, 0, 0), (.aload_n 0, 1, 0, 0), (.invokevirtual 211, 3, 165, 1), (.invokestatic 200, 3, 157, 3), (.ifCond .ne 9, 3, 1, 0), (.aload_n 0, 1, 0, 0), (.iconst 1, 1, 0, 0), (.invokevirtual 278, 3, 161, 2), (.ireturn, 1, 0, 0)],
   [(.aload_n 0, 1, 0, 0), (.getfield 42, 3, 12, 12), (.iload_n 1, 1, 0, 0), (.baload, 1, 0, 0), (.istore_n 3, 1, 0, 0), (.aload_n 0, 1, 0, 0), (.getfield 42, 3, 12, 12), (.iload_n 1, 1, 0, 0), (.iload_n 2, 1, 0, 0), (.bastore, 1, 0, 0), (.aload_n 0, 1, 0, 0), (.iconst 0, 1, 0, 0), (.putfield 181, 3, 48, 32), (.aload_n 0, 1, 0, 0), (.iload_n 3, 1, 0, 0), (.invokevirtual 281, 3, 160, 2), (.ireturn, 1, 0, 0)]],
  [], (4, 1, 22, 12), [], ⟨"SlidingtrayModel", "setFree", "(IZ)Z"⟩, prog_14_method_37_code, (some .boolean), [])
abbrev jm191p : List Nat := [0, 18]
/-- SlidingtrayModel.setWeight(II)I -/
def jm192 : jM := (
  [[(.iload_n 1, 1, 0, 0), (.iconst 1, 1, 0, 0), (.aload_n 0, 1, 0, 0), (.invokevirtual 211, 3, 165, 1), (.invokestatic 200, 3, 157, 3), (.ifCond .ne 9, 3, 1, 0), (.aload_n 0, 1, 0, 0), (.iconst 1, 1, 0, 0), (.invokevirtual 204, 3, 158, 2), (.ireturn, 1, 0, 0)],
   [(.iload_n 2, 1, 0, 0), (.iconst 1, 1, 0, 0), (.bipush 9, 2, 0, 0), (.invokestatic 200, 3, 157, 3), (.ifCond .ne 9, 3, 2, 0), (.aload_n 0, 1, 0, 0), (.iconst 2, 1, 0, 0), (.invokevirtual 204, 3, 158, 2), (.ireturn, 1, 0, 0)],
   [(.aload_n 0, 1, 0, 0), (.getfield 39, 3, 12, 11), (.iload_n 1, 1, 0, 0), (.iaload, 1, 0, 0), (.istore_n 3, 1, 0, 0), (.aload_n 0, 1, 0, 0), (.getfield 39, 3, 12, 11), (.iload_n 1, 1, 0, 0), (.iload_n 2, 1, 0, 0), (.iastore, 1, 0, 0), (.aload_n 0, 1, 0, 0), (.iconst 0, 1, 0, 0), (.putfield 181, 3, 48, 32), (.aload_n 0, 1, 0, 0), (.iload_n 3, 1, 0, 0), (.invokevirtual 215, 3, 159, 2), (.ireturn, 1, 0, 0)]],
  [], (4, 1, 22, 12), [], ⟨"SlidingtrayModel", "setWeight", "(II)I"⟩, prog_14_method_38_code, (some .int), [])
abbrev jm192p : List Nat := [0, 18, 34]
/-- SlidingtrayModel.setLimit(I)I -/
def jm193 : jM := (
  [[(.iload_n 1, 1, 0, 0), (.iconst 1, 1, 0, 0), (.sipush 1000, 3, 0, 0), (.invokestatic 200, 3, 157, 3), (.ifCond .ne 9, 3, 1, 0), (.aload_n 0, 1, 0, 0), (.iconst 1, 1, 0, 0), (.invokevirtual 204, 3, 158, 2), (.ireturn, 1, 0, 0)],
   [(.aload_n 0, 1, 0, 0), (.getfield 45, 3, 12, 13), (.istore_n 2, 1, 0, 0), (.aload_n 0, 1, 0, 0), (.iload_n 1, 1, 0, 0), (.putfield 45, 3, 48, 13), (.aload_n 0, 1, 0, 0), (.iload_n 2, 1, 0, 0), (.invokevirtual 215, 3, 159, 2), (.ireturn, 1, 0, 0)]],
  [], (3, 1, 22, 12), [], ⟨"SlidingtrayModel", "setLimit", "(I)I"⟩, prog_14_method_39_code, (some .int), [])
abbrev jm193p : List Nat := [0, 17]
/-- SlidingtrayModel.makes(I)I -/
def jm194 : jM := (
  [[(.aload_n 0, 1, 0, 0), (.aload_n 0, 1, 0, 0), (.getfield 33, 3, 12, 9), (.iload_n 1, 1, 0, 0), (.invokevirtual 270, 3, 187, 3), (.istore_n 2, 1, 0, 0), (.iload_n 2, 1, 0, 0), (.iconst (-1), 1, 0, 0), (.if_icmp .ne 5, 3, 1, 0), (.iconst (-1), 1, 0, 0), (.ireturn, 1, 0, 0)],
   [(.aload_n 0, 1, 0, 0), (.getfield 184, 3, 12, 17), (.sipush 200, 3, 0, 0), (.if_icmp .ne 42, 3, 4, 0), (.iconst 1, 1, 0, 0), (.istore_n 3, 1, 0, 0), (.nop, 0, 2, 0)],
   [(.iload_n 3, 1, 0, 0), (.sipush 200, 3, 0, 0), (.if_icmp .ge 23, 3, 3, 0), (.aload_n 0, 1, 0, 0), (.getfield 48, 3, 12, 14), (.iload_n 3, 1, 0, 0), (.iconst 1, 1, 0, 0), (.isub, 1, 0, 0), (.aload_n 0, 1, 0, 0), (.getfield 48, 3, 12, 14), (.iload_n 3, 1, 0, 0), (.iaload, 1, 0, 0), (.iastore, 1, 0, 0), (.iinc 3 1, 3, 0, 0), (.goto (-24), 3, 2, 0)],
   [(.aload_n 0, 1, 0, 0), (.dup, 1, 0, 0), (.getfield 184, 3, 12, 17), (.iconst 1, 1, 0, 0), (.isub, 1, 0, 0), (.putfield 184, 3, 48, 17), (.nop, 0, 4, 0)],
   [(.aload_n 0, 1, 0, 0), (.getfield 48, 3, 12, 14), (.aload_n 0, 1, 0, 0), (.getfield 184, 3, 12, 17), (.iconst 3, 1, 0, 0), (.iload_n 1, 1, 0, 0), (.isub, 1, 0, 0), (.iastore, 1, 0, 0), (.aload_n 0, 1, 0, 0), (.dup, 1, 0, 0), (.getfield 184, 3, 12, 17), (.iconst 1, 1, 0, 0), (.iadd, 1, 0, 0), (.putfield 184, 3, 48, 17), (.iload_n 2, 1, 0, 0), (.ireturn, 1, 0, 0)]],
  [], (4, 2, 47, 12), [], ⟨"SlidingtrayModel", "makes", "(I)I"⟩, prog_14_method_40_code, (some .int), [])
abbrev jm194p : List Nat := [0, 17, 29, 56, 66]
/-- SlidingtrayModel.move(II)I -/
def jm195 : jM := (
  [[(.iload_n 1, 1, 0, 0), (.iconst 0, 1, 0, 0), (.iconst 3, 1, 0, 0), (.invokestatic 200, 3, 157, 3), (.ifCond .eq 12, 3, 1, 0), (.iload_n 2, 1, 0, 0), (.iconst 1, 1, 0, 0), (.iconst 3, 1, 0, 0), (.invokestatic 200, 3, 157, 3), (.ifCond .ne 9, 3, 2, 0), (.nop, 0, 1, 0)],
   [(.aload_n 0, 1, 0, 0), (.iconst 1, 1, 0, 0), (.invokevirtual 204, 3, 158, 2), (.ireturn, 1, 0, 0)],
   [(.aload_n 0, 1, 0, 0), (.aload_n 0, 1, 0, 0), (.getfield 33, 3, 12, 9), (.invokevirtual 242, 3, 166, 2), (.istore_n 3, 1, 0, 0), (.iconst 0, 1, 0, 0), (.istore 4, 2, 0, 0), (.nop, 0, 3, 0)],
   [(.iload 4, 2, 0, 0), (.iload_n 2, 1, 0, 0), (.if_icmp .ge 29, 3, 6, 0), (.iload_n 3, 1, 0, 0), (.iconst (-1), 1, 0, 0), (.if_icmp .ne 7, 3, 4, 0), (.iconst (-1), 1, 0, 0), (.goto 13, 3, 5, 0)],
   [(.aload_n 0, 1, 0, 0), (.getfield 16, 3, 12, 2), (.iconst 4, 1, 0, 0), (.iload_n 3, 1, 0, 0), (.imul, 1, 0, 0), (.iload_n 1, 1, 0, 0), (.iadd, 1, 0, 0), (.iaload, 1, 0, 0), (.nop, 0, 5, 0)],
   [(.istore_n 3, 1, 0, 0), (.iinc 4 1, 3, 0, 0), (.goto (-29), 3, 3, 0)],
   [(.iload_n 3, 1, 0, 0), (.iconst (-1), 1, 0, 0), (.if_icmp .ne 9, 3, 7, 0), (.aload_n 0, 1, 0, 0), (.iconst 2, 1, 0, 0), (.invokevirtual 204, 3, 158, 2), (.ireturn, 1, 0, 0)],
   [(.iconst 0, 1, 0, 0), (.istore 4, 2, 0, 0), (.iconst 0, 1, 0, 0), (.istore 5, 2, 0, 0), (.nop, 0, 8, 0)],
   [(.iload 5, 2, 0, 0), (.iload_n 2, 1, 0, 0), (.if_icmp .ge 19, 3, 9, 0), (.iload 4, 2, 0, 0), (.aload_n 0, 1, 0, 0), (.iload_n 1, 1, 0, 0), (.invokevirtual 285, 3, 194, 2), (.iadd, 1, 0, 0), (.istore 4, 2, 0, 0), (.iinc 5 1, 3, 0, 0), (.goto (-19), 3, 8, 0)],
   [(.aload_n 0, 1, 0, 0), (.iload 4, 2, 0, 0), (.invokevirtual 215, 3, 159, 2), (.ireturn, 1, 0, 0)]],
  [], (6, 3, 70, 12), [], ⟨"SlidingtrayModel", "move", "(II)I"⟩, prog_14_method_41_code, (some .int), [])
abbrev jm195p : List Nat := [0, 18, 24, 36, 51, 61, 68, 79, 85, 107]
/-- SlidingtrayModel.undo(I)I -/
def jm196 : jM := (
  [[(.iload_n 1, 1, 0, 0), (.iconst 1, 1, 0, 0), (.sipush 200, 3, 0, 0), (.invokestatic 200, 3, 157, 3), (.ifCond .ne 9, 3, 1, 0), (.aload_n 0, 1, 0, 0), (.iconst 1, 1, 0, 0), (.invokevirtual 204, 3, 158, 2), (.ireturn, 1, 0, 0)],
   [(.iconst 0, 1, 0, 0), (.istore_n 2, 1, 0, 0), (.nop, 0, 2, 0)],
   [(.iload_n 2, 1, 0, 0), (.iload_n 1, 1, 0, 0), (.if_icmp .ge 44, 3, 3, 0), (.aload_n 0, 1, 0, 0), (.getfield 184, 3, 12, 17), (.ifCond .le 37, 3, 3, 0), (.aload_n 0, 1, 0, 0), (.dup, 1, 0, 0), (.getfield 184, 3, 12, 17), (.iconst 1, 1, 0, 0), (.isub, 1, 0, 0), (.putfield 184, 3, 48, 17), (.aload_n 0, 1, 0, 0), (.aload_n 0, 1, 0, 0), (.getfield 33, 3, 12, 9), (.aload_n 0, 1, 0, 0), (.getfield 48, 3, 12, 14), (.aload_n 0, 1, 0, 0), (.getfield 184, 3, 12, 17), (.iaload, 1, 0, 0), (.invokevirtual 270, 3, 187, 3), (.istore_n 3, 1, 0, 0), (.iinc 2 1, 3, 0, 0), (.goto (-43), 3, 2, 0)],
   [(.aload_n 0, 1, 0, 0), (.iload_n 2, 1, 0, 0), (.invokevirtual 215, 3, 159, 2), (.ireturn, 1, 0, 0)]],
  [], (4, 2, 47, 12), [], ⟨"SlidingtrayModel", "undo", "(I)I"⟩, prog_14_method_42_code, (some .int), [])
abbrev jm196p : List Nat := [0, 17, 19, 65]
/-- SlidingtrayModel.directionOf(I)I -/
def jm197 : jM := (
  [[(.iload_n 0, 1, 0, 0), (.bipush 117, 2, 0, 0), (.if_icmp .ne 7, 3, 1, 0), (.iconst 0, 1, 0, 0), (.goto 34, 3, 5, 0)],
   [(.iload_n 0, 1, 0, 0), (.bipush 108, 2, 0, 0), (.if_icmp .ne 7, 3, 2, 0), (.iconst 1, 1, 0, 0), (.goto 24, 3, 5, 0)],
   [(.iload_n 0, 1, 0, 0), (.bipush 114, 2, 0, 0), (.if_icmp .ne 7, 3, 3, 0), (.iconst 2, 1, 0, 0), (.goto 14, 3, 5, 0)],
   [(.iload_n 0, 1, 0, 0), (.bipush 100, 2, 0, 0), (.if_icmp .ne 7, 3, 4, 0), (.iconst 3, 1, 0, 0), (.goto 4, 3, 5, 0)],
   [(.iconst (-1), 1, 0, 0), (.nop, 0, 5, 0)],
   [(.ireturn, 1, 0, 0)]],
  [], (1, 0, 0, 12), [], ⟨"SlidingtrayModel", "directionOf", "(I)I"⟩, prog_14_method_43_code, (some .int), [])
abbrev jm197p : List Nat := [0, 10, 20, 30, 40, 41]
/-- SlidingtrayModel.setMacro(IJ)I -/
def jm198 : jM := (
  [[(.iload_n 1, 1, 0, 0), (.iconst 0, 1, 0, 0), (.iconst 3, 1, 0, 0), (.invokestatic 200, 3, 157, 3), (.ifCond .ne 9, 3, 1, 0), (.aload_n 0, 1, 0, 0), (.iconst 1, 1, 0, 0), (.invokevirtual 204, 3, 158, 2), (.ireturn, 1, 0, 0)],
   [(.iconst 1, 1, 0, 0), (.istore 4, 2, 0, 0), (.iconst 0, 1, 0, 0), (.istore 5, 2, 0, 0), (.nop, 0, 2, 0)],
   [(.iload 5, 2, 0, 0), (.bipush 8, 2, 0, 0), (.if_icmp .ge 49, 3, 6, 0), (.lload_n 2, 1, 0, 0), (.bipush 8, 2, 0, 0), (.iload 5, 2, 0, 0), (.imul, 1, 0, 0), (.lushr, 1, 0, 0), (.ldc2_w 287, 3, 255, 0), (.land, 1, 0, 0), (.l2i, 1, 0, 0), (.istore 6, 2, 0, 0), (.iload 4, 2, 0, 0), (.ifCond .eq 21, 3, 4, 0), (.iload 6, 2, 0, 0), (.ifCond .eq 12, 3, 3, 0), (.iload 6, 2, 0, 0), (.invokestatic 289, 3, 197, 1), (.iconst (-1), 1, 0, 0), (.if_icmp .eq 7, 3, 4, 0), (.nop, 0, 3, 0)],
   [(.iconst 1, 1, 0, 0), (.goto 4, 3, 5, 0)],
   [(.iconst 0, 1, 0, 0), (.nop, 0, 5, 0)],
   [(.istore 4, 2, 0, 0), (.iinc 5 1, 3, 0, 0), (.goto (-50), 3, 2, 0)],
   [(.iload 4, 2, 0, 0), (.ifCond .ne 9, 3, 7, 0), (.aload_n 0, 1, 0, 0), (.iconst 2, 1, 0, 0), (.invokevirtual 204, 3, 158, 2), (.ireturn, 1, 0, 0)],
   [(.iconst 0, 1, 0, 0), (.istore 5, 2, 0, 0), (.bipush 7, 2, 0, 0), (.istore 6, 2, 0, 0), (.nop, 0, 8, 0)],
   [(.iload 6, 2, 0, 0), (.ifCond .lt 48, 3, 10, 0), (.lload_n 2, 1, 0, 0), (.bipush 8, 2, 0, 0), (.iload 6, 2, 0, 0), (.imul, 1, 0, 0), (.lushr, 1, 0, 0), (.ldc2_w 287, 3, 255, 0), (.land, 1, 0, 0), (.l2i, 1, 0, 0), (.istore 7, 2, 0, 0), (.iload 7, 2, 0, 0), (.ifCond .eq 23, 3, 9, 0), (.aload_n 0, 1, 0, 0), (.getfield 54, 3, 12, 16), (.bipush 8, 2, 0, 0), (.iload_n 1, 1, 0, 0), (.imul, 1, 0, 0), (.iload 5, 2, 0, 0), (.iadd, 1, 0, 0), (.iload 7, 2, 0, 0), (.invokestatic 289, 3, 197, 1), (.iastore, 1, 0, 0), (.iinc 5 1, 3, 0, 0), (.nop, 0, 9, 0)],
   [(.iinc 6 (-1), 3, 0, 0), (.goto (-47), 3, 8, 0)],
   [(.aload_n 0, 1, 0, 0), (.getfield 51, 3, 12, 15), (.iload_n 1, 1, 0, 0), (.iload 5, 2, 0, 0), (.iastore, 1, 0, 0), (.aload_n 0, 1, 0, 0), (.iload 5, 2, 0, 0), (.invokevirtual 215, 3, 159, 2), (.ireturn, 1, 0, 0)]],
  [], (8, 1, 22, 12), [], ⟨"SlidingtrayModel", "setMacro", "(IJ)I"⟩, prog_14_method_44_code, (some .int), [])
abbrev jm198p : List Nat := [0, 15, 21, 61, 65, 66, 74, 85, 92, 136, 142]
/-- SlidingtrayModel.play(II)I -/
def jm199 : jM := (
  [[(.iload_n 1, 1, 0, 0), (.iconst 0, 1, 0, 0), (.iconst 3, 1, 0, 0), (.invokestatic 200, 3, 157, 3), (.ifCond .ne 9, 3, 1, 0), (.aload_n 0, 1, 0, 0), (.iconst 1, 1, 0, 0), (.invokevirtual 204, 3, 158, 2), (.ireturn, 1, 0, 0)],
   [(.iload_n 2, 1, 0, 0), (.iconst 1, 1, 0, 0), (.bipush 20, 2, 0, 0), (.invokestatic 200, 3, 157, 3), (.ifCond .ne 9, 3, 2, 0), (.aload_n 0, 1, 0, 0), (.iconst 2, 1, 0, 0), (.invokevirtual 204, 3, 158, 2), (.ireturn, 1, 0, 0)],
   [(.aload_n 0, 1, 0, 0), (.getfield 51, 3, 12, 15), (.iload_n 1, 1, 0, 0), (.iaload, 1, 0, 0), (.ifCond .ne 9, 3, 3, 0), (.aload_n 0, 1, 0, 0), (.iconst 3, 1, 0, 0), (.invokevirtual 204, 3, 158, 2), (.ireturn, 1, 0, 0)],
   [(.iconst 0, 1, 0, 0), (.istore_n 3, 1, 0, 0), (.nop, 0, 4, 0)],
   [(.iload_n 3, 1, 0, 0), (.iload_n 2, 1, 0, 0), (.aload_n 0, 1, 0, 0), (.getfield 51, 3, 12, 15), (.iload_n 1, 1, 0, 0), (.iaload, 1, 0, 0), (.imul, 1, 0, 0), (.if_icmp .ge 35, 3, 5, 0), (.aload_n 0, 1, 0, 0), (.aload_n 0, 1, 0, 0), (.getfield 54, 3, 12, 16), (.bipush 8, 2, 0, 0), (.iload_n 1, 1, 0, 0), (.imul, 1, 0, 0), (.iload_n 3, 1, 0, 0), (.aload_n 0, 1, 0, 0), (.getfield 51, 3, 12, 15), (.iload_n 1, 1, 0, 0), (.iaload, 1, 0, 0), (.irem, 1, 0, 0), (.iadd, 1, 0, 0), (.iaload, 1, 0, 0), (.invokevirtual 285, 3, 194, 2), (.iconst (-1), 1, 0, 0), (.if_icmp .eq 9, 3, 5, 0), (.iinc 3 1, 3, 0, 0), (.goto (-41), 3, 4, 0)],
   [(.aload_n 0, 1, 0, 0), (.iload_n 3, 1, 0, 0), (.invokevirtual 215, 3, 159, 2), (.ireturn, 1, 0, 0)]],
  [], (4, 3, 70, 12), [], ⟨"SlidingtrayModel", "play", "(II)I"⟩, prog_14_method_45_code, (some .int), [])
abbrev jm199p : List Nat := [0, 15, 31, 46, 48, 92]
/-- SlidingtrayModel.keep(I)J -/
def jm200 : jM := (
  [[(.aload_n 0, 1, 0, 0), (.iload_n 1, 1, 0, 0), (.iconst 0, 1, 0, 0), (.iconst 1, 1, 0, 0), (.invokestatic 200, 3, 157, 3), (.ifCond .eq 7, 3, 1, 0), (.iconst 0, 1, 0, 0), (.goto 4, 3, 2, 0)],
   [(.iconst 1, 1, 0, 0), (.nop, 0, 2, 0)],
   [(.putfield 167, 3, 48, 8), (.aload_n 0, 1, 0, 0), (.getfield 167, 3, 12, 8), (.ifCond .eq 5, 3, 3, 0), (.lconst 0, 1, 0, 0), (.lreturn, 1, 0, 0)],
   [(.iconst 0, 1, 0, 0), (.istore_n 2, 1, 0, 0), (.nop, 0, 4, 0)],
   [(.iload_n 2, 1, 0, 0), (.bipush 16, 2, 0, 0), (.if_icmp .ge 77, 3, 5, 0), (.aload_n 0, 1, 0, 0), (.getfield 57, 3, 12, 18), (.bipush 16, 2, 0, 0), (.iload_n 1, 1, 0, 0), (.imul, 1, 0, 0), (.iload_n 2, 1, 0, 0), (.iadd, 1, 0, 0), (.aload_n 0, 1, 0, 0), (.getfield 33, 3, 12, 9), (.iload_n 2, 1, 0, 0), (.iaload, 1, 0, 0), (.iastore, 1, 0, 0), (.aload_n 0, 1, 0, 0), (.getfield 60, 3, 12, 19), (.bipush 16, 2, 0, 0), (.iload_n 1, 1, 0, 0), (.imul, 1, 0, 0), (.iload_n 2, 1, 0, 0), (.iadd, 1, 0, 0), (.aload_n 0, 1, 0, 0), (.getfield 36, 3, 12, 10), (.iload_n 2, 1, 0, 0), (.iaload, 1, 0, 0), (.iastore, 1, 0, 0), (.aload_n 0, 1, 0, 0), (.getfield 63, 3, 12, 20), (.bipush 16, 2, 0, 0), (.iload_n 1, 1, 0, 0), (.imul, 1, 0, 0), (.iload_n 2, 1, 0, 0), (.iadd, 1, 0, 0), (.aload_n 0, 1, 0, 0), (.getfield 39, 3, 12, 11), (.iload_n 2, 1, 0, 0), (.iaload, 1, 0, 0), (.iastore, 1, 0, 0), (.aload_n 0, 1, 0, 0), (.getfield 66, 3, 12, 21), (.bipush 16, 2, 0, 0), (.iload_n 1, 1, 0, 0), (.imul, 1, 0, 0), (.iload_n 2, 1, 0, 0), (.iadd, 1, 0, 0), (.aload_n 0, 1, 0, 0), (.getfield 42, 3, 12, 12), (.iload_n 2, 1, 0, 0), (.baload, 1, 0, 0), (.bastore, 1, 0, 0), (.iinc 2 1, 3, 0, 0), (.goto (-77), 3, 4, 0)],
   [(.aload_n 0, 1, 0, 0), (.getfield 69, 3, 12, 22), (.iload_n 1, 1, 0, 0), (.iconst 1, 1, 0, 0), (.bastore, 1, 0, 0), (.aload_n 0, 1, 0, 0), (.aload_n 0, 1, 0, 0), (.getfield 33, 3, 12, 9), (.invokevirtual 274, 3, 170, 2), (.lreturn, 1, 0, 0)]],
  [], (3, 2, 47, 12), [], ⟨"SlidingtrayModel", "keep", "(I)J"⟩, prog_14_method_46_code, (some .long), [])
abbrev jm200p : List Nat := [0, 14, 15, 27, 29, 109]
/-- SlidingtrayModel.restore(I)I -/
def jm201 : jM := (
  [[(.iload_n 1, 1, 0, 0), (.iconst 0, 1, 0, 0), (.iconst 1, 1, 0, 0), (.invokestatic 200, 3, 157, 3), (.ifCond .ne 9, 3, 1, 0), (.aload_n 0, 1, 0, 0), (.iconst 1, 1, 0, 0), (.invokevirtual 204, 3, 158, 2), (.ireturn, 1, 0, 0)],
   [(.aload_n 0, 1, 0, 0), (.getfield 69, 3, 12, 22), (.iload_n 1, 1, 0, 0), (.baload, 1, 0, 0), (.ifCond .ne 9, 3, 2, 0), (.aload_n 0, 1, 0, 0), (.iconst 2, 1, 0, 0), (.invokevirtual 204, 3, 158, 2), (.ireturn, 1, 0, 0)],
   [(.iconst 0, 1, 0, 0), (.istore_n 2, 1, 0, 0), (.nop, 0, 3, 0)],
   [(.iload_n 2, 1, 0, 0), (.bipush 16, 2, 0, 0), (.if_icmp .ge 77, 3, 4, 0), (.aload_n 0, 1, 0, 0), (.getfield 33, 3, 12, 9), (.iload_n 2, 1, 0, 0), (.aload_n 0, 1, 0, 0), (.getfield 57, 3, 12, 18), (.bipush 16, 2, 0, 0), (.iload_n 1, 1, 0, 0), (.imul, 1, 0, 0), (.iload_n 2, 1, 0, 0), (.iadd, 1, 0, 0), (.iaload, 1, 0, 0), (.iastore, 1, 0, 0), (.aload_n 0, 1, 0, 0), (.getfield 36, 3, 12, 10), (.iload_n 2, 1, 0, 0), (.aload_n 0, 1, 0, 0), (.getfield 60, 3, 12, 19), (.bipush 16, 2, 0, 0), (.iload_n 1, 1, 0, 0), (.imul, 1, 0, 0), (.iload_n 2, 1, 0, 0), (.iadd, 1, 0, 0), (.iaload, 1, 0, 0), (.iastore, 1, 0, 0), (.aload_n 0, 1, 0, 0), (.getfield 39, 3, 12, 11), (.iload_n 2, 1, 0, 0), (.aload_n 0, 1, 0, 0), (.getfield 63, 3, 12, 20), (.bipush 16, 2, 0, 0), (.iload_n 1, 1, 0, 0), (.imul, 1, 0, 0), (.iload_n 2, 1, 0, 0), (.iadd, 1, 0, 0), (.iaload, 1, 0, 0), (.iastore, 1, 0, 0), (.aload_n 0, 1, 0, 0), (.getfield 42, 3, 12, 12), (.iload_n 2, 1, 0, 0), (.aload_n 0, 1, 0, 0), (.getfield 66, 3, 12, 21), (.bipush 16, 2, 0, 0), (.iload_n 1, 1, 0, 0), (.imul, 1, 0, 0), (.iload_n 2, 1, 0, 0), (.iadd, 1, 0, 0), (.baload, 1, 0, 0), (.bastore, 1, 0, 0), (.iinc 2 1, 3, 0, 0), (.goto (-77), 3, 3, 0)],
   [(.aload_n 0, 1, 0, 0), (.iconst 0, 1, 0, 0), (.putfield 181, 3, 48, 32), (.aload_n 0, 1, 0, 0), (.iconst 0, 1, 0, 0), (.putfield 184, 3, 48, 17), (.aload_n 0, 1, 0, 0), (.aload_n 0, 1, 0, 0), (.getfield 7, 3, 12, 0), (.aload_n 0, 1, 0, 0), (.aload_n 0, 1, 0, 0), (.getfield 33, 3, 12, 9), (.invokevirtual 242, 3, 166, 2), (.iaload, 1, 0, 0), (.invokevirtual 215, 3, 159, 2), (.ireturn, 1, 0, 0)]],
  [], (3, 1, 22, 12), [], ⟨"SlidingtrayModel", "restore", "(I)I"⟩, prog_14_method_47_code, (some .int), [])
abbrev jm201p : List Nat := [0, 15, 30, 32, 112]
/-- SlidingtrayModel.tileAt(I)I -/
def jm202 : jM := (
  [[(.iload_n 1, 1, 0, 0), (.iconst 0, 1, 0, 0), (.aload_n 0, 1, 0, 0), (.getfield 26, 3, 12, 5), (.aload_n 0, 1, 0, 0), (.getfield 30, 3, 12, 6), (.imul, 1, 0, 0), (.iconst 1, 1, 0, 0), (.isub, 1, 0, 0), (.invokestatic 200, 3, 157, 3), (.ifCond .ne 9, 3, 1, 0), (.aload_n 0, 1, 0, 0), (.iconst 1, 1, 0, 0), (.invokevirtual 204, 3, 158, 2), (.ireturn, 1, 0, 0)],
   [(.aload_n 0, 1, 0, 0), (.aload_n 0, 1, 0, 0), (.getfield 22, 3, 12, 4), (.iload_n 1, 1, 0, 0), (.baload, 1, 0, 0), (.ifCond .eq 7, 3, 2, 0), (.iconst (-1), 1, 0, 0), (.goto 14, 3, 3, 0)],
   [(.aload_n 0, 1, 0, 0), (.getfield 33, 3, 12, 9), (.aload_n 0, 1, 0, 0), (.getfield 13, 3, 12, 1), (.iload_n 1, 1, 0, 0), (.iaload, 1, 0, 0), (.iaload, 1, 0, 0), (.nop, 0, 3, 0)],
   [(.invokevirtual 215, 3, 159, 2), (.ireturn, 1, 0, 0)]],
  [], (2, 1, 22, 12), [], ⟨"SlidingtrayModel", "tileAt", "(I)I"⟩, prog_14_method_48_code, (some .int), [])
abbrev jm202p : List Nat := [0, 25, 39, 50]
/-- SlidingtrayModel.rank()J -/
def jm203 : jM := (
  [[(.aload_n 0, 1, 0, 0), (.iconst 0, 1, 0, 0), (.putfield 167, 3, 48, 8), (.aload_n 0, 1, 0, 0), (.aload_n 0, 1, 0, 0), (.getfield 33, 3, 12, 9), (.invokevirtual 274, 3, 170, 2), (.lreturn, 1, 0, 0)]],
  [], (1, 2, 47, 12), [], ⟨"SlidingtrayModel", "rank", "()J"⟩, prog_14_method_49_code, (some .long), [])
abbrev jm203p : List Nat := [0]
/-- SlidingtrayModel.inversionsOf([I)I -/
def jm204 : jM := (
  [[(.iconst 0, 1, 0, 0), (.istore_n 2, 1, 0, 0), (.iconst 0, 1, 0, 0), (.istore_n 3, 1, 0, 0), (.nop, 0, 1, 0)],
   [(.iload_n 3, 1, 0, 0), (.aload_n 0, 1, 0, 0), (.getfield 170, 3, 12, 7), (.if_icmp .ge 50, 3, 6, 0), (.iconst 0, 1, 0, 0), (.istore 4, 2, 0, 0), (.nop, 0, 2, 0)],
   [(.iload 4, 2, 0, 0), (.iload_n 3, 1, 0, 0), (.if_icmp .ge 35, 3, 5, 0), (.iload_n 2, 1, 0, 0), (.aload_n 0, 1, 0, 0), (.aload_n 1, 1, 0, 0), (.iload 4, 2, 0, 0), (.iaload, 1, 0, 0), (.invokevirtual 218, 3, 169, 2), (.aload_n 0, 1, 0, 0), (.aload_n 1, 1, 0, 0), (.iload_n 3, 1, 0, 0), (.iaload, 1, 0, 0), (.invokevirtual 218, 3, 169, 2), (.if_icmp .le 7, 3, 3, 0), (.iconst 1, 1, 0, 0), (.goto 4, 3, 4, 0)],
   [(.iconst 0, 1, 0, 0), (.nop, 0, 4, 0)],
   [(.iadd, 1, 0, 0), (.istore_n 2, 1, 0, 0), (.iinc 4 1, 3, 0, 0), (.goto (-35), 3, 2, 0)],
   [(.iinc 3 1, 3, 0, 0), (.goto (-52), 3, 1, 0)],
   [(.iload_n 2, 1, 0, 0), (.ireturn, 1, 0, 0)]],
  [], (5, 1, 21, 12), [], ⟨"SlidingtrayModel", "inversionsOf", "([I)I"⟩, prog_14_method_50_code, (some .int), [])
abbrev jm204p : List Nat := [0, 4, 15, 44, 45, 53, 59]
/-- SlidingtrayModel.inversions()I -/
def jm205 : jM := (
  [[(.aload_n 0, 1, 0, 0), (.aload_n 0, 1, 0, 0), (.aload_n 0, 1, 0, 0), (.getfield 33, 3, 12, 9), (.invokevirtual 292, 3, 204, 2), (.invokevirtual 215, 3, 159, 2), (.ireturn, 1, 0, 0)]],
  [], (1, 2, 45, 12), [], ⟨"SlidingtrayModel", "inversions", "()I"⟩, prog_14_method_51_code, (some .int), [])
abbrev jm205p : List Nat := [0]
/-- SlidingtrayModel.isAnyFree()Z -/
def jm206 : jM := (
  [[(.iconst 0, 1, 0, 0), (.istore_n 1, 1, 0, 0), (.iconst 0, 1, 0, 0), (.istore_n 2, 1, 0, 0), (.nop, 0, 1, 0)],
   [(.iload_n 2, 1, 0, 0), (.aload_n 0, 1, 0, 0), (.getfield 170, 3, 12, 7), (.if_icmp .ge 28, 3, 5, 0), (.iload_n 1, 1, 0, 0), (.ifCond .ne 12, 3, 2, 0), (.aload_n 0, 1, 0, 0), (.getfield 42, 3, 12, 12), (.iload_n 2, 1, 0, 0), (.baload, 1, 0, 0), (.ifCond .eq 7, 3, 3, 0), (.nop, 0, 2, 0)],
   [(.iconst 1, 1, 0, 0), (.goto 4, 3, 4, 0)],
   [(.iconst 0, 1, 0, 0), (.nop, 0, 4, 0)],
   [(.istore_n 1, 1, 0, 0), (.iinc 2 1, 3, 0, 0), (.goto (-30), 3, 1, 0)],
   [(.iload_n 1, 1, 0, 0), (.ireturn, 1, 0, 0)]],
  [], (3, 0, 0, 12), [], ⟨"SlidingtrayModel", "isAnyFree", "()Z"⟩, prog_14_method_52_code, (some .boolean), [])
abbrev jm206p : List Nat := [0, 4, 25, 29, 30, 37]
/-- SlidingtrayModel.laysGoal()V -/
def jm207 : jM := (
  [[(.iconst 0, 1, 0, 0), (.istore_n 1, 1, 0, 0), (.nop, 0, 1, 0)],
   [(.iload_n 1, 1, 0, 0), (.aload_n 0, 1, 0, 0), (.getfield 170, 3, 12, 7), (.if_icmp .ge 21, 3, 2, 0), (.aload_n 0, 1, 0, 0), (.getfield 99, 3, 12, 33), (.aload_n 0, 1, 0, 0), (.getfield 36, 3, 12, 10), (.iload_n 1, 1, 0, 0), (.iaload, 1, 0, 0), (.iload_n 1, 1, 0, 0), (.iastore, 1, 0, 0), (.iinc 1 1, 3, 0, 0), (.goto (-23), 3, 1, 0)],
   [(.return_, 1, 0, 0)]],
  [], (2, 0, 0, 12), [], ⟨"SlidingtrayModel", "laysGoal", "()V"⟩, prog_14_method_53_code, none, [])
abbrev jm207p : List Nat := [0, 2, 28]
/-- SlidingtrayModel.reaches()Z -/
def jm208 : jM := (
  [[(.aload_n 0, 1, 0, 0), (.getfield 170, 3, 12, 7), (.aload_n 0, 1, 0, 0), (.getfield 26, 3, 12, 5), (.aload_n 0, 1, 0, 0), (.getfield 30, 3, 12, 6), (.imul, 1, 0, 0), (.if_icmp .lt 10, 3, 1, 0), (.aload_n 0, 1, 0, 0), (.invokevirtual 295, 3, 206, 1), (.ifCond .eq 9, 3, 2, 0), (.nop, 0, 1, 0)],
   [(.aload_n 0, 1, 0, 0), (.iconst 1, 1, 0, 0), (.invokevirtual 278, 3, 161, 2), (.ireturn, 1, 0, 0)],
   [(.aload_n 0, 1, 0, 0), (.invokevirtual 299, 3, 207, 1), (.aload_n 0, 1, 0, 0), (.getfield 7, 3, 12, 0), (.aload_n 0, 1, 0, 0), (.aload_n 0, 1, 0, 0), (.getfield 33, 3, 12, 9), (.invokevirtual 242, 3, 166, 2), (.iaload, 1, 0, 0), (.istore_n 1, 1, 0, 0), (.aload_n 0, 1, 0, 0), (.getfield 7, 3, 12, 0), (.aload_n 0, 1, 0, 0), (.aload_n 0, 1, 0, 0), (.getfield 99, 3, 12, 33), (.invokevirtual 242, 3, 166, 2), (.iaload, 1, 0, 0), (.istore_n 2, 1, 0, 0), (.iload_n 1, 1, 0, 0), (.aload_n 0, 1, 0, 0), (.getfield 30, 3, 12, 6), (.idiv, 1, 0, 0), (.iload_n 2, 1, 0, 0), (.aload_n 0, 1, 0, 0), (.getfield 30, 3, 12, 6), (.idiv, 1, 0, 0), (.iadd, 1, 0, 0), (.iload_n 1, 1, 0, 0), (.aload_n 0, 1, 0, 0), (.getfield 30, 3, 12, 6), (.irem, 1, 0, 0), (.iadd, 1, 0, 0), (.iload_n 2, 1, 0, 0), (.aload_n 0, 1, 0, 0), (.getfield 30, 3, 12, 6), (.irem, 1, 0, 0), (.iadd, 1, 0, 0), (.istore_n 3, 1, 0, 0), (.aload_n 0, 1, 0, 0), (.aload_n 0, 1, 0, 0), (.aload_n 0, 1, 0, 0), (.getfield 33, 3, 12, 9), (.invokevirtual 292, 3, 204, 2), (.aload_n 0, 1, 0, 0), (.aload_n 0, 1, 0, 0), (.getfield 99, 3, 12, 33), (.invokevirtual 292, 3, 204, 2), (.iadd, 1, 0, 0), (.iload_n 3, 1, 0, 0), (.iadd, 1, 0, 0), (.iconst 2, 1, 0, 0), (.irem, 1, 0, 0), (.ifCond .ne 7, 3, 3, 0), (.iconst 1, 1, 0, 0), (.goto 4, 3, 4, 0)],
   [(.iconst 0, 1, 0, 0), (.nop, 0, 4, 0)],
   [(.invokevirtual 281, 3, 160, 2), (.ireturn, 1, 0, 0)]],
  [], (4, 2, 45, 12), [], ⟨"SlidingtrayModel", "reaches", "()Z"⟩, prog_14_method_54_code, (some .boolean), [])
abbrev jm208p : List Nat := [0, 23, 29, 118, 119]
/-- SlidingtrayModel.estimate(I)I -/
def jm209 : jM := (
  [[(.iload_n 1, 1, 0, 0), (.iconst 0, 1, 0, 0), (.iconst 4, 1, 0, 0), (.invokestatic 200, 3, 157, 3), (.ifCond .eq 19, 3, 1, 0), (.aload_n 0, 1, 0, 0), (.aload_n 0, 1, 0, 0), (.aload_n 0, 1, 0, 0), (.getfield 33, 3, 12, 9), (.iload_n 1, 1, 0, 0), (.invokevirtual 302, 3, 177, 3), (.invokevirtual 215, 3, 159, 2), (.goto 8, 3, 2, 0)],
   [(.aload_n 0, 1, 0, 0), (.iconst 1, 1, 0, 0), (.invokevirtual 204, 3, 158, 2), (.nop, 0, 2, 0)],
   [(.ireturn, 1, 0, 0)]],
  [], (2, 3, 77, 12), [], ⟨"SlidingtrayModel", "estimate", "(I)I"⟩, prog_14_method_55_code, (some .int), [])
abbrev jm209p : List Nat := [0, 25, 30]
/-- SlidingtrayModel.seek(J)I -/
def jm210 : jM := (
  [[(.lload_n 1, 1, 0, 0), (.ldc2_w 305, 3, 16381, 0), (.lrem, 1, 0, 0), (.l2i, 1, 0, 0), (.istore_n 3, 1, 0, 0), (.nop, 0, 1, 0)],
   [(.aload_n 0, 1, 0, 0), (.getfield 118, 3, 12, 39), (.iload_n 3, 1, 0, 0), (.iaload, 1, 0, 0), (.ifCond .eq 39, 3, 4, 0), (.aload_n 0, 1, 0, 0), (.getfield 121, 3, 12, 40), (.aload_n 0, 1, 0, 0), (.getfield 118, 3, 12, 39), (.iload_n 3, 1, 0, 0), (.iaload, 1, 0, 0), (.iconst 1, 1, 0, 0), (.isub, 1, 0, 0), (.laload, 1, 0, 0), (.lload_n 1, 1, 0, 0), (.lcmp, 1, 0, 0), (.ifCond .eq 21, 3, 4, 0), (.iload_n 3, 1, 0, 0), (.sipush 16383, 3, 0, 0), (.if_icmp .ne 7, 3, 2, 0), (.iconst 0, 1, 0, 0), (.goto 6, 3, 3, 0)],
   [(.iload_n 3, 1, 0, 0), (.iconst 1, 1, 0, 0), (.iadd, 1, 0, 0), (.nop, 0, 3, 0)],
   [(.istore_n 3, 1, 0, 0), (.goto (-42), 3, 1, 0)],
   [(.iload_n 3, 1, 0, 0), (.ireturn, 1, 0, 0)]],
  [], (4, 0, 0, 12), [], ⟨"SlidingtrayModel", "seek", "(J)I"⟩, prog_14_method_56_code, (some .int), [])
abbrev jm210p : List Nat := [0, 7, 45, 48, 52]
/-- SlidingtrayModel.clearsStates()V -/
def jm211 : jM := (
  [[(.aload_n 0, 1, 0, 0), (.iconst 0, 1, 0, 0), (.putfield 307, 3, 48, 42), (.iconst 0, 1, 0, 0), (.istore_n 1, 1, 0, 0), (.nop, 0, 1, 0)],
   [(.iload_n 1, 1, 0, 0), (.sipush 16384, 3, 0, 0), (.if_icmp .ge 16, 3, 2, 0), (.aload_n 0, 1, 0, 0), (.getfield 118, 3, 12, 39), (.iload_n 1, 1, 0, 0), (.iconst 0, 1, 0, 0), (.iastore, 1, 0, 0), (.iinc 1 1, 3, 0, 0), (.goto (-17), 3, 1, 0)],
   [(.return_, 1, 0, 0)]],
  [], (2, 0, 0, 12), [], ⟨"SlidingtrayModel", "clearsStates", "()V"⟩, prog_14_method_57_code, none, [])
abbrev jm211p : List Nat := [0, 7, 27]
/-- SlidingtrayModel.finds(IIII)I -/
def jm212 : jM := (
  [[(.aload_n 0, 1, 0, 0), (.aload_n 0, 1, 0, 0), (.getfield 128, 3, 12, 43), (.invokevirtual 274, 3, 170, 2), (.lstore 5, 2, 0, 0), (.aload_n 0, 1, 0, 0), (.lload 5, 2, 0, 0), (.invokevirtual 310, 3, 210, 2), (.istore 7, 2, 0, 0), (.aload_n 0, 1, 0, 0), (.getfield 118, 3, 12, 39), (.iload 7, 2, 0, 0), (.iaload, 1, 0, 0), (.ifCond .ne 115, 3, 3, 0), (.aload_n 0, 1, 0, 0), (.getfield 121, 3, 12, 40), (.aload_n 0, 1, 0, 0), (.getfield 307, 3, 12, 42), (.lload 5, 2, 0, 0), (.lastore, 1, 0, 0), (.iconst 0, 1, 0, 0), (.istore 8, 2, 0, 0), (.nop, 0, 1, 0)],
   [(.iload 8, 2, 0, 0), (.aload_n 0, 1, 0, 0), (.getfield 170, 3, 12, 7), (.if_icmp .ge 31, 3, 2, 0), (.aload_n 0, 1, 0, 0), (.getfield 103, 3, 12, 34), (.bipush 16, 2, 0, 0), (.aload_n 0, 1, 0, 0), (.getfield 307, 3, 12, 42), (.imul, 1, 0, 0), (.iload 8, 2, 0, 0), (.iadd, 1, 0, 0), (.aload_n 0, 1, 0, 0), (.getfield 128, 3, 12, 43), (.iload 8, 2, 0, 0), (.iaload, 1, 0, 0), (.iastore, 1, 0, 0), (.iinc 8 1, 3, 0, 0), (.goto (-34), 3, 1, 0)],
   [(.aload_n 0, 1, 0, 0), (.getfield 106, 3, 12, 35), (.aload_n 0, 1, 0, 0), (.getfield 307, 3, 12, 42), (.ldc 199, 2, 1000000000, 0), (.iastore, 1, 0, 0), (.aload_n 0, 1, 0, 0), (.getfield 109, 3, 12, 36), (.aload_n 0, 1, 0, 0), (.getfield 307, 3, 12, 42), (.aload_n 0, 1, 0, 0), (.aload_n 0, 1, 0, 0), (.getfield 128, 3, 12, 43), (.iload 4, 2, 0, 0), (.invokevirtual 302, 3, 177, 3), (.iastore, 1, 0, 0), (.aload_n 0, 1, 0, 0), (.getfield 125, 3, 12, 41), (.aload_n 0, 1, 0, 0), (.getfield 307, 3, 12, 42), (.iconst 0, 1, 0, 0), (.bastore, 1, 0, 0), (.aload_n 0, 1, 0, 0), (.dup, 1, 0, 0), (.getfield 307, 3, 12, 42), (.iconst 1, 1, 0, 0), (.iadd, 1, 0, 0), (.putfield 307, 3, 48, 42), (.aload_n 0, 1, 0, 0), (.getfield 118, 3, 12, 39), (.iload 7, 2, 0, 0), (.aload_n 0, 1, 0, 0), (.getfield 307, 3, 12, 42), (.iastore, 1, 0, 0), (.nop, 0, 3, 0)],
   [(.aload_n 0, 1, 0, 0), (.getfield 118, 3, 12, 39), (.iload 7, 2, 0, 0), (.iaload, 1, 0, 0), (.iconst 1, 1, 0, 0), (.isub, 1, 0, 0), (.istore 8, 2, 0, 0), (.iload_n 1, 1, 0, 0), (.aload_n 0, 1, 0, 0), (.getfield 106, 3, 12, 35), (.iload 8, 2, 0, 0), (.iaload, 1, 0, 0), (.if_icmp .ge 27, 3, 4, 0), (.aload_n 0, 1, 0, 0), (.getfield 106, 3, 12, 35), (.iload 8, 2, 0, 0), (.iload_n 1, 1, 0, 0), (.iastore, 1, 0, 0), (.aload_n 0, 1, 0, 0), (.getfield 112, 3, 12, 37), (.iload 8, 2, 0, 0), (.iload_n 2, 1, 0, 0), (.iastore, 1, 0, 0), (.aload_n 0, 1, 0, 0), (.getfield 115, 3, 12, 38), (.iload 8, 2, 0, 0), (.iload_n 3, 1, 0, 0), (.iastore, 1, 0, 0), (.nop, 0, 4, 0)],
   [(.iload 8, 2, 0, 0), (.ireturn, 1, 0, 0)]],
  [], (9, 3, 77, 12), [], ⟨"SlidingtrayModel", "finds", "(IIII)I"⟩, prog_14_method_58_code, (some .int), [])
abbrev jm212p : List Nat := [0, 42, 79, 140, 186]
/-- SlidingtrayModel.goesAhead(II)Z -/
def jm213 : jM := (
  [[(.aload_n 0, 1, 0, 0), (.getfield 106, 3, 12, 35), (.iload_n 1, 1, 0, 0), (.iaload, 1, 0, 0), (.aload_n 0, 1, 0, 0), (.getfield 109, 3, 12, 36), (.iload_n 1, 1, 0, 0), (.iaload, 1, 0, 0), (.iadd, 1, 0, 0), (.istore_n 3, 1, 0, 0), (.aload_n 0, 1, 0, 0), (.getfield 106, 3, 12, 35), (.iload_n 2, 1, 0, 0), (.iaload, 1, 0, 0), (.aload_n 0, 1, 0, 0), (.getfield 109, 3, 12, 36), (.iload_n 2, 1, 0, 0), (.iaload, 1, 0, 0), (.iadd, 1, 0, 0), (.istore 4, 2, 0, 0), (.iload_n 3, 1, 0, 0), (.iload 4, 2, 0, 0), (.if_icmp .eq 15, 3, 3, 0), (.iload_n 3, 1, 0, 0), (.iload 4, 2, 0, 0), (.if_icmp .ge 7, 3, 1, 0), (.iconst 1, 1, 0, 0), (.goto 4, 3, 2, 0)],
   [(.iconst 0, 1, 0, 0), (.nop, 0, 2, 0)],
   [(.ireturn, 1, 0, 0)],
   [(.aload_n 0, 1, 0, 0), (.getfield 109, 3, 12, 36), (.iload_n 1, 1, 0, 0), (.iaload, 1, 0, 0), (.aload_n 0, 1, 0, 0), (.getfield 109, 3, 12, 36), (.iload_n 2, 1, 0, 0), (.iaload, 1, 0, 0), (.if_icmp .lt 34, 3, 4, 0), (.aload_n 0, 1, 0, 0), (.getfield 109, 3, 12, 36), (.iload_n 1, 1, 0, 0), (.iaload, 1, 0, 0), (.aload_n 0, 1, 0, 0), (.getfield 109, 3, 12, 36), (.iload_n 2, 1, 0, 0), (.iaload, 1, 0, 0), (.if_icmp .ne 23, 3, 5, 0), (.aload_n 0, 1, 0, 0), (.getfield 121, 3, 12, 40), (.iload_n 1, 1, 0, 0), (.laload, 1, 0, 0), (.aload_n 0, 1, 0, 0), (.getfield 121, 3, 12, 40), (.iload_n 2, 1, 0, 0), (.laload, 1, 0, 0), (.lcmp, 1, 0, 0), (.ifCond .ge 7, 3, 5, 0), (.nop, 0, 4, 0)],
   [(.iconst 1, 1, 0, 0), (.goto 4, 3, 6, 0)],
   [(.iconst 0, 1, 0, 0), (.nop, 0, 6, 0)],
   [(.ireturn, 1, 0, 0)]],
  [], (5, 0, 0, 12), [], ⟨"SlidingtrayModel", "goesAhead", "(II)Z"⟩, prog_14_method_59_code, (some .boolean), [])
abbrev jm213p : List Nat := [0, 45, 46, 47, 93, 97, 98]
/-- SlidingtrayModel.loads(I)V -/
def jm214 : jM := (
  [[(.iconst 0, 1, 0, 0), (.istore_n 2, 1, 0, 0), (.nop, 0, 1, 0)],
   [(.iload_n 2, 1, 0, 0), (.aload_n 0, 1, 0, 0), (.getfield 170, 3, 12, 7), (.if_icmp .ge 26, 3, 2, 0), (.aload_n 0, 1, 0, 0), (.getfield 128, 3, 12, 43), (.iload_n 2, 1, 0, 0), (.aload_n 0, 1, 0, 0), (.getfield 103, 3, 12, 34), (.bipush 16, 2, 0, 0), (.iload_n 1, 1, 0, 0), (.imul, 1, 0, 0), (.iload_n 2, 1, 0, 0), (.iadd, 1, 0, 0), (.iaload, 1, 0, 0), (.iastore, 1, 0, 0), (.iinc 2 1, 3, 0, 0), (.goto (-28), 3, 1, 0)],
   [(.return_, 1, 0, 0)]],
  [], (3, 0, 0, 12), [], ⟨"SlidingtrayModel", "loads", "(I)V"⟩, prog_14_method_60_code, none, [])
abbrev jm214p : List Nat := [0, 2, 33]
/-- SlidingtrayModel.searches(II)I -/
def jm215 : jM := (
  [[(.aload_n 0, 1, 0, 0), (.invokevirtual 314, 3, 211, 1), (.aload_n 0, 1, 0, 0), (.iconst 0, 1, 0, 0), (.putfield 317, 3, 48, 50), (.aload_n 0, 1, 0, 0), (.iconst 0, 1, 0, 0), (.putfield 320, 3, 48, 51), (.aload_n 0, 1, 0, 0), (.iconst 0, 1, 0, 0), (.putfield 323, 3, 48, 52), (.aload_n 0, 1, 0, 0), (.iconst 0, 1, 0, 0), (.iconst (-1), 1, 0, 0), (.iconst (-1), 1, 0, 0), (.iload_n 1, 1, 0, 0), (.invokevirtual 326, 3, 212, 5), (.istore_n 3, 1, 0, 0), (.nop, 0, 1, 0)],
   [(.iconst (-1), 1, 0, 0), (.istore 4, 2, 0, 0), (.iload_n 3, 1, 0, 0), (.istore 5, 2, 0, 0), (.nop, 0, 2, 0)],
   [(.iload 5, 2, 0, 0), (.aload_n 0, 1, 0, 0), (.getfield 307, 3, 12, 42), (.if_icmp .ge 40, 3, 5, 0), (.aload_n 0, 1, 0, 0), (.getfield 125, 3, 12, 41), (.iload 5, 2, 0, 0), (.baload, 1, 0, 0), (.ifCond .ne 24, 3, 4, 0), (.iload 4, 2, 0, 0), (.iconst (-1), 1, 0, 0), (.if_icmp .eq 14, 3, 3, 0), (.aload_n 0, 1, 0, 0), (.iload 5, 2, 0, 0), (.iload 4, 2, 0, 0), (.invokevirtual 330, 3, 213, 3), (.ifCond .eq 7, 3, 4, 0), (.nop, 0, 3, 0)],
   [(.iload 5, 2, 0, 0), (.istore 4, 2, 0, 0), (.nop, 0, 4, 0)],
   [(.iinc 5 1, 3, 0, 0), (.goto (-43), 3, 2, 0)],
   [(.iload 4, 2, 0, 0), (.iconst (-1), 1, 0, 0), (.if_icmp .ne 5, 3, 6, 0), (.iconst (-1), 1, 0, 0), (.ireturn, 1, 0, 0)],
   [(.aload_n 0, 1, 0, 0), (.getfield 320, 3, 12, 51), (.iload_n 2, 1, 0, 0), (.if_icmp .ne 6, 3, 7, 0), (.bipush (-2), 2, 0, 0), (.ireturn, 1, 0, 0)],
   [(.aload_n 0, 1, 0, 0), (.getfield 125, 3, 12, 41), (.iload 4, 2, 0, 0), (.iconst 1, 1, 0, 0), (.bastore, 1, 0, 0), (.aload_n 0, 1, 0, 0), (.dup, 1, 0, 0), (.getfield 320, 3, 12, 51), (.iconst 1, 1, 0, 0), (.iadd, 1, 0, 0), (.putfield 320, 3, 48, 51), (.aload_n 0, 1, 0, 0), (.iload 4, 2, 0, 0), (.invokevirtual 333, 3, 214, 2), (.aload_n 0, 1, 0, 0), (.aload_n 0, 1, 0, 0), (.getfield 128, 3, 12, 43), (.invokevirtual 336, 3, 186, 2), (.ifCond .eq 17, 3, 8, 0), (.aload_n 0, 1, 0, 0), (.iload 4, 2, 0, 0), (.invokevirtual 340, 3, 216, 2), (.aload_n 0, 1, 0, 0), (.getfield 106, 3, 12, 35), (.iload 4, 2, 0, 0), (.iaload, 1, 0, 0), (.ireturn, 1, 0, 0)],
   [(.iconst 0, 1, 0, 0), (.istore 5, 2, 0, 0), (.nop, 0, 9, 0)],
   [(.iload 5, 2, 0, 0), (.iconst 4, 1, 0, 0), (.if_icmp .ge 54, 3, 11, 0), (.aload_n 0, 1, 0, 0), (.iload 4, 2, 0, 0), (.invokevirtual 333, 3, 214, 2), (.aload_n 0, 1, 0, 0), (.aload_n 0, 1, 0, 0), (.getfield 128, 3, 12, 43), (.iload 5, 2, 0, 0), (.invokevirtual 270, 3, 187, 3), (.istore 6, 2, 0, 0), (.iload 6, 2, 0, 0), (.iconst (-1), 1, 0, 0), (.if_icmp .eq 24, 3, 10, 0), (.aload_n 0, 1, 0, 0), (.aload_n 0, 1, 0, 0), (.getfield 106, 3, 12, 35), (.iload 4, 2, 0, 0), (.iaload, 1, 0, 0), (.iload 6, 2, 0, 0), (.iadd, 1, 0, 0), (.iload 4, 2, 0, 0), (.iload 5, 2, 0, 0), (.iload_n 1, 1, 0, 0), (.invokevirtual 326, 3, 212, 5), (.istore 7, 2, 0, 0), (.nop, 0, 10, 0)],
   [(.iinc 5 1, 3, 0, 0), (.goto (-54), 3, 9, 0)],
   [(.goto (-180), 3, 1, 0)]],
  [], (8, 4, 105, 12), [], ⟨"SlidingtrayModel", "searches", "(II)I"⟩, prog_14_method_61_code, (some .int), [])
abbrev jm215p : List Nat := [0, 28, 34, 70, 74, 80, 88, 99, 148, 151, 202, 208]
/-- SlidingtrayModel.tracks(I)V -/
def jm216 : jM := (
  [[(.iload_n 1, 1, 0, 0), (.istore_n 2, 1, 0, 0), (.nop, 0, 1, 0)],
   [(.aload_n 0, 1, 0, 0), (.getfield 112, 3, 12, 37), (.iload_n 2, 1, 0, 0), (.iaload, 1, 0, 0), (.iconst (-1), 1, 0, 0), (.if_icmp .eq 23, 3, 2, 0), (.aload_n 0, 1, 0, 0), (.dup, 1, 0, 0), (.getfield 317, 3, 12, 50), (.iconst 1, 1, 0, 0), (.iadd, 1, 0, 0), (.putfield 317, 3, 48, 50), (.aload_n 0, 1, 0, 0), (.getfield 112, 3, 12, 37), (.iload_n 2, 1, 0, 0), (.iaload, 1, 0, 0), (.istore_n 2, 1, 0, 0), (.goto (-27), 3, 1, 0)],
   [(.aload_n 0, 1, 0, 0), (.getfield 317, 3, 12, 50), (.istore_n 2, 1, 0, 0), (.iload_n 1, 1, 0, 0), (.istore_n 3, 1, 0, 0), (.nop, 0, 3, 0)],
   [(.aload_n 0, 1, 0, 0), (.getfield 112, 3, 12, 37), (.iload_n 3, 1, 0, 0), (.iaload, 1, 0, 0), (.iconst (-1), 1, 0, 0), (.if_icmp .eq 28, 3, 4, 0), (.iinc 2 (-1), 3, 0, 0), (.aload_n 0, 1, 0, 0), (.getfield 134, 3, 12, 45), (.iload_n 2, 1, 0, 0), (.aload_n 0, 1, 0, 0), (.getfield 115, 3, 12, 38), (.iload_n 3, 1, 0, 0), (.iaload, 1, 0, 0), (.iastore, 1, 0, 0), (.aload_n 0, 1, 0, 0), (.getfield 112, 3, 12, 37), (.iload_n 3, 1, 0, 0), (.iaload, 1, 0, 0), (.istore_n 3, 1, 0, 0), (.goto (-32), 3, 3, 0)],
   [(.return_, 1, 0, 0)]],
  [], (4, 0, 0, 12), [], ⟨"SlidingtrayModel", "tracks", "(I)V"⟩, prog_14_method_62_code, none, [])
abbrev jm216p : List Nat := [0, 2, 32, 39, 74]
/-- SlidingtrayModel.tells()V -/
def jm217 : jM := (
  [[(.aload_n 0, 1, 0, 0), (.aload_n 0, 1, 0, 0), (.getfield 317, 3, 12, 50), (.putfield 196, 3, 48, 46), (.aload_n 0, 1, 0, 0), (.aload_n 0, 1, 0, 0), (.getfield 317, 3, 12, 50), (.putfield 193, 3, 48, 49), (.aload_n 0, 1, 0, 0), (.aload_n 0, 1, 0, 0), (.getfield 320, 3, 12, 51), (.putfield 187, 3, 48, 47), (.aload_n 0, 1, 0, 0), (.aload_n 0, 1, 0, 0), (.getfield 323, 3, 12, 52), (.putfield 190, 3, 48, 48), (.iconst 0, 1, 0, 0), (.istore_n 1, 1, 0, 0), (.nop, 0, 1, 0)],
   [(.iload_n 1, 1, 0, 0), (.aload_n 0, 1, 0, 0), (.getfield 196, 3, 12, 46), (.if_icmp .ge 21, 3, 2, 0), (.aload_n 0, 1, 0, 0), (.getfield 131, 3, 12, 44), (.iload_n 1, 1, 0, 0), (.aload_n 0, 1, 0, 0), (.getfield 134, 3, 12, 45), (.iload_n 1, 1, 0, 0), (.iaload, 1, 0, 0), (.iastore, 1, 0, 0), (.iinc 1 1, 3, 0, 0), (.goto (-23), 3, 1, 0)],
   [(.return_, 1, 0, 0)]],
  [], (2, 0, 0, 12), [], ⟨"SlidingtrayModel", "tells", "()V"⟩, prog_14_method_63_code, none, [])
abbrev jm217p : List Nat := [0, 34, 60]
/-- SlidingtrayModel.laysRow()V -/
def jm218 : jM := (
  [[(.iconst 0, 1, 0, 0), (.istore_n 1, 1, 0, 0), (.nop, 0, 1, 0)],
   [(.iload_n 1, 1, 0, 0), (.aload_n 0, 1, 0, 0), (.getfield 170, 3, 12, 7), (.if_icmp .ge 21, 3, 2, 0), (.aload_n 0, 1, 0, 0), (.getfield 128, 3, 12, 43), (.iload_n 1, 1, 0, 0), (.aload_n 0, 1, 0, 0), (.getfield 33, 3, 12, 9), (.iload_n 1, 1, 0, 0), (.iaload, 1, 0, 0), (.iastore, 1, 0, 0), (.iinc 1 1, 3, 0, 0), (.goto (-23), 3, 1, 0)],
   [(.return_, 1, 0, 0)]],
  [], (2, 0, 0, 12), [], ⟨"SlidingtrayModel", "laysRow", "()V"⟩, prog_14_method_64_code, none, [])
abbrev jm218p : List Nat := [0, 2, 28]
/-- SlidingtrayModel.solve(I)I -/
def jm219 : jM := (
  [[(.iload_n 1, 1, 0, 0), (.iconst 0, 1, 0, 0), (.iconst 4, 1, 0, 0), (.invokestatic 200, 3, 157, 3), (.ifCond .ne 9, 3, 1, 0), (.aload_n 0, 1, 0, 0), (.iconst 1, 1, 0, 0), (.invokevirtual 204, 3, 158, 2), (.ireturn, 1, 0, 0)],
   [(.aload_n 0, 1, 0, 0), (.invokevirtual 343, 3, 218, 1), (.aload_n 0, 1, 0, 0), (.iload_n 1, 1, 0, 0), (.aload_n 0, 1, 0, 0), (.getfield 45, 3, 12, 13), (.invokevirtual 346, 3, 215, 3), (.istore_n 2, 1, 0, 0), (.iload_n 2, 1, 0, 0), (.bipush (-2), 2, 0, 0), (.if_icmp .ne 9, 3, 2, 0), (.aload_n 0, 1, 0, 0), (.iconst 2, 1, 0, 0), (.invokevirtual 204, 3, 158, 2), (.ireturn, 1, 0, 0)],
   [(.aload_n 0, 1, 0, 0), (.invokevirtual 349, 3, 217, 1), (.aload_n 0, 1, 0, 0), (.iload_n 2, 1, 0, 0), (.invokevirtual 215, 3, 159, 2), (.ireturn, 1, 0, 0)]],
  [], (3, 5, 132, 12), [], ⟨"SlidingtrayModel", "solve", "(I)I"⟩, prog_14_method_65_code, (some .int), [])
abbrev jm219p : List Nat := [0, 15, 41]
/-- SlidingtrayModel.comesTo(I)I -/
def jm220 : jM := (
  [[(.aload_n 0, 1, 0, 0), (.getfield 320, 3, 12, 51), (.aload_n 0, 1, 0, 0), (.getfield 45, 3, 12, 13), (.if_icmp .ne 10, 3, 1, 0), (.aload_n 0, 1, 0, 0), (.iconst 1, 1, 0, 0), (.putfield 352, 3, 49, 56), (.iconst (-1), 1, 0, 0), (.ireturn, 1, 0, 0)],
   [(.aload_n 0, 1, 0, 0), (.dup, 1, 0, 0), (.getfield 320, 3, 12, 51), (.iconst 1, 1, 0, 0), (.iadd, 1, 0, 0), (.putfield 320, 3, 48, 51), (.iload_n 1, 1, 0, 0), (.aload_n 0, 1, 0, 0), (.aload_n 0, 1, 0, 0), (.getfield 128, 3, 12, 43), (.aload_n 0, 1, 0, 0), (.getfield 356, 3, 12, 55), (.invokevirtual 302, 3, 177, 3), (.iadd, 1, 0, 0), (.istore_n 2, 1, 0, 0), (.iload_n 2, 1, 0, 0), (.aload_n 0, 1, 0, 0), (.getfield 359, 3, 12, 53), (.if_icmp .le 25, 3, 4, 0), (.aload_n 0, 1, 0, 0), (.iload_n 2, 1, 0, 0), (.aload_n 0, 1, 0, 0), (.getfield 362, 3, 12, 54), (.if_icmp .ge 7, 3, 2, 0), (.iload_n 2, 1, 0, 0), (.goto 7, 3, 3, 0)],
   [(.aload_n 0, 1, 0, 0), (.getfield 362, 3, 12, 54), (.nop, 0, 3, 0)],
   [(.putfield 362, 3, 48, 54), (.iconst (-1), 1, 0, 0), (.ireturn, 1, 0, 0)],
   [(.aload_n 0, 1, 0, 0), (.aload_n 0, 1, 0, 0), (.getfield 128, 3, 12, 43), (.invokevirtual 336, 3, 186, 2), (.ifCond .eq 7, 3, 5, 0), (.iload_n 1, 1, 0, 0), (.goto 5, 3, 6, 0)],
   [(.ldc 199, 2, 1000000000, 0), (.nop, 0, 6, 0)],
   [(.ireturn, 1, 0, 0)]],
  [], (3, 3, 77, 12), [], ⟨"SlidingtrayModel", "comesTo", "(I)I"⟩, prog_14_method_66_code, (some .int), [])
abbrev jm220p : List Nat := [0, 18, 64, 68, 73, 88, 90]
/-- SlidingtrayModel.deepens()I -/
def jm221 : jM := (
  [[(.aload_n 0, 1, 0, 0), (.iconst 0, 1, 0, 0), (.putfield 317, 3, 48, 50), (.aload_n 0, 1, 0, 0), (.iconst 0, 1, 0, 0), (.invokevirtual 365, 3, 220, 2), (.istore_n 1, 1, 0, 0), (.iload_n 1, 1, 0, 0), (.ldc 199, 2, 1000000000, 0), (.if_icmp .eq 5, 3, 1, 0), (.iload_n 1, 1, 0, 0), (.ireturn, 1, 0, 0)],
   [(.aload_n 0, 1, 0, 0), (.getfield 137, 3, 12, 57), (.iconst 0, 1, 0, 0), (.iconst 0, 1, 0, 0), (.iastore, 1, 0, 0), (.aload_n 0, 1, 0, 0), (.getfield 140, 3, 12, 58), (.iconst 0, 1, 0, 0), (.iconst 0, 1, 0, 0), (.iastore, 1, 0, 0), (.aload_n 0, 1, 0, 0), (.getfield 143, 3, 12, 59), (.iconst 0, 1, 0, 0), (.iconst (-1), 1, 0, 0), (.iastore, 1, 0, 0), (.iconst 0, 1, 0, 0), (.istore_n 2, 1, 0, 0), (.nop, 0, 2, 0)],
   [(.iload_n 2, 1, 0, 0), (.ifCond .lt 206, 3, 11, 0), (.aload_n 0, 1, 0, 0), (.getfield 137, 3, 12, 57), (.iload_n 2, 1, 0, 0), (.iaload, 1, 0, 0), (.istore_n 3, 1, 0, 0), (.iload_n 3, 1, 0, 0), (.iconst 4, 1, 0, 0), (.if_icmp .ne 35, 3, 5, 0), (.iinc 2 (-1), 3, 0, 0), (.iload_n 2, 1, 0, 0), (.ifCond .ge 7, 3, 3, 0), (.iconst (-1), 1, 0, 0), (.goto 19, 3, 4, 0)],
   [(.aload_n 0, 1, 0, 0), (.aload_n 0, 1, 0, 0), (.getfield 128, 3, 12, 43), (.iconst 3, 1, 0, 0), (.aload_n 0, 1, 0, 0), (.getfield 134, 3, 12, 45), (.iload_n 2, 1, 0, 0), (.iaload, 1, 0, 0), (.isub, 1, 0, 0), (.invokevirtual 270, 3, 187, 3), (.nop, 0, 4, 0)],
   [(.istore 4, 2, 0, 0), (.goto (-45), 3, 2, 0)],
   [(.aload_n 0, 1, 0, 0), (.getfield 137, 3, 12, 57), (.iload_n 2, 1, 0, 0), (.dup2, 1, 0, 0), (.iaload, 1, 0, 0), (.iconst 1, 1, 0, 0), (.iadd, 1, 0, 0), (.iastore, 1, 0, 0), (.aload_n 0, 1, 0, 0), (.aload_n 0, 1, 0, 0), (.getfield 128, 3, 12, 43), (.invokevirtual 242, 3, 166, 2), (.istore 4, 2, 0, 0), (.aload_n 0, 1, 0, 0), (.getfield 16, 3, 12, 2), (.iconst 4, 1, 0, 0), (.iload 4, 2, 0, 0), (.imul, 1, 0, 0), (.iload_n 3, 1, 0, 0), (.iadd, 1, 0, 0), (.iaload, 1, 0, 0), (.istore 5, 2, 0, 0), (.iload 5, 2, 0, 0), (.iconst (-1), 1, 0, 0), (.if_icmp .eq (-84), 3, 2, 0), (.iload 5, 2, 0, 0), (.aload_n 0, 1, 0, 0), (.getfield 143, 3, 12, 59), (.iload_n 2, 1, 0, 0), (.iaload, 1, 0, 0), (.if_icmp .ne 6, 3, 6, 0), (.goto (-98), 3, 2, 0)],
   [(.aload_n 0, 1, 0, 0), (.getfield 140, 3, 12, 58), (.iload_n 2, 1, 0, 0), (.iaload, 1, 0, 0), (.aload_n 0, 1, 0, 0), (.aload_n 0, 1, 0, 0), (.getfield 128, 3, 12, 43), (.iload_n 3, 1, 0, 0), (.invokevirtual 270, 3, 187, 3), (.iadd, 1, 0, 0), (.istore 6, 2, 0, 0), (.aload_n 0, 1, 0, 0), (.getfield 134, 3, 12, 45), (.iload_n 2, 1, 0, 0), (.iload_n 3, 1, 0, 0), (.iastore, 1, 0, 0), (.aload_n 0, 1, 0, 0), (.iload 6, 2, 0, 0), (.invokevirtual 365, 3, 220, 2), (.istore_n 1, 1, 0, 0), (.aload_n 0, 1, 0, 0), (.getfield 352, 3, 12, 56), (.ifCond .eq 5, 3, 7, 0), (.iconst (-1), 1, 0, 0), (.ireturn, 1, 0, 0)],
   [(.iload_n 1, 1, 0, 0), (.iconst (-1), 1, 0, 0), (.if_icmp .ne 19, 3, 8, 0), (.aload_n 0, 1, 0, 0), (.aload_n 0, 1, 0, 0), (.getfield 128, 3, 12, 43), (.iconst 3, 1, 0, 0), (.iload_n 3, 1, 0, 0), (.isub, 1, 0, 0), (.invokevirtual 270, 3, 187, 3), (.istore 7, 2, 0, 0), (.goto 44, 3, 10, 0)],
   [(.iload_n 1, 1, 0, 0), (.ldc 199, 2, 1000000000, 0), (.if_icmp .ge 12, 3, 9, 0), (.aload_n 0, 1, 0, 0), (.iload_n 2, 1, 0, 0), (.iconst 1, 1, 0, 0), (.iadd, 1, 0, 0), (.putfield 317, 3, 48, 50), (.iload_n 1, 1, 0, 0), (.ireturn, 1, 0, 0)],
   [(.iinc 2 1, 3, 0, 0), (.aload_n 0, 1, 0, 0), (.getfield 137, 3, 12, 57), (.iload_n 2, 1, 0, 0), (.iconst 0, 1, 0, 0), (.iastore, 1, 0, 0), (.aload_n 0, 1, 0, 0), (.getfield 140, 3, 12, 58), (.iload_n 2, 1, 0, 0), (.iload 6, 2, 0, 0), (.iastore, 1, 0, 0), (.aload_n 0, 1, 0, 0), (.getfield 143, 3, 12, 59), (.iload_n 2, 1, 0, 0), (.iload 4, 2, 0, 0), (.iastore, 1, 0, 0), (.nop, 0, 10, 0)],
   [(.goto (-204), 3, 2, 0)],
   [(.iconst (-1), 1, 0, 0), (.ireturn, 1, 0, 0)]],
  [], (8, 4, 99, 12), [], ⟨"SlidingtrayModel", "deepens", "()I"⟩, prog_14_method_67_code, (some .int), [])
abbrev jm221p : List Nat := [0, 19, 42, 69, 85, 90, 143, 184, 205, 220, 246, 249]
/-- SlidingtrayModel.searchesDeeper(I)I -/
def jm222 : jM := (
  [[(.aload_n 0, 1, 0, 0), (.iconst 0, 1, 0, 0), (.putfield 317, 3, 48, 50), (.aload_n 0, 1, 0, 0), (.iconst 0, 1, 0, 0), (.putfield 320, 3, 48, 51), (.aload_n 0, 1, 0, 0), (.iconst 0, 1, 0, 0), (.putfield 323, 3, 48, 52), (.aload_n 0, 1, 0, 0), (.iload_n 1, 1, 0, 0), (.putfield 356, 3, 48, 55), (.aload_n 0, 1, 0, 0), (.iconst 0, 1, 0, 0), (.putfield 352, 3, 49, 56), (.aload_n 0, 1, 0, 0), (.aload_n 0, 1, 0, 0), (.aload_n 0, 1, 0, 0), (.getfield 128, 3, 12, 43), (.iload_n 1, 1, 0, 0), (.invokevirtual 302, 3, 177, 3), (.putfield 359, 3, 48, 53), (.iconst (-1), 1, 0, 0), (.istore_n 2, 1, 0, 0), (.iconst 1, 1, 0, 0), (.istore_n 3, 1, 0, 0), (.nop, 0, 1, 0)],
   [(.iload_n 3, 1, 0, 0), (.ifCond .eq 65, 3, 5, 0), (.aload_n 0, 1, 0, 0), (.ldc 199, 2, 1000000000, 0), (.putfield 362, 3, 48, 54), (.aload_n 0, 1, 0, 0), (.dup, 1, 0, 0), (.getfield 323, 3, 12, 52), (.iconst 1, 1, 0, 0), (.iadd, 1, 0, 0), (.putfield 323, 3, 48, 52), (.aload_n 0, 1, 0, 0), (.invokevirtual 368, 3, 221, 1), (.istore_n 2, 1, 0, 0), (.aload_n 0, 1, 0, 0), (.getfield 352, 3, 12, 56), (.ifCond .eq 6, 3, 2, 0), (.bipush (-2), 2, 0, 0), (.ireturn, 1, 0, 0)],
   [(.iload_n 2, 1, 0, 0), (.iconst (-1), 1, 0, 0), (.if_icmp .ne 16, 3, 3, 0), (.aload_n 0, 1, 0, 0), (.getfield 362, 3, 12, 54), (.ldc 199, 2, 1000000000, 0), (.if_icmp .ge 7, 3, 3, 0), (.iconst 1, 1, 0, 0), (.goto 4, 3, 4, 0)],
   [(.iconst 0, 1, 0, 0), (.nop, 0, 4, 0)],
   [(.istore_n 3, 1, 0, 0), (.aload_n 0, 1, 0, 0), (.aload_n 0, 1, 0, 0), (.getfield 362, 3, 12, 54), (.putfield 359, 3, 48, 53), (.goto (-63), 3, 1, 0)],
   [(.iload_n 2, 1, 0, 0), (.ireturn, 1, 0, 0)]],
  [], (4, 5, 126, 12), [], ⟨"SlidingtrayModel", "searchesDeeper", "(I)I"⟩, prog_14_method_68_code, (some .int), [])
abbrev jm222p : List Nat := [0, 42, 77, 95, 96, 108]
/-- SlidingtrayModel.deepen(I)I -/
def jm223 : jM := (
  [[(.iload_n 1, 1, 0, 0), (.iconst 0, 1, 0, 0), (.iconst 4, 1, 0, 0), (.invokestatic 200, 3, 157, 3), (.ifCond .ne 9, 3, 1, 0), (.aload_n 0, 1, 0, 0), (.iconst 1, 1, 0, 0), (.invokevirtual 204, 3, 158, 2), (.ireturn, 1, 0, 0)],
   [(.aload_n 0, 1, 0, 0), (.invokevirtual 343, 3, 218, 1), (.aload_n 0, 1, 0, 0), (.iload_n 1, 1, 0, 0), (.invokevirtual 371, 3, 222, 2), (.istore_n 2, 1, 0, 0), (.iload_n 2, 1, 0, 0), (.bipush (-2), 2, 0, 0), (.if_icmp .ne 9, 3, 2, 0), (.aload_n 0, 1, 0, 0), (.iconst 2, 1, 0, 0), (.invokevirtual 204, 3, 158, 2), (.ireturn, 1, 0, 0)],
   [(.aload_n 0, 1, 0, 0), (.invokevirtual 349, 3, 217, 1), (.aload_n 0, 1, 0, 0), (.iload_n 2, 1, 0, 0), (.invokevirtual 215, 3, 159, 2), (.ireturn, 1, 0, 0)]],
  [], (3, 6, 149, 12), [], ⟨"SlidingtrayModel", "deepen", "(I)I"⟩, prog_14_method_69_code, (some .int), [])
abbrev jm223p : List Nat := [0, 15, 37]
/-- SlidingtrayModel.asked(II)I -/
def jm224 : jM := (
  [[(.aload_n 0, 1, 0, 0), (.getfield 146, 3, 12, 60), (.sipush 4101, 3, 0, 0), (.iload_n 1, 1, 0, 0), (.imul, 1, 0, 0), (.iload_n 2, 1, 0, 0), (.iadd, 1, 0, 0), (.iaload, 1, 0, 0), (.ireturn, 1, 0, 0)]],
  [], (3, 0, 0, 12), [], ⟨"SlidingtrayModel", "asked", "(II)I"⟩, prog_14_method_70_code, (some .int), [])
abbrev jm224p : List Nat := [0]
/-- SlidingtrayModel.findsFrom(II)Z -/
def jm225 : jM := (
  [[(.aload_n 0, 1, 0, 0), (.getfield 307, 3, 12, 42), (.istore_n 3, 1, 0, 0), (.aload_n 0, 1, 0, 0), (.iconst 0, 1, 0, 0), (.iconst (-1), 1, 0, 0), (.iconst (-1), 1, 0, 0), (.iconst 0, 1, 0, 0), (.invokevirtual 326, 3, 212, 5), (.istore 4, 2, 0, 0), (.aload_n 0, 1, 0, 0), (.getfield 307, 3, 12, 42), (.iload_n 3, 1, 0, 0), (.if_icmp .le 23, 3, 1, 0), (.aload_n 0, 1, 0, 0), (.getfield 146, 3, 12, 60), (.iload 4, 2, 0, 0), (.iconst (-1), 1, 0, 0), (.iastore, 1, 0, 0), (.aload_n 0, 1, 0, 0), (.getfield 146, 3, 12, 60), (.sipush 4101, 3, 0, 0), (.iload 4, 2, 0, 0), (.iadd, 1, 0, 0), (.iconst (-1), 1, 0, 0), (.iastore, 1, 0, 0), (.nop, 0, 1, 0)],
   [(.aload_n 0, 1, 0, 0), (.iload_n 1, 1, 0, 0), (.iload 4, 2, 0, 0), (.invokevirtual 374, 3, 224, 3), (.iconst (-1), 1, 0, 0), (.if_icmp .eq 5, 3, 2, 0), (.iconst 0, 1, 0, 0), (.ireturn, 1, 0, 0)],
   [(.aload_n 0, 1, 0, 0), (.getfield 146, 3, 12, 60), (.sipush 4101, 3, 0, 0), (.iload_n 1, 1, 0, 0), (.imul, 1, 0, 0), (.iload 4, 2, 0, 0), (.iadd, 1, 0, 0), (.iload_n 2, 1, 0, 0), (.iastore, 1, 0, 0), (.iconst 1, 1, 0, 0), (.ireturn, 1, 0, 0)]],
  [], (5, 4, 105, 12), [], ⟨"SlidingtrayModel", "findsFrom", "(II)Z"⟩, prog_14_method_71_code, (some .boolean), [])
abbrev jm225p : List Nat := [0, 43, 56]
/-- SlidingtrayModel.isMet(I)Z -/
def jm226 : jM := (
  [[(.iconst 0, 1, 0, 0), (.istore_n 2, 1, 0, 0), (.iload_n 1, 1, 0, 0), (.istore_n 3, 1, 0, 0), (.nop, 0, 1, 0)],
   [(.iload_n 3, 1, 0, 0), (.aload_n 0, 1, 0, 0), (.getfield 307, 3, 12, 42), (.if_icmp .ge 39, 3, 5, 0), (.iload_n 2, 1, 0, 0), (.ifCond .ne 23, 3, 2, 0), (.aload_n 0, 1, 0, 0), (.iconst 0, 1, 0, 0), (.iload_n 3, 1, 0, 0), (.invokevirtual 374, 3, 224, 3), (.iconst (-1), 1, 0, 0), (.if_icmp .eq 17, 3, 3, 0), (.aload_n 0, 1, 0, 0), (.iconst 1, 1, 0, 0), (.iload_n 3, 1, 0, 0), (.invokevirtual 374, 3, 224, 3), (.iconst (-1), 1, 0, 0), (.if_icmp .eq 7, 3, 3, 0), (.nop, 0, 2, 0)],
   [(.iconst 1, 1, 0, 0), (.goto 4, 3, 4, 0)],
   [(.iconst 0, 1, 0, 0), (.nop, 0, 4, 0)],
   [(.istore_n 2, 1, 0, 0), (.iinc 3 1, 3, 0, 0), (.goto (-41), 3, 1, 0)],
   [(.iload_n 2, 1, 0, 0), (.ireturn, 1, 0, 0)]],
  [], (4, 1, 22, 12), [], ⟨"SlidingtrayModel", "isMet", "(I)Z"⟩, prog_14_method_72_code, (some .boolean), [])
abbrev jm226p : List Nat := [0, 4, 36, 40, 41, 48]
/-- SlidingtrayModel.both()I -/
def jm227 : jM := (
  [[(.aload_n 0, 1, 0, 0), (.invokevirtual 295, 3, 206, 1), (.ifCond .eq 9, 3, 1, 0), (.aload_n 0, 1, 0, 0), (.iconst 1, 1, 0, 0), (.invokevirtual 204, 3, 158, 2), (.ireturn, 1, 0, 0)],
   [(.aload_n 0, 1, 0, 0), (.invokevirtual 314, 3, 211, 1), (.aload_n 0, 1, 0, 0), (.invokevirtual 343, 3, 218, 1), (.aload_n 0, 1, 0, 0), (.iconst 0, 1, 0, 0), (.iconst 0, 1, 0, 0), (.invokevirtual 377, 3, 225, 3), (.ifCond .eq 7, 3, 2, 0), (.iconst 1, 1, 0, 0), (.goto 4, 3, 3, 0)],
   [(.iconst 0, 1, 0, 0), (.nop, 0, 3, 0)],
   [(.istore_n 1, 1, 0, 0), (.aload_n 0, 1, 0, 0), (.invokevirtual 299, 3, 207, 1), (.iconst 0, 1, 0, 0), (.istore_n 2, 1, 0, 0), (.nop, 0, 4, 0)],
   [(.iload_n 2, 1, 0, 0), (.aload_n 0, 1, 0, 0), (.getfield 170, 3, 12, 7), (.if_icmp .ge 21, 3, 5, 0), (.aload_n 0, 1, 0, 0), (.getfield 128, 3, 12, 43), (.iload_n 2, 1, 0, 0), (.aload_n 0, 1, 0, 0), (.getfield 99, 3, 12, 33), (.iload_n 2, 1, 0, 0), (.iaload, 1, 0, 0), (.iastore, 1, 0, 0), (.iinc 2 1, 3, 0, 0), (.goto (-23), 3, 4, 0)],
   [(.iload_n 1, 1, 0, 0), (.aload_n 0, 1, 0, 0), (.iconst 1, 1, 0, 0), (.iconst 0, 1, 0, 0), (.invokevirtual 377, 3, 225, 3), (.ifCond .eq 7, 3, 6, 0), (.iconst 1, 1, 0, 0), (.goto 4, 3, 7, 0)],
   [(.iconst 0, 1, 0, 0), (.nop, 0, 7, 0)],
   [(.iadd, 1, 0, 0), (.istore_n 1, 1, 0, 0), (.iload_n 1, 1, 0, 0), (.aload_n 0, 1, 0, 0), (.getfield 45, 3, 12, 13), (.if_icmp .le 9, 3, 8, 0), (.aload_n 0, 1, 0, 0), (.iconst 1, 1, 0, 0), (.invokevirtual 204, 3, 158, 2), (.ireturn, 1, 0, 0)],
   [(.iconst 0, 1, 0, 0), (.istore_n 2, 1, 0, 0), (.iconst 1, 1, 0, 0), (.istore_n 3, 1, 0, 0), (.nop, 0, 9, 0)],
   [(.iload_n 3, 1, 0, 0), (.ifCond .eq 154, 3, 21, 0), (.aload_n 0, 1, 0, 0), (.iconst 0, 1, 0, 0), (.invokevirtual 380, 3, 226, 2), (.ifCond .ne 146, 3, 21, 0), (.iload_n 2, 1, 0, 0), (.iconst 2, 1, 0, 0), (.irem, 1, 0, 0), (.istore 4, 2, 0, 0), (.iload_n 2, 1, 0, 0), (.iconst 2, 1, 0, 0), (.idiv, 1, 0, 0), (.istore 5, 2, 0, 0), (.iload_n 1, 1, 0, 0), (.istore 6, 2, 0, 0), (.aload_n 0, 1, 0, 0), (.getfield 307, 3, 12, 42), (.istore 7, 2, 0, 0), (.iconst 0, 1, 0, 0), (.istore 8, 2, 0, 0), (.nop, 0, 10, 0)],
   [(.iload 8, 2, 0, 0), (.iload 7, 2, 0, 0), (.if_icmp .ge 90, 3, 16, 0), (.aload_n 0, 1, 0, 0), (.iload 4, 2, 0, 0), (.iload 8, 2, 0, 0), (.invokevirtual 374, 3, 224, 3), (.iload 5, 2, 0, 0), (.if_icmp .eq 6, 3, 11, 0), (.goto 68, 3, 15, 0)],
   [(.iconst 0, 1, 0, 0), (.istore 9, 2, 0, 0), (.nop, 0, 12, 0)],
   [(.iload 9, 2, 0, 0), (.iconst 4, 1, 0, 0), (.if_icmp .ge 59, 3, 15, 0), (.aload_n 0, 1, 0, 0), (.iload 8, 2, 0, 0), (.invokevirtual 333, 3, 214, 2), (.aload_n 0, 1, 0, 0), (.aload_n 0, 1, 0, 0), (.getfield 128, 3, 12, 43), (.iload 9, 2, 0, 0), (.invokevirtual 270, 3, 187, 3), (.iconst (-1), 1, 0, 0), (.if_icmp .eq 19, 3, 13, 0), (.aload_n 0, 1, 0, 0), (.iload 4, 2, 0, 0), (.iload 5, 2, 0, 0), (.iconst 1, 1, 0, 0), (.iadd, 1, 0, 0), (.invokevirtual 377, 3, 225, 3), (.ifCond .eq 6, 3, 13, 0), (.iinc 1 1, 3, 0, 0), (.nop, 0, 13, 0)],
   [(.iload_n 1, 1, 0, 0), (.aload_n 0, 1, 0, 0), (.getfield 45, 3, 12, 13), (.if_icmp .le 9, 3, 14, 0), (.aload_n 0, 1, 0, 0), (.iconst 1, 1, 0, 0), (.invokevirtual 204, 3, 158, 2), (.ireturn, 1, 0, 0)],
   [(.iinc 9 1, 3, 0, 0), (.goto (-59), 3, 12, 0)],
   [(.iinc 8 1, 3, 0, 0), (.goto (-91), 3, 10, 0)],
   [(.iload_n 1, 1, 0, 0), (.iload 6, 2, 0, 0), (.if_icmp .le 7, 3, 17, 0), (.iconst 1, 1, 0, 0), (.goto 4, 3, 18, 0)],
   [(.iconst 0, 1, 0, 0), (.nop, 0, 18, 0)],
   [(.istore_n 3, 1, 0, 0), (.iload_n 2, 1, 0, 0), (.iload_n 3, 1, 0, 0), (.ifCond .eq 7, 3, 19, 0), (.iconst 1, 1, 0, 0), (.goto 4, 3, 20, 0)],
   [(.iconst 0, 1, 0, 0), (.nop, 0, 20, 0)],
   [(.iadd, 1, 0, 0), (.istore_n 2, 1, 0, 0), (.goto (-152), 3, 9, 0)],
   [(.aload_n 0, 1, 0, 0), (.iload_n 1, 1, 0, 0), (.putfield 187, 3, 48, 47), (.aload_n 0, 1, 0, 0), (.iload_n 2, 1, 0, 0), (.putfield 190, 3, 48, 48), (.aload_n 0, 1, 0, 0), (.iconst 0, 1, 0, 0), (.putfield 193, 3, 48, 49), (.aload_n 0, 1, 0, 0), (.iload_n 3, 1, 0, 0), (.ifCond .eq 7, 3, 22, 0), (.iload_n 2, 1, 0, 0), (.goto 4, 3, 23, 0)],
   [(.iconst (-1), 1, 0, 0), (.nop, 0, 23, 0)],
   [(.invokevirtual 215, 3, 159, 2), (.ireturn, 1, 0, 0)]],
  [], (10, 5, 129, 12), [], ⟨"SlidingtrayModel", "both", "()I"⟩, prog_14_method_73_code, (some .int), [])
abbrev jm227p : List Nat := [0, 13, 34, 35, 42, 68, 82, 83, 99, 103, 137, 160, 163, 205, 219, 225, 231, 241, 242, 252, 253, 258, 282, 283]
/-- SlidingtrayModel.searched(I)I -/
def jm228 : jM := (
  [[(.iload_n 1, 1, 0, 0), (.tableswitch 54 0 2 #[27, 36, 45], 27, 0, 0)],
   [(.aload_n 0, 1, 0, 0), (.aload_n 0, 1, 0, 0), (.getfield 187, 3, 12, 47), (.invokevirtual 215, 3, 159, 2), (.ireturn, 1, 0, 0)],
   [(.aload_n 0, 1, 0, 0), (.aload_n 0, 1, 0, 0), (.getfield 190, 3, 12, 48), (.invokevirtual 215, 3, 159, 2), (.ireturn, 1, 0, 0)],
   [(.aload_n 0, 1, 0, 0), (.aload_n 0, 1, 0, 0), (.getfield 193, 3, 12, 49), (.invokevirtual 215, 3, 159, 2), (.ireturn, 1, 0, 0)],
   [(.aload_n 0, 1, 0, 0), (.iconst 1, 1, 0, 0), (.invokevirtual 204, 3, 158, 2), (.ireturn, 1, 0, 0)]],
  [[4, 1, 2, 3]], (2, 1, 21, 12), [], ⟨"SlidingtrayModel", "searched", "(I)I"⟩, prog_14_method_74_code, (some .int), [])
abbrev jm228p : List Nat := [0, 28, 37, 46, 55]
/-- SlidingtrayModel.wayAt(I)I -/
def jm229 : jM := (
  [[(.iload_n 1, 1, 0, 0), (.iconst 0, 1, 0, 0), (.aload_n 0, 1, 0, 0), (.getfield 196, 3, 12, 46), (.iconst 1, 1, 0, 0), (.isub, 1, 0, 0), (.invokestatic 200, 3, 157, 3), (.ifCond .eq 16, 3, 1, 0), (.aload_n 0, 1, 0, 0), (.aload_n 0, 1, 0, 0), (.getfield 131, 3, 12, 44), (.iload_n 1, 1, 0, 0), (.iaload, 1, 0, 0), (.invokevirtual 215, 3, 159, 2), (.goto 8, 3, 2, 0)],
   [(.aload_n 0, 1, 0, 0), (.iconst 1, 1, 0, 0), (.invokevirtual 204, 3, 158, 2), (.nop, 0, 2, 0)],
   [(.ireturn, 1, 0, 0)]],
  [], (2, 1, 22, 12), [], ⟨"SlidingtrayModel", "wayAt", "(I)I"⟩, prog_14_method_75_code, (some .int), [])
abbrev jm229p : List Nat := [0, 27, 32]
/-- SlidingtrayModel.hint()I -/
def jm230 : jM := (
  [[(.aload_n 0, 1, 0, 0), (.invokevirtual 343, 3, 218, 1), (.aload_n 0, 1, 0, 0), (.aload_n 0, 1, 0, 0), (.getfield 128, 3, 12, 43), (.invokevirtual 336, 3, 186, 2), (.ifCond .eq 9, 3, 1, 0), (.aload_n 0, 1, 0, 0), (.iconst (-1), 1, 0, 0), (.invokevirtual 215, 3, 159, 2), (.ireturn, 1, 0, 0)],
   [(.aload_n 0, 1, 0, 0), (.iconst 3, 1, 0, 0), (.bipush 100, 2, 0, 0), (.invokevirtual 346, 3, 215, 3), (.istore_n 1, 1, 0, 0), (.iload_n 1, 1, 0, 0), (.bipush (-2), 2, 0, 0), (.if_icmp .ne 9, 3, 2, 0), (.aload_n 0, 1, 0, 0), (.iconst 1, 1, 0, 0), (.invokevirtual 204, 3, 158, 2), (.ireturn, 1, 0, 0)],
   [(.iload_n 1, 1, 0, 0), (.iconst (-1), 1, 0, 0), (.if_icmp .ne 9, 3, 3, 0), (.aload_n 0, 1, 0, 0), (.iconst (-1), 1, 0, 0), (.invokevirtual 215, 3, 159, 2), (.ireturn, 1, 0, 0)],
   [(.iconst 0, 1, 0, 0), (.istore_n 2, 1, 0, 0), (.nop, 0, 4, 0)],
   [(.iload_n 2, 1, 0, 0), (.iconst 4, 1, 0, 0), (.if_icmp .ge 73, 3, 9, 0), (.aload_n 0, 1, 0, 0), (.invokevirtual 343, 3, 218, 1), (.aload_n 0, 1, 0, 0), (.aload_n 0, 1, 0, 0), (.getfield 128, 3, 12, 43), (.iload_n 2, 1, 0, 0), (.invokevirtual 270, 3, 187, 3), (.istore_n 3, 1, 0, 0), (.iload_n 3, 1, 0, 0), (.iconst (-1), 1, 0, 0), (.if_icmp .ne 7, 3, 5, 0), (.iconst (-1), 1, 0, 0), (.goto 10, 3, 6, 0)],
   [(.aload_n 0, 1, 0, 0), (.iconst 3, 1, 0, 0), (.bipush 100, 2, 0, 0), (.invokevirtual 346, 3, 215, 3), (.nop, 0, 6, 0)],
   [(.istore 4, 2, 0, 0), (.iload 4, 2, 0, 0), (.bipush (-2), 2, 0, 0), (.if_icmp .ne 9, 3, 7, 0), (.aload_n 0, 1, 0, 0), (.iconst 1, 1, 0, 0), (.invokevirtual 204, 3, 158, 2), (.ireturn, 1, 0, 0)],
   [(.iload_n 3, 1, 0, 0), (.iconst (-1), 1, 0, 0), (.if_icmp .eq 17, 3, 8, 0), (.iload 4, 2, 0, 0), (.iload_n 3, 1, 0, 0), (.iadd, 1, 0, 0), (.iload_n 1, 1, 0, 0), (.if_icmp .ne 9, 3, 8, 0), (.aload_n 0, 1, 0, 0), (.iload_n 2, 1, 0, 0), (.invokevirtual 215, 3, 159, 2), (.ireturn, 1, 0, 0)],
   [(.iinc 2 1, 3, 0, 0), (.goto (-72), 3, 4, 0)],
   [(.aload_n 0, 1, 0, 0), (.iconst (-1), 1, 0, 0), (.invokevirtual 215, 3, 159, 2), (.ireturn, 1, 0, 0)]],
  [], (5, 5, 132, 12), [], ⟨"SlidingtrayModel", "hint", "()I"⟩, prog_14_method_76_code, (some .int), [])
abbrev jm230p : List Nat := [0, 21, 41, 52, 54, 82, 89, 104, 123, 129]
/-- SlidingtrayModel.reckons()V -/
def jm231 : jM := (
  [[(.aload_n 0, 1, 0, 0), (.aload_n 0, 1, 0, 0), (.invokevirtual 221, 3, 171, 1), (.l2i, 1, 0, 0), (.putfield 382, 3, 48, 65), (.iconst 0, 1, 0, 0), (.istore_n 1, 1, 0, 0), (.nop, 0, 1, 0)],
   [(.iload_n 1, 1, 0, 0), (.aload_n 0, 1, 0, 0), (.getfield 382, 3, 12, 65), (.if_icmp .ge 114, 3, 8, 0), (.aload_n 0, 1, 0, 0), (.iload_n 1, 1, 0, 0), (.i2l, 1, 0, 0), (.aload_n 0, 1, 0, 0), (.getfield 128, 3, 12, 43), (.invokevirtual 265, 3, 172, 3), (.aload_n 0, 1, 0, 0), (.getfield 149, 3, 12, 61), (.iload_n 1, 1, 0, 0), (.aload_n 0, 1, 0, 0), (.aload_n 0, 1, 0, 0), (.getfield 128, 3, 12, 43), (.invokevirtual 336, 3, 186, 2), (.ifCond .eq 7, 3, 2, 0), (.iconst 0, 1, 0, 0), (.goto 5, 3, 3, 0)],
   [(.ldc 199, 2, 1000000000, 0), (.nop, 0, 3, 0)],
   [(.iastore, 1, 0, 0), (.iconst 0, 1, 0, 0), (.istore_n 2, 1, 0, 0), (.nop, 0, 4, 0)],
   [(.iload_n 2, 1, 0, 0), (.iconst 4, 1, 0, 0), (.if_icmp .ge 68, 3, 7, 0), (.aload_n 0, 1, 0, 0), (.iload_n 1, 1, 0, 0), (.i2l, 1, 0, 0), (.aload_n 0, 1, 0, 0), (.getfield 128, 3, 12, 43), (.invokevirtual 265, 3, 172, 3), (.aload_n 0, 1, 0, 0), (.aload_n 0, 1, 0, 0), (.getfield 128, 3, 12, 43), (.iload_n 2, 1, 0, 0), (.invokevirtual 270, 3, 187, 3), (.istore_n 3, 1, 0, 0), (.aload_n 0, 1, 0, 0), (.getfield 155, 3, 12, 63), (.iconst 4, 1, 0, 0), (.iload_n 1, 1, 0, 0), (.imul, 1, 0, 0), (.iload_n 2, 1, 0, 0), (.iadd, 1, 0, 0), (.iload_n 3, 1, 0, 0), (.iastore, 1, 0, 0), (.aload_n 0, 1, 0, 0), (.getfield 152, 3, 12, 62), (.iconst 4, 1, 0, 0), (.iload_n 1, 1, 0, 0), (.imul, 1, 0, 0), (.iload_n 2, 1, 0, 0), (.iadd, 1, 0, 0), (.iload_n 3, 1, 0, 0), (.iconst (-1), 1, 0, 0), (.if_icmp .ne 7, 3, 5, 0), (.iconst (-1), 1, 0, 0), (.goto 12, 3, 6, 0)],
   [(.aload_n 0, 1, 0, 0), (.aload_n 0, 1, 0, 0), (.getfield 128, 3, 12, 43), (.invokevirtual 274, 3, 170, 2), (.l2i, 1, 0, 0), (.nop, 0, 6, 0)],
   [(.iastore, 1, 0, 0), (.iinc 2 1, 3, 0, 0), (.goto (-67), 3, 4, 0)],
   [(.iinc 1 1, 3, 0, 0), (.goto (-116), 3, 1, 0)],
   [(.iconst 1, 1, 0, 0), (.istore_n 1, 1, 0, 0), (.nop, 0, 9, 0)],
   [(.iload_n 1, 1, 0, 0), (.ifCond .eq 93, 3, 13, 0), (.iconst 0, 1, 0, 0), (.istore_n 1, 1, 0, 0), (.iconst 0, 1, 0, 0), (.istore_n 2, 1, 0, 0), (.nop, 0, 10, 0)],
   [(.iload_n 2, 1, 0, 0), (.iconst 4, 1, 0, 0), (.aload_n 0, 1, 0, 0), (.getfield 382, 3, 12, 65), (.imul, 1, 0, 0), (.if_icmp .ge 76, 3, 12, 0), (.aload_n 0, 1, 0, 0), (.getfield 152, 3, 12, 62), (.iload_n 2, 1, 0, 0), (.iaload, 1, 0, 0), (.iconst (-1), 1, 0, 0), (.if_icmp .eq 60, 3, 11, 0), (.aload_n 0, 1, 0, 0), (.getfield 149, 3, 12, 61), (.aload_n 0, 1, 0, 0), (.getfield 152, 3, 12, 62), (.iload_n 2, 1, 0, 0), (.iaload, 1, 0, 0), (.iaload, 1, 0, 0), (.aload_n 0, 1, 0, 0), (.getfield 155, 3, 12, 63), (.iload_n 2, 1, 0, 0), (.iaload, 1, 0, 0), (.iadd, 1, 0, 0), (.aload_n 0, 1, 0, 0), (.getfield 149, 3, 12, 61), (.iload_n 2, 1, 0, 0), (.iconst 4, 1, 0, 0), (.idiv, 1, 0, 0), (.iaload, 1, 0, 0), (.if_icmp .ge 31, 3, 11, 0), (.aload_n 0, 1, 0, 0), (.getfield 149, 3, 12, 61), (.iload_n 2, 1, 0, 0), (.iconst 4, 1, 0, 0), (.idiv, 1, 0, 0), (.aload_n 0, 1, 0, 0), (.getfield 149, 3, 12, 61), (.aload_n 0, 1, 0, 0), (.getfield 152, 3, 12, 62), (.iload_n 2, 1, 0, 0), (.iaload, 1, 0, 0), (.iaload, 1, 0, 0), (.aload_n 0, 1, 0, 0), (.getfield 155, 3, 12, 63), (.iload_n 2, 1, 0, 0), (.iaload, 1, 0, 0), (.iadd, 1, 0, 0), (.iastore, 1, 0, 0), (.iconst 1, 1, 0, 0), (.istore_n 1, 1, 0, 0), (.nop, 0, 11, 0)],
   [(.iinc 2 1, 3, 0, 0), (.goto (-80), 3, 10, 0)],
   [(.goto (-91), 3, 9, 0)],
   [(.return_, 1, 0, 0)]],
  [], (4, 2, 53, 12), [], ⟨"SlidingtrayModel", "reckons", "()V"⟩, prog_14_method_77_code, none, [])
abbrev jm231p : List Nat := [0, 11, 49, 51, 54, 108, 117, 124, 130, 132, 140, 217, 223, 226]
/-- SlidingtrayModel.farthest()I -/
def jm232 : jM := (
  [[(.iconst 0, 1, 0, 0), (.istore_n 1, 1, 0, 0), (.iconst 0, 1, 0, 0), (.istore_n 2, 1, 0, 0), (.nop, 0, 1, 0)],
   [(.iload_n 2, 1, 0, 0), (.aload_n 0, 1, 0, 0), (.getfield 382, 3, 12, 65), (.if_icmp .ge 41, 3, 4, 0), (.aload_n 0, 1, 0, 0), (.getfield 149, 3, 12, 61), (.iload_n 2, 1, 0, 0), (.iaload, 1, 0, 0), (.ldc 199, 2, 1000000000, 0), (.if_icmp .ge 22, 3, 2, 0), (.aload_n 0, 1, 0, 0), (.getfield 149, 3, 12, 61), (.iload_n 2, 1, 0, 0), (.iaload, 1, 0, 0), (.iload_n 1, 1, 0, 0), (.if_icmp .le 12, 3, 2, 0), (.aload_n 0, 1, 0, 0), (.getfield 149, 3, 12, 61), (.iload_n 2, 1, 0, 0), (.iaload, 1, 0, 0), (.goto 4, 3, 3, 0)],
   [(.iload_n 1, 1, 0, 0), (.nop, 0, 3, 0)],
   [(.istore_n 1, 1, 0, 0), (.iinc 2 1, 3, 0, 0), (.goto (-43), 3, 1, 0)],
   [(.iload_n 1, 1, 0, 0), (.ireturn, 1, 0, 0)]],
  [], (3, 0, 0, 12), [], ⟨"SlidingtrayModel", "farthest", "()I"⟩, prog_14_method_78_code, (some .int), [])
abbrev jm232p : List Nat := [0, 4, 42, 43, 50]
/-- SlidingtrayModel.countsWays()V -/
def jm233 : jM := (
  [[(.aload_n 0, 1, 0, 0), (.invokevirtual 385, 3, 232, 1), (.istore_n 1, 1, 0, 0), (.iconst 0, 1, 0, 0), (.istore_n 2, 1, 0, 0), (.nop, 0, 1, 0)],
   [(.iload_n 2, 1, 0, 0), (.iload_n 1, 1, 0, 0), (.if_icmp .gt 144, 3, 13, 0), (.iconst 0, 1, 0, 0), (.istore_n 3, 1, 0, 0), (.nop, 0, 2, 0)],
   [(.iload_n 3, 1, 0, 0), (.aload_n 0, 1, 0, 0), (.getfield 382, 3, 12, 65), (.if_icmp .ge 128, 3, 12, 0), (.aload_n 0, 1, 0, 0), (.getfield 149, 3, 12, 61), (.iload_n 3, 1, 0, 0), (.iaload, 1, 0, 0), (.iload_n 2, 1, 0, 0), (.if_icmp .eq 6, 3, 3, 0), (.goto 109, 3, 11, 0)],
   [(.iload_n 2, 1, 0, 0), (.ifCond .ne 7, 3, 4, 0), (.iconst 1, 1, 0, 0), (.goto 4, 3, 5, 0)],
   [(.iconst 0, 1, 0, 0), (.nop, 0, 5, 0)],
   [(.istore 4, 2, 0, 0), (.iconst 0, 1, 0, 0), (.istore 5, 2, 0, 0), (.nop, 0, 6, 0)],
   [(.iload 5, 2, 0, 0), (.iconst 4, 1, 0, 0), (.if_icmp .ge 67, 3, 8, 0), (.aload_n 0, 1, 0, 0), (.getfield 152, 3, 12, 62), (.iconst 4, 1, 0, 0), (.iload_n 3, 1, 0, 0), (.imul, 1, 0, 0), (.iload 5, 2, 0, 0), (.iadd, 1, 0, 0), (.iaload, 1, 0, 0), (.istore 6, 2, 0, 0), (.iload 6, 2, 0, 0), (.iconst (-1), 1, 0, 0), (.if_icmp .eq 42, 3, 7, 0), (.iload_n 2, 1, 0, 0), (.ifCond .le 38, 3, 7, 0), (.aload_n 0, 1, 0, 0), (.getfield 149, 3, 12, 61), (.iload 6, 2, 0, 0), (.iaload, 1, 0, 0), (.aload_n 0, 1, 0, 0), (.getfield 155, 3, 12, 63), (.iconst 4, 1, 0, 0), (.iload_n 3, 1, 0, 0), (.imul, 1, 0, 0), (.iload 5, 2, 0, 0), (.iadd, 1, 0, 0), (.iaload, 1, 0, 0), (.iadd, 1, 0, 0), (.iload_n 2, 1, 0, 0), (.if_icmp .ne 15, 3, 7, 0), (.iload 4, 2, 0, 0), (.aload_n 0, 1, 0, 0), (.getfield 158, 3, 12, 64), (.iload 6, 2, 0, 0), (.iaload, 1, 0, 0), (.iadd, 1, 0, 0), (.istore 4, 2, 0, 0), (.nop, 0, 7, 0)],
   [(.iinc 5 1, 3, 0, 0), (.goto (-67), 3, 6, 0)],
   [(.aload_n 0, 1, 0, 0), (.getfield 158, 3, 12, 64), (.iload_n 3, 1, 0, 0), (.iload 4, 2, 0, 0), (.ldc_w 388, 3, 1000000, 0), (.if_icmp .ge 8, 3, 9, 0), (.iload 4, 2, 0, 0), (.goto 6, 3, 10, 0)],
   [(.ldc_w 388, 3, 1000000, 0), (.nop, 0, 10, 0)],
   [(.iastore, 1, 0, 0), (.nop, 0, 11, 0)],
   [(.iinc 3 1, 3, 0, 0), (.goto (-130), 3, 2, 0)],
   [(.iinc 2 1, 3, 0, 0), (.goto (-143), 3, 1, 0)],
   [(.return_, 1, 0, 0)]],
  [], (7, 1, 22, 12), [], ⟨"SlidingtrayModel", "countsWays", "()V"⟩, prog_14_method_79_code, none, [])
abbrev jm233p : List Nat := [0, 7, 14, 35, 43, 44, 49, 113, 119, 137, 140, 141, 147, 153]
/-- SlidingtrayModel.far(I)I -/
def jm234 : jM := (
  [[(.iload_n 1, 1, 0, 0), (.iconst 0, 1, 0, 0), (.iconst 5, 1, 0, 0), (.invokestatic 200, 3, 157, 3), (.ifCond .ne 9, 3, 1, 0), (.aload_n 0, 1, 0, 0), (.iconst 1, 1, 0, 0), (.invokevirtual 204, 3, 158, 2), (.ireturn, 1, 0, 0)],
   [(.aload_n 0, 1, 0, 0), (.getfield 170, 3, 12, 7), (.bipush 6, 2, 0, 0), (.if_icmp .le 9, 3, 2, 0), (.aload_n 0, 1, 0, 0), (.iconst 2, 1, 0, 0), (.invokevirtual 204, 3, 158, 2), (.ireturn, 1, 0, 0)],
   [(.aload_n 0, 1, 0, 0), (.invokevirtual 389, 3, 231, 1), (.aload_n 0, 1, 0, 0), (.aload_n 0, 1, 0, 0), (.getfield 33, 3, 12, 9), (.invokevirtual 274, 3, 170, 2), (.l2i, 1, 0, 0), (.istore_n 2, 1, 0, 0), (.iload_n 1, 1, 0, 0), (.iconst 4, 1, 0, 0), (.if_icmp .ne 29, 3, 5, 0), (.aload_n 0, 1, 0, 0), (.aload_n 0, 1, 0, 0), (.getfield 149, 3, 12, 61), (.iload_n 2, 1, 0, 0), (.iaload, 1, 0, 0), (.ldc 199, 2, 1000000000, 0), (.if_icmp .ne 7, 3, 3, 0), (.iconst (-1), 1, 0, 0), (.goto 9, 3, 4, 0)],
   [(.aload_n 0, 1, 0, 0), (.getfield 149, 3, 12, 61), (.iload_n 2, 1, 0, 0), (.iaload, 1, 0, 0), (.nop, 0, 4, 0)],
   [(.invokevirtual 215, 3, 159, 2), (.ireturn, 1, 0, 0)],
   [(.iload_n 1, 1, 0, 0), (.iconst 5, 1, 0, 0), (.if_icmp .ne 33, 3, 8, 0), (.aload_n 0, 1, 0, 0), (.invokevirtual 392, 3, 233, 1), (.aload_n 0, 1, 0, 0), (.aload_n 0, 1, 0, 0), (.getfield 149, 3, 12, 61), (.iload_n 2, 1, 0, 0), (.iaload, 1, 0, 0), (.ldc 199, 2, 1000000000, 0), (.if_icmp .ne 7, 3, 6, 0), (.iconst 0, 1, 0, 0), (.goto 9, 3, 7, 0)],
   [(.aload_n 0, 1, 0, 0), (.getfield 158, 3, 12, 64), (.iload_n 2, 1, 0, 0), (.iaload, 1, 0, 0), (.nop, 0, 7, 0)],
   [(.invokevirtual 215, 3, 159, 2), (.ireturn, 1, 0, 0)],
   [(.aload_n 0, 1, 0, 0), (.invokevirtual 385, 3, 232, 1), (.istore_n 3, 1, 0, 0), (.iconst 0, 1, 0, 0), (.istore 4, 2, 0, 0), (.iconst 0, 1, 0, 0), (.istore 5, 2, 0, 0), (.iconst (-1), 1, 0, 0), (.istore 6, 2, 0, 0), (.iconst 0, 1, 0, 0), (.istore 7, 2, 0, 0), (.nop, 0, 9, 0)],
   [(.iload 7, 2, 0, 0), (.aload_n 0, 1, 0, 0), (.getfield 382, 3, 12, 65), (.if_icmp .ge 60, 3, 15, 0), (.iload 4, 2, 0, 0), (.aload_n 0, 1, 0, 0), (.getfield 149, 3, 12, 61), (.iload 7, 2, 0, 0), (.iaload, 1, 0, 0), (.ldc 199, 2, 1000000000, 0), (.if_icmp .ge 7, 3, 10, 0), (.iconst 1, 1, 0, 0), (.goto 4, 3, 11, 0)],
   [(.iconst 0, 1, 0, 0), (.nop, 0, 11, 0)],
   [(.iadd, 1, 0, 0), (.istore 4, 2, 0, 0), (.aload_n 0, 1, 0, 0), (.getfield 149, 3, 12, 61), (.iload 7, 2, 0, 0), (.iaload, 1, 0, 0), (.iload_n 3, 1, 0, 0), (.if_icmp .ne 21, 3, 14, 0), (.iinc 5 1, 3, 0, 0), (.iload 6, 2, 0, 0), (.iconst (-1), 1, 0, 0), (.if_icmp .ne 8, 3, 12, 0), (.iload 7, 2, 0, 0), (.goto 5, 3, 13, 0)],
   [(.iload 6, 2, 0, 0), (.nop, 0, 13, 0)],
   [(.istore 6, 2, 0, 0), (.nop, 0, 14, 0)],
   [(.iinc 7 1, 3, 0, 0), (.goto (-63), 3, 9, 0)],
   [(.aload_n 0, 1, 0, 0), (.iload_n 1, 1, 0, 0), (.ifCond .ne 8, 3, 16, 0), (.iload 4, 2, 0, 0), (.goto 24, 3, 19, 0)],
   [(.iload_n 1, 1, 0, 0), (.iconst 1, 1, 0, 0), (.if_icmp .ne 7, 3, 17, 0), (.iload_n 3, 1, 0, 0), (.goto 15, 3, 19, 0)],
   [(.iload_n 1, 1, 0, 0), (.iconst 2, 1, 0, 0), (.if_icmp .ne 8, 3, 18, 0), (.iload 5, 2, 0, 0), (.goto 5, 3, 19, 0)],
   [(.iload 6, 2, 0, 0), (.nop, 0, 19, 0)],
   [(.invokevirtual 215, 3, 159, 2), (.ireturn, 1, 0, 0)]],
  [], (8, 3, 76, 12), [], ⟨"SlidingtrayModel", "far", "(I)I"⟩, prog_14_method_80_code, (some .int), [])
abbrev jm234p : List Nat := [0, 15, 30, 65, 71, 75, 100, 106, 110, 127, 154, 155, 183, 185, 187, 193, 203, 212, 222, 224]
