/-- Slidingtray.errors()I -/
def jm138 : jM := (
  [[(.iconst 0, 1, 0, 0), (.istore_n 1, 1, 0, 0), (.aload_n 0, 1, 0, 0), (.getfield 23, 3, 11, 2), (.aload_n 0, 1, 0, 0), (.getfield 19, 3, 11, 1), (.invokevirtual 164, 3, 77, 1), (.aload_n 0, 1, 0, 0), (.getfield 19, 3, 11, 1), (.getfield 388, 3, 7, 2), (.invokevirtual 125, 3, 78, 3), (.aload_n 0, 1, 0, 0), (.getfield 23, 3, 11, 2), (.aload_n 0, 1, 0, 0), (.getfield 19, 3, 11, 1), (.invokevirtual 389, 3, 75, 2), (.ifCond .ne 6, 3, 1, 0), (.iinc 1 1, 3, 0, 0), (.nop, 0, 1, 0)],
   [(.iconst 0, 1, 0, 0), (.istore_n 2, 1, 0, 0), (.nop, 0, 2, 0)],
   [(.iload_n 2, 1, 0, 0), (.iconst 3, 1, 0, 0), (.if_icmp .gt 17, 3, 3, 0), (.iload_n 1, 1, 0, 0), (.aload_n 0, 1, 0, 0), (.iload_n 2, 1, 0, 0), (.invokevirtual 393, 3, 154, 2), (.iadd, 1, 0, 0), (.istore_n 1, 1, 0, 0), (.iinc 2 1, 3, 0, 0), (.goto (-16), 3, 2, 0)],
   [(.aload_n 0, 1, 0, 0), (.getfield 19, 3, 11, 1), (.getfield 388, 3, 7, 2), (.bipush 6, 2, 0, 0), (.if_icmp .le 5, 3, 4, 0), (.iload_n 1, 1, 0, 0), (.ireturn, 1, 0, 0)],
   [(.aload_n 0, 1, 0, 0), (.getfield 76, 3, 11, 14), (.aload_n 0, 1, 0, 0), (.getfield 12, 3, 11, 0), (.invokevirtual 336, 3, 22, 2), (.aload_n 0, 1, 0, 0), (.getfield 76, 3, 11, 14), (.aload_n 0, 1, 0, 0), (.getfield 19, 3, 11, 1), (.invokevirtual 164, 3, 77, 1), (.invokevirtual 353, 3, 27, 2), (.istore_n 2, 1, 0, 0), (.aload_n 0, 1, 0, 0), (.getfield 55, 3, 11, 11), (.aload_n 0, 1, 0, 0), (.getfield 12, 3, 11, 0), (.aload_n 0, 1, 0, 0), (.getfield 19, 3, 11, 1), (.iconst 3, 1, 0, 0), (.aload_n 0, 1, 0, 0), (.getfield 86, 3, 11, 18), (.invokevirtual 291, 3, 33, 5), (.istore_n 3, 1, 0, 0), (.aload_n 0, 1, 0, 0), (.getfield 62, 3, 11, 12), (.aload_n 0, 1, 0, 0), (.getfield 12, 3, 11, 0), (.aload_n 0, 1, 0, 0), (.getfield 19, 3, 11, 1), (.iconst 3, 1, 0, 0), (.aload_n 0, 1, 0, 0), (.getfield 86, 3, 11, 18), (.invokevirtual 310, 3, 55, 5), (.istore 4, 2, 0, 0), (.iload_n 3, 1, 0, 0), (.bipush (-2), 2, 0, 0), (.if_icmp .eq 11, 3, 5, 0), (.iload_n 3, 1, 0, 0), (.iload_n 2, 1, 0, 0), (.if_icmp .eq 6, 3, 5, 0), (.iinc 1 1, 3, 0, 0), (.nop, 0, 5, 0)],
   [(.iload 4, 2, 0, 0), (.bipush (-2), 2, 0, 0), (.if_icmp .eq 12, 3, 6, 0), (.iload 4, 2, 0, 0), (.iload_n 2, 1, 0, 0), (.if_icmp .eq 6, 3, 6, 0), (.iinc 1 1, 3, 0, 0), (.nop, 0, 6, 0)],
   [(.iload_n 1, 1, 0, 0), (.ireturn, 1, 0, 0)]],
  [], (5, 7, 180, 11), [], ⟨"Slidingtray", "errors", "()I"⟩, prog_1_method_32_code, (some .int), [])
abbrev jm138p : List Nat := [0, 40, 42, 61, 75, 158, 174]
/-- Slidingtray.begin(III)V -/
def jm139 : jM := (
  [[(.aload_n 0, 1, 0, 0), (.getfield 12, 3, 11, 0), (.getfield 112, 3, 9, 0), (.iload_n 1, 1, 0, 0), (.iload_n 2, 1, 0, 0), (.iload_n 3, 1, 0, 0), (.invokevirtual 396, 3, 40, 4), (.aload_n 0, 1, 0, 0), (.getfield 19, 3, 11, 1), (.aload_n 0, 1, 0, 0), (.getfield 12, 3, 11, 0), (.getfield 112, 3, 9, 0), (.getfield 116, 3, 4, 3), (.invokevirtual 399, 3, 70, 2), (.aload_n 0, 1, 0, 0), (.getfield 12, 3, 11, 0), (.getfield 153, 3, 9, 1), (.aload_n 0, 1, 0, 0), (.getfield 19, 3, 11, 1), (.invokevirtual 403, 3, 10, 2), (.iconst 0, 1, 0, 0), (.istore 4, 2, 0, 0), (.nop, 0, 1, 0)],
   [(.iload 4, 2, 0, 0), (.iconst 2, 1, 0, 0), (.if_icmp .ge 17, 3, 2, 0), (.aload_n 0, 1, 0, 0), (.getfield 36, 3, 11, 5), (.iload 4, 2, 0, 0), (.iconst 0, 1, 0, 0), (.bastore, 1, 0, 0), (.iinc 4 1, 3, 0, 0), (.goto (-17), 3, 1, 0)],
   [(.aload_n 0, 1, 0, 0), (.getfield 45, 3, 11, 7), (.iconst 0, 1, 0, 0), (.invokestatic 405, 3, 1, 2), (.aload_n 0, 1, 0, 0), (.getfield 76, 3, 11, 14), (.invokevirtual 411, 3, 20, 1), (.aload_n 0, 1, 0, 0), (.invokevirtual 161, 3, 140, 1), (.aload_n 0, 1, 0, 0), (.invokevirtual 129, 3, 141, 1), (.aload_n 0, 1, 0, 0), (.iconst 0, 1, 0, 0), (.putfield 301, 3, 44, 16), (.aload_n 0, 1, 0, 0), (.iconst 0, 1, 0, 0), (.iconst 0, 1, 0, 0), (.iconst 0, 1, 0, 0), (.invokevirtual 307, 3, 142, 4), (.return_, 1, 0, 0)]],
  [], (5, 4, 95, 11), [], ⟨"Slidingtray", "begin", "(III)V"⟩, prog_1_method_33_code, none, [])
abbrev jm139p : List Nat := [0, 47, 67]
/-- Slidingtray.forgetAim()V -/
def jm140 : jM := (
  [[(.aload_n 0, 1, 0, 0), (.getfield 12, 3, 11, 0), (.invokevirtual 414, 3, 92, 1), (.aload_n 0, 1, 0, 0), (.getfield 76, 3, 11, 14), (.invokevirtual 417, 3, 21, 1), (.return_, 1, 0, 0)]],
  [], (1, 1, 20, 11), [], ⟨"Slidingtray", "forgetAim", "()V"⟩, prog_1_method_34_code, none, [])
abbrev jm140p : List Nat := [0]
/-- Slidingtray.forgetMoves()V -/
def jm141 : jM := (
  [[(.aload_n 0, 1, 0, 0), (.iconst 0, 1, 0, 0), (.putfield 205, 3, 44, 10), (.aload_n 0, 1, 0, 0), (.iconst 0, 1, 0, 0), (.putfield 213, 3, 44, 9), (.return_, 1, 0, 0)]],
  [], (1, 0, 0, 11), [], ⟨"Slidingtray", "forgetMoves", "()V"⟩, prog_1_method_35_code, none, [])
abbrev jm141p : List Nat := [0]
/-- Slidingtray.tell(III)V -/
def jm142 : jM := (
  [[(.aload_n 0, 1, 0, 0), (.getfield 83, 3, 11, 17), (.iconst 0, 1, 0, 0), (.iload_n 1, 1, 0, 0), (.iastore, 1, 0, 0), (.aload_n 0, 1, 0, 0), (.getfield 83, 3, 11, 17), (.iconst 1, 1, 0, 0), (.iload_n 2, 1, 0, 0), (.iastore, 1, 0, 0), (.aload_n 0, 1, 0, 0), (.getfield 83, 3, 11, 17), (.iconst 2, 1, 0, 0), (.iload_n 3, 1, 0, 0), (.iastore, 1, 0, 0), (.return_, 1, 0, 0)]],
  [], (4, 0, 0, 11), [], ⟨"Slidingtray", "tell", "(III)V"⟩, prog_1_method_36_code, none, [])
abbrev jm142p : List Nat := [0]
/-- Slidingtray.tiles()I -/
def jm143 : jM := (
  [[(.aload_n 0, 1, 0, 0), (.getfield 12, 3, 11, 0), (.getfield 112, 3, 9, 0), (.getfield 116, 3, 4, 3), (.iconst 1, 1, 0, 0), (.isub, 1, 0, 0), (.ireturn, 1, 0, 0)]],
  [], (1, 0, 0, 11), [], ⟨"Slidingtray", "tiles", "()I"⟩, prog_1_method_37_code, (some .int), [])
abbrev jm143p : List Nat := [0]
/-- Slidingtray.gapCell()I -/
def jm144 : jM := (
  [[(.aload_n 0, 1, 0, 0), (.getfield 12, 3, 11, 0), (.getfield 112, 3, 9, 0), (.getfield 420, 3, 4, 5), (.aload_n 0, 1, 0, 0), (.getfield 19, 3, 11, 1), (.getfield 137, 3, 7, 1), (.iconst 0, 1, 0, 0), (.iaload, 1, 0, 0), (.iaload, 1, 0, 0), (.ireturn, 1, 0, 0)]],
  [], (1, 0, 0, 11), [], ⟨"Slidingtray", "gapCell", "()I"⟩, prog_1_method_38_code, (some .int), [])
abbrev jm144p : List Nat := [0]
/-- Slidingtray.isDirection(I)Z -/
def jm145 : jM := (
  [[(.iload_n 0, 1, 0, 0), (.ifCond .lt 12, 3, 1, 0), (.iload_n 0, 1, 0, 0), (.iconst 3, 1, 0, 0), (.if_icmp .gt 7, 3, 1, 0), (.iconst 1, 1, 0, 0), (.goto 4, 3, 2, 0)],
   [(.iconst 0, 1, 0, 0), (.nop, 0, 2, 0)],
   [(.ireturn, 1, 0, 0)]],
  [], (1, 0, 0, 11), [], ⟨"Slidingtray", "isDirection", "(I)Z"⟩, prog_1_method_39_code, (some .boolean), [])
abbrev jm145p : List Nat := [0, 13, 14]
/-- Slidingtray.opposite(I)I -/
def jm146 : jM := (
  [[(.iconst 3, 1, 0, 0), (.iload_n 0, 1, 0, 0), (.isub, 1, 0, 0), (.ireturn, 1, 0, 0)]],
  [], (1, 0, 0, 11), [], ⟨"Slidingtray", "opposite", "(I)I"⟩, prog_1_method_40_code, (some .int), [])
abbrev jm146p : List Nat := [0]
/-- Slidingtray.isMacro(I)Z -/
def jm147 : jM := (
  [[(.iload_n 0, 1, 0, 0), (.ifCond .lt 12, 3, 1, 0), (.iload_n 0, 1, 0, 0), (.iconst 4, 1, 0, 0), (.if_icmp .ge 7, 3, 1, 0), (.iconst 1, 1, 0, 0), (.goto 4, 3, 2, 0)],
   [(.iconst 0, 1, 0, 0), (.nop, 0, 2, 0)],
   [(.ireturn, 1, 0, 0)]],
  [], (1, 0, 0, 11), [], ⟨"Slidingtray", "isMacro", "(I)Z"⟩, prog_1_method_41_code, (some .boolean), [])
abbrev jm147p : List Nat := [0, 13, 14]
/-- Slidingtray.isImage(I)Z -/
def jm148 : jM := (
  [[(.iload_n 0, 1, 0, 0), (.ifCond .lt 12, 3, 1, 0), (.iload_n 0, 1, 0, 0), (.iconst 2, 1, 0, 0), (.if_icmp .ge 7, 3, 1, 0), (.iconst 1, 1, 0, 0), (.goto 4, 3, 2, 0)],
   [(.iconst 0, 1, 0, 0), (.nop, 0, 2, 0)],
   [(.ireturn, 1, 0, 0)]],
  [], (1, 0, 0, 11), [], ⟨"Slidingtray", "isImage", "(I)Z"⟩, prog_1_method_42_code, (some .boolean), [])
abbrev jm148p : List Nat := [0, 13, 14]
/-- Slidingtray.isEstimate(I)Z -/
def jm149 : jM := (
  [[(.iload_n 0, 1, 0, 0), (.ifCond .lt 12, 3, 1, 0), (.iload_n 0, 1, 0, 0), (.iconst 4, 1, 0, 0), (.if_icmp .gt 7, 3, 1, 0), (.iconst 1, 1, 0, 0), (.goto 4, 3, 2, 0)],
   [(.iconst 0, 1, 0, 0), (.nop, 0, 2, 0)],
   [(.ireturn, 1, 0, 0)]],
  [], (1, 0, 0, 11), [], ⟨"Slidingtray", "isEstimate", "(I)Z"⟩, prog_1_method_43_code, (some .boolean), [])
abbrev jm149p : List Nat := [0, 13, 14]
/-- Slidingtray.canStride(II)Z -/
def jm150 : jM := (
  [[(.aload_n 0, 1, 0, 0), (.getfield 19, 3, 11, 1), (.getfield 137, 3, 7, 1), (.iconst 0, 1, 0, 0), (.iaload, 1, 0, 0), (.istore_n 3, 1, 0, 0), (.iconst 0, 1, 0, 0), (.istore 4, 2, 0, 0), (.nop, 0, 1, 0)],
   [(.iload 4, 2, 0, 0), (.iload_n 2, 1, 0, 0), (.if_icmp .ge 27, 3, 2, 0), (.iload_n 3, 1, 0, 0), (.iconst (-1), 1, 0, 0), (.if_icmp .eq 22, 3, 2, 0), (.aload_n 0, 1, 0, 0), (.getfield 12, 3, 11, 0), (.getfield 112, 3, 9, 0), (.iload_n 3, 1, 0, 0), (.iload_n 1, 1, 0, 0), (.invokevirtual 423, 3, 48, 3), (.istore_n 3, 1, 0, 0), (.iinc 4 1, 3, 0, 0), (.goto (-27), 3, 1, 0)],
   [(.iload_n 3, 1, 0, 0), (.iconst (-1), 1, 0, 0), (.if_icmp .eq 7, 3, 3, 0), (.iconst 1, 1, 0, 0), (.goto 4, 3, 4, 0)],
   [(.iconst 0, 1, 0, 0), (.nop, 0, 4, 0)],
   [(.ireturn, 1, 0, 0)]],
  [], (5, 1, 22, 11), [], ⟨"Slidingtray", "canStride", "(II)Z"⟩, prog_1_method_44_code, (some .boolean), [])
abbrev jm150p : List Nat := [0, 13, 43, 52, 53]
/-- Slidingtray.shiftGap(I)I -/
def jm151 : jM := (
  [[(.aload_n 0, 1, 0, 0), (.getfield 19, 3, 11, 1), (.aload_n 0, 1, 0, 0), (.getfield 12, 3, 11, 0), (.getfield 112, 3, 9, 0), (.iload_n 1, 1, 0, 0), (.invokevirtual 149, 3, 76, 3), (.istore_n 2, 1, 0, 0), (.iload_n 2, 1, 0, 0), (.ifCond .ne 5, 3, 1, 0), (.iconst 0, 1, 0, 0), (.ireturn, 1, 0, 0)],
   [(.aload_n 0, 1, 0, 0), (.getfield 49, 3, 11, 8), (.aload_n 0, 1, 0, 0), (.getfield 213, 3, 11, 9), (.iload_n 1, 1, 0, 0), (.iastore, 1, 0, 0), (.aload_n 0, 1, 0, 0), (.aload_n 0, 1, 0, 0), (.getfield 213, 3, 11, 9), (.iconst 1, 1, 0, 0), (.iadd, 1, 0, 0), (.sipush 200, 3, 0, 0), (.irem, 1, 0, 0), (.putfield 213, 3, 44, 9), (.aload_n 0, 1, 0, 0), (.getfield 205, 3, 11, 10), (.sipush 200, 3, 0, 0), (.if_icmp .ge 13, 3, 2, 0), (.aload_n 0, 1, 0, 0), (.dup, 1, 0, 0), (.getfield 205, 3, 11, 10), (.iconst 1, 1, 0, 0), (.iadd, 1, 0, 0), (.putfield 205, 3, 44, 10), (.nop, 0, 2, 0)],
   [(.iload_n 2, 1, 0, 0), (.ireturn, 1, 0, 0)]],
  [], (3, 2, 49, 11), [], ⟨"Slidingtray", "shiftGap", "(I)I"⟩, prog_1_method_45_code, (some .int), [])
abbrev jm151p : List Nat := [0, 22, 66]
/-- Slidingtray.letterAt(JI)I -/
def jm152 : jM := (
  [[(.lload_n 0, 1, 0, 0), (.bipush 8, 2, 0, 0), (.bipush 7, 2, 0, 0), (.iload_n 2, 1, 0, 0), (.isub, 1, 0, 0), (.imul, 1, 0, 0), (.lushr, 1, 0, 0), (.l2i, 1, 0, 0), (.sipush 255, 3, 0, 0), (.iand, 1, 0, 0), (.ireturn, 1, 0, 0)]],
  [], (3, 0, 0, 11), [], ⟨"Slidingtray", "letterAt", "(JI)I"⟩, prog_1_method_46_code, (some .int), [])
abbrev jm152p : List Nat := [0]
/-- Slidingtray.directionOf(I)I -/
def jm153 : jM := (
  [[(.iload_n 0, 1, 0, 0), (.lookupswitch 51 #[(100, 49), (108, 45), (114, 47), (117, 43)], 43, 0, 0)],
   [(.iconst 0, 1, 0, 0), (.ireturn, 1, 0, 0)],
   [(.iconst 1, 1, 0, 0), (.ireturn, 1, 0, 0)],
   [(.iconst 2, 1, 0, 0), (.ireturn, 1, 0, 0)],
   [(.iconst 3, 1, 0, 0), (.ireturn, 1, 0, 0)],
   [(.iconst (-1), 1, 0, 0), (.ireturn, 1, 0, 0)]],
  [[5, 4, 2, 3, 1]], (1, 0, 0, 11), [], ⟨"Slidingtray", "directionOf", "(I)I"⟩, prog_1_method_47_code, (some .int), [])
abbrev jm153p : List Nat := [0, 44, 46, 48, 50, 52]
/-- Slidingtray.moveErrors(I)I -/
def jm154 : jM := (
  [[(.aload_n 0, 1, 0, 0), (.getfield 23, 3, 11, 2), (.aload_n 0, 1, 0, 0), (.getfield 19, 3, 11, 1), (.invokevirtual 245, 3, 74, 2), (.aload_n 0, 1, 0, 0), (.getfield 23, 3, 11, 2), (.aload_n 0, 1, 0, 0), (.getfield 12, 3, 11, 0), (.getfield 112, 3, 9, 0), (.iload_n 1, 1, 0, 0), (.invokevirtual 149, 3, 76, 3), (.istore_n 2, 1, 0, 0), (.iload_n 2, 1, 0, 0), (.ifCond .ne 5, 3, 1, 0), (.iconst 0, 1, 0, 0), (.ireturn, 1, 0, 0)],
   [(.iconst 0, 1, 0, 0), (.istore_n 3, 1, 0, 0), (.iconst 0, 1, 0, 0), (.istore 4, 2, 0, 0), (.nop, 0, 2, 0)],
   [(.iload 4, 2, 0, 0), (.iconst 4, 1, 0, 0), (.if_icmp .gt 54, 3, 4, 0), (.aload_n 0, 1, 0, 0), (.getfield 12, 3, 11, 0), (.aload_n 0, 1, 0, 0), (.getfield 19, 3, 11, 1), (.iload 4, 2, 0, 0), (.invokevirtual 287, 3, 96, 3), (.aload_n 0, 1, 0, 0), (.getfield 12, 3, 11, 0), (.aload_n 0, 1, 0, 0), (.getfield 23, 3, 11, 2), (.iload 4, 2, 0, 0), (.invokevirtual 287, 3, 96, 3), (.isub, 1, 0, 0), (.aload_n 0, 1, 0, 0), (.getfield 12, 3, 11, 0), (.getfield 153, 3, 9, 1), (.getfield 183, 3, 1, 1), (.iload_n 2, 1, 0, 0), (.iaload, 1, 0, 0), (.if_icmp .le 6, 3, 3, 0), (.iinc 3 1, 3, 0, 0), (.nop, 0, 3, 0)],
   [(.iinc 4 1, 3, 0, 0), (.goto (-54), 3, 2, 0)],
   [(.aload_n 0, 1, 0, 0), (.getfield 23, 3, 11, 2), (.aload_n 0, 1, 0, 0), (.getfield 12, 3, 11, 0), (.getfield 112, 3, 9, 0), (.iload_n 1, 1, 0, 0), (.invokestatic 216, 3, 146, 1), (.invokevirtual 149, 3, 76, 3), (.pop, 1, 0, 0), (.aload_n 0, 1, 0, 0), (.getfield 23, 3, 11, 2), (.aload_n 0, 1, 0, 0), (.getfield 19, 3, 11, 1), (.invokevirtual 389, 3, 75, 2), (.ifCond .ne 6, 3, 5, 0), (.iinc 3 1, 3, 0, 0), (.nop, 0, 5, 0)],
   [(.iload_n 3, 1, 0, 0), (.ireturn, 1, 0, 0)]],
  [], (5, 4, 99, 11), [], ⟨"Slidingtray", "moveErrors", "(I)I"⟩, prog_1_method_48_code, (some .int), [])
abbrev jm154p : List Nat := [0, 33, 38, 89, 95, 131]
/-- SlidingtrayModel.<init>()V -/
def jm155 : jM := (
  [[(.aload_n 0, 1, 0, 0), (.invokespecial 1, 3, 0, 778), (.aload_n 0, 1, 0, 0), (.bipush 16, 2, 0, 0), (.newarray .int, 2, 0, 0), (.putfield 7, 3, 51, 0), (.aload_n 0, 1, 0, 0), (.bipush 16, 2, 0, 0), (.newarray .int, 2, 0, 0), (.putfield 13, 3, 51, 1), (.aload_n 0, 1, 0, 0), (.bipush 64, 2, 0, 0), (.newarray .int, 2, 0, 0), (.putfield 16, 3, 51, 2), (.aload_n 0, 1, 0, 0), (.sipush 256, 3, 0, 0), (.newarray .int, 2, 0, 0), (.putfield 19, 3, 51, 3), (.aload_n 0, 1, 0, 0), (.bipush 16, 2, 0, 0), (.newarray .boolean, 2, 0, 0), (.putfield 22, 3, 51, 4), (.aload_n 0, 1, 0, 0), (.iconst 3, 1, 0, 0), (.putfield 26, 3, 48, 5), (.aload_n 0, 1, 0, 0), (.iconst 3, 1, 0, 0), (.putfield 30, 3, 48, 6), (.aload_n 0, 1, 0, 0), (.bipush 16, 2, 0, 0), (.newarray .int, 2, 0, 0), (.putfield 33, 3, 51, 9), (.aload_n 0, 1, 0, 0), (.bipush 16, 2, 0, 0), (.newarray .int, 2, 0, 0), (.putfield 36, 3, 51, 10), (.aload_n 0, 1, 0, 0), (.bipush 16, 2, 0, 0), (.newarray .int, 2, 0, 0), (.putfield 39, 3, 51, 11), (.aload_n 0, 1, 0, 0), (.bipush 16, 2, 0, 0), (.newarray .boolean, 2, 0, 0), (.putfield 42, 3, 51, 12), (.aload_n 0, 1, 0, 0), (.sipush 500, 3, 0, 0), (.putfield 45, 3, 48, 13), (.aload_n 0, 1, 0, 0), (.sipush 200, 3, 0, 0), (.newarray .int, 2, 0, 0), (.putfield 48, 3, 51, 14), (.aload_n 0, 1, 0, 0), (.iconst 4, 1, 0, 0), (.newarray .int, 2, 0, 0), (.putfield 51, 3, 51, 15), (.aload_n 0, 1, 0, 0), (.bipush 32, 2, 0, 0), (.newarray .int, 2, 0, 0), (.putfield 54, 3, 51, 16), (.aload_n 0, 1, 0, 0), (.bipush 32, 2, 0, 0), (.newarray .int, 2, 0, 0), (.putfield 57, 3, 51, 18), (.aload_n 0, 1, 0, 0), (.bipush 32, 2, 0, 0), (.newarray .int, 2, 0, 0), (.putfield 60, 3, 51, 19), (.aload_n 0, 1, 0, 0), (.bipush 32, 2, 0, 0), (.newarray .int, 2, 0, 0), (.putfield 63, 3, 51, 20), (.aload_n 0, 1, 0, 0), (.bipush 32, 2, 0, 0), (.newarray .boolean, 2, 0, 0), (.putfield 66, 3, 51, 21), (.aload_n 0, 1, 0, 0), (.iconst 2, 1, 0, 0), (.newarray .boolean, 2, 0, 0), (.putfield 69, 3, 51, 22), (.aload_n 0, 1, 0, 0), (.bipush 16, 2, 0, 0), (.newarray .boolean, 2, 0, 0), (.putfield 72, 3, 51, 23), (.aload_n 0, 1, 0, 0), (.bipush 16, 2, 0, 0), (.newarray .boolean, 2, 0, 0), (.putfield 75, 3, 51, 24), (.aload_n 0, 1, 0, 0), (.bipush 16, 2, 0, 0), (.newarray .boolean, 2, 0, 0), (.putfield 78, 3, 51, 25), (.aload_n 0, 1, 0, 0), (.iconst 4, 1, 0, 0), (.newarray .int, 2, 0, 0), (.putfield 81, 3, 51, 26), (.aload_n 0, 1, 0, 0), (.iconst 4, 1, 0, 0), (.newarray .int, 2, 0, 0), (.putfield 84, 3, 51, 27), (.aload_n 0, 1, 0, 0), (.bipush 6, 2, 0, 0), (.newarray .int, 2, 0, 0), (.putfield 87, 3, 51, 28), (.aload_n 0, 1, 0, 0), (.iconst 2, 1, 0, 0), (.newarray .int, 2, 0, 0), (.putfield 90, 3, 51, 29), (.aload_n 0, 1, 0, 0), (.sipush 13122, 3, 0, 0), (.newarray .int, 2, 0, 0), (.putfield 93, 3, 51, 30), (.aload_n 0, 1, 0, 0), (.iconst 4, 1, 0, 0), (.newarray .int, 2, 0, 0), (.putfield 96, 3, 51, 31), (.aload_n 0, 1, 0, 0), (.bipush 16, 2, 0, 0), (.newarray .int, 2, 0, 0), (.putfield 99, 3, 51, 33), (.aload_n 0, 1, 0, 0), (.ldc 102, 2, 65616, 0), (.newarray .int, 2, 0, 0), (.putfield 103, 3, 51, 34), (.aload_n 0, 1, 0, 0), (.sipush 4101, 3, 0, 0), (.newarray .int, 2, 0, 0), (.putfield 106, 3, 51, 35), (.aload_n 0, 1, 0, 0), (.sipush 4101, 3, 0, 0), (.newarray .int, 2, 0, 0), (.putfield 109, 3, 51, 36), (.aload_n 0, 1, 0, 0), (.sipush 4101, 3, 0, 0), (.newarray .int, 2, 0, 0), (.putfield 112, 3, 51, 37), (.aload_n 0, 1, 0, 0), (.sipush 4101, 3, 0, 0), (.newarray .int, 2, 0, 0), (.putfield 115, 3, 51, 38), (.aload_n 0, 1, 0, 0), (.sipush 16384, 3, 0, 0), (.newarray .int, 2, 0, 0), (.putfield 118, 3, 51, 39), (.aload_n 0, 1, 0, 0), (.sipush 4101, 3, 0, 0), (.newarray .long, 2, 0, 0), (.putfield 121, 3, 51, 40), (.aload_n 0, 1, 0, 0), (.sipush 4101, 3, 0, 0), (.newarray .boolean, 2, 0, 0), (.putfield 125, 3, 51, 41), (.aload_n 0, 1, 0, 0), (.bipush 16, 2, 0, 0), (.newarray .int, 2, 0, 0), (.putfield 128, 3, 51, 43), (.aload_n 0, 1, 0, 0), (.sipush 4101, 3, 0, 0), (.newarray .int, 2, 0, 0), (.putfield 131, 3, 51, 44), (.aload_n 0, 1, 0, 0), (.sipush 4101, 3, 0, 0), (.newarray .int, 2, 0, 0), (.putfield 134, 3, 51, 45), (.aload_n 0, 1, 0, 0), (.sipush 1001, 3, 0, 0), (.newarray .int, 2, 0, 0), (.putfield 137, 3, 51, 57), (.aload_n 0, 1, 0, 0), (.sipush 1001, 3, 0, 0), (.newarray .int, 2, 0, 0), (.putfield 140, 3, 51, 58), (.aload_n 0, 1, 0, 0), (.sipush 1001, 3, 0, 0), (.newarray .int, 2, 0, 0), (.putfield 143, 3, 51, 59), (.aload_n 0, 1, 0, 0), (.sipush 8202, 3, 0, 0), (.newarray .int, 2, 0, 0), (.putfield 146, 3, 51, 60), (.aload_n 0, 1, 0, 0), (.sipush 720, 3, 0, 0), (.newarray .int, 2, 0, 0), (.putfield 149, 3, 51, 61), (.aload_n 0, 1, 0, 0), (.sipush 2880, 3, 0, 0), (.newarray .int, 2, 0, 0), (.putfield 152, 3, 51, 62), (.aload_n 0, 1, 0, 0), (.sipush 2880, 3, 0, 0), (.newarray .int, 2, 0, 0), (.putfield 155, 3, 51, 63), (.aload_n 0, 1, 0, 0), (.sipush 720, 3, 0, 0), (.newarray .int, 2, 0, 0), (.putfield 158, 3, 51, 64), (.aload_n 0, 1, 0, 0), (.sipush 720, 3, 0, 0), (.newarray .int, 2, 0, 0), (.putfield 161, 3, 51, 66), (.aload_n 0, 1, 0, 0), (.invokevirtual 164, 3, 163, 1), (.return_, 1, 0, 0)]],
  [], (1, 2, 48, 12), [], ⟨"SlidingtrayModel", "<init>", "()V"⟩, prog_14_method_1_code, none, [])
abbrev jm155p : List Nat := [0]
/-- SlidingtrayModel.thrown()I -/
def jm156 : jM := (
  [[(.aload_n 0, 1, 0, 0), (.getfield 167, 3, 12, 8), (.ireturn, 1, 0, 0)]],
  [], (1, 0, 0, 12), [], ⟨"SlidingtrayModel", "thrown", "()I"⟩, prog_14_method_2_code, (some .int), [])
abbrev jm156p : List Nat := [0]
/-- SlidingtrayModel.in(III)Z -/
def jm157 : jM := (
  [[(.iload_n 0, 1, 0, 0), (.iload_n 1, 1, 0, 0), (.if_icmp .lt 12, 3, 1, 0), (.iload_n 0, 1, 0, 0), (.iload_n 2, 1, 0, 0), (.if_icmp .gt 7, 3, 1, 0), (.iconst 1, 1, 0, 0), (.goto 4, 3, 2, 0)],
   [(.iconst 0, 1, 0, 0), (.nop, 0, 2, 0)],
   [(.ireturn, 1, 0, 0)]],
  [], (3, 0, 0, 12), [], ⟨"SlidingtrayModel", "in", "(III)Z"⟩, prog_14_method_3_code, (some .boolean), [])
abbrev jm157p : List Nat := [0, 14, 15]
/-- SlidingtrayModel.refuse(I)I -/
def jm158 : jM := (
  [[(.aload_n 0, 1, 0, 0), (.iload_n 1, 1, 0, 0), (.putfield 167, 3, 48, 8), (.iconst 0, 1, 0, 0), (.ireturn, 1, 0, 0)]],
  [], (2, 0, 0, 12), [], ⟨"SlidingtrayModel", "refuse", "(I)I"⟩, prog_14_method_4_code, (some .int), [])
abbrev jm158p : List Nat := [0]
/-- SlidingtrayModel.told(I)I -/
def jm159 : jM := (
  [[(.aload_n 0, 1, 0, 0), (.iconst 0, 1, 0, 0), (.putfield 167, 3, 48, 8), (.iload_n 1, 1, 0, 0), (.ireturn, 1, 0, 0)]],
  [], (2, 0, 0, 12), [], ⟨"SlidingtrayModel", "told", "(I)I"⟩, prog_14_method_5_code, (some .int), [])
abbrev jm159p : List Nat := [0]
/-- SlidingtrayModel.says(Z)Z -/
def jm160 : jM := (
  [[(.aload_n 0, 1, 0, 0), (.iconst 0, 1, 0, 0), (.putfield 167, 3, 48, 8), (.iload_n 1, 1, 0, 0), (.ireturn, 1, 0, 0)]],
  [], (2, 0, 0, 12), [], ⟨"SlidingtrayModel", "says", "(Z)Z"⟩, prog_14_method_6_code, (some .boolean), [])
abbrev jm160p : List Nat := [0]
/-- SlidingtrayModel.denies(I)Z -/
def jm161 : jM := (
  [[(.aload_n 0, 1, 0, 0), (.iload_n 1, 1, 0, 0), (.putfield 167, 3, 48, 8), (.iconst 0, 1, 0, 0), (.ireturn, 1, 0, 0)]],
  [], (2, 0, 0, 12), [], ⟨"SlidingtrayModel", "denies", "(I)Z"⟩, prog_14_method_7_code, (some .boolean), [])
abbrev jm161p : List Nat := [0]
/-- SlidingtrayModel.cellBeside(II)I -/
def jm162 : jM := (
  [[(.iload_n 1, 1, 0, 0), (.aload_n 0, 1, 0, 0), (.getfield 30, 3, 12, 6), (.idiv, 1, 0, 0), (.istore_n 3, 1, 0, 0), (.iload_n 1, 1, 0, 0), (.aload_n 0, 1, 0, 0), (.getfield 30, 3, 12, 6), (.irem, 1, 0, 0), (.istore 4, 2, 0, 0), (.iload_n 2, 1, 0, 0), (.tableswitch 75 0 2 #[28, 43, 56], 28, 0, 0)],
   [(.iload_n 3, 1, 0, 0), (.ifCond .ne 7, 3, 2, 0), (.iconst (-1), 1, 0, 0), (.goto 9, 3, 3, 0)],
   [(.iload_n 1, 1, 0, 0), (.aload_n 0, 1, 0, 0), (.getfield 30, 3, 12, 6), (.isub, 1, 0, 0), (.nop, 0, 3, 0)],
   [(.ireturn, 1, 0, 0)],
   [(.iload 4, 2, 0, 0), (.ifCond .ne 7, 3, 5, 0), (.iconst (-1), 1, 0, 0), (.goto 6, 3, 6, 0)],
   [(.iload_n 1, 1, 0, 0), (.iconst 1, 1, 0, 0), (.isub, 1, 0, 0), (.nop, 0, 6, 0)],
   [(.ireturn, 1, 0, 0)],
   [(.iload 4, 2, 0, 0), (.iconst 1, 1, 0, 0), (.iadd, 1, 0, 0), (.aload_n 0, 1, 0, 0), (.getfield 30, 3, 12, 6), (.if_icmp .ne 7, 3, 8, 0), (.iconst (-1), 1, 0, 0), (.goto 6, 3, 9, 0)],
   [(.iload_n 1, 1, 0, 0), (.iconst 1, 1, 0, 0), (.iadd, 1, 0, 0), (.nop, 0, 9, 0)],
   [(.ireturn, 1, 0, 0)],
   [(.iload_n 3, 1, 0, 0), (.iconst 1, 1, 0, 0), (.iadd, 1, 0, 0), (.aload_n 0, 1, 0, 0), (.getfield 26, 3, 12, 5), (.if_icmp .ne 7, 3, 11, 0), (.iconst (-1), 1, 0, 0), (.goto 9, 3, 12, 0)],
   [(.iload_n 1, 1, 0, 0), (.aload_n 0, 1, 0, 0), (.getfield 30, 3, 12, 6), (.iadd, 1, 0, 0), (.nop, 0, 12, 0)],
   [(.ireturn, 1, 0, 0)]],
  [[10, 1, 4, 7]], (5, 0, 0, 12), [], ⟨"SlidingtrayModel", "cellBeside", "(II)I"⟩, prog_14_method_8_code, (some .int), [])
abbrev jm162p : List Nat := [0, 44, 52, 58, 59, 68, 71, 72, 87, 90, 91, 105, 111]
/-- SlidingtrayModel.makes()V -/
def jm163 : jM := (
  [[(.aload_n 0, 1, 0, 0), (.iconst 0, 1, 0, 0), (.putfield 170, 3, 48, 7), (.iconst 0, 1, 0, 0), (.istore_n 1, 1, 0, 0), (.nop, 0, 1, 0)],
   [(.iload_n 1, 1, 0, 0), (.aload_n 0, 1, 0, 0), (.getfield 26, 3, 12, 5), (.aload_n 0, 1, 0, 0), (.getfield 30, 3, 12, 6), (.imul, 1, 0, 0), (.if_icmp .ge 61, 3, 5, 0), (.aload_n 0, 1, 0, 0), (.getfield 13, 3, 12, 1), (.iload_n 1, 1, 0, 0), (.aload_n 0, 1, 0, 0), (.getfield 22, 3, 12, 4), (.iload_n 1, 1, 0, 0), (.baload, 1, 0, 0), (.ifCond .eq 7, 3, 2, 0), (.iconst (-1), 1, 0, 0), (.goto 7, 3, 3, 0)],
   [(.aload_n 0, 1, 0, 0), (.getfield 170, 3, 12, 7), (.nop, 0, 3, 0)],
   [(.iastore, 1, 0, 0), (.aload_n 0, 1, 0, 0), (.getfield 22, 3, 12, 4), (.iload_n 1, 1, 0, 0), (.baload, 1, 0, 0), (.ifCond .ne 23, 3, 4, 0), (.aload_n 0, 1, 0, 0), (.getfield 7, 3, 12, 0), (.aload_n 0, 1, 0, 0), (.getfield 170, 3, 12, 7), (.iload_n 1, 1, 0, 0), (.iastore, 1, 0, 0), (.aload_n 0, 1, 0, 0), (.dup, 1, 0, 0), (.getfield 170, 3, 12, 7), (.iconst 1, 1, 0, 0), (.iadd, 1, 0, 0), (.putfield 170, 3, 48, 7), (.nop, 0, 4, 0)],
   [(.iinc 1 1, 3, 0, 0), (.goto (-68), 3, 1, 0)],
   [(.iconst 0, 1, 0, 0), (.istore_n 1, 1, 0, 0), (.nop, 0, 6, 0)],
   [(.iload_n 1, 1, 0, 0), (.aload_n 0, 1, 0, 0), (.getfield 170, 3, 12, 7), (.if_icmp .ge 59, 3, 11, 0), (.iconst 0, 1, 0, 0), (.istore_n 2, 1, 0, 0), (.nop, 0, 7, 0)],
   [(.iload_n 2, 1, 0, 0), (.iconst 4, 1, 0, 0), (.if_icmp .ge 46, 3, 10, 0), (.aload_n 0, 1, 0, 0), (.aload_n 0, 1, 0, 0), (.getfield 7, 3, 12, 0), (.iload_n 1, 1, 0, 0), (.iaload, 1, 0, 0), (.iload_n 2, 1, 0, 0), (.invokevirtual 173, 3, 162, 3), (.istore_n 3, 1, 0, 0), (.aload_n 0, 1, 0, 0), (.getfield 16, 3, 12, 2), (.iconst 4, 1, 0, 0), (.iload_n 1, 1, 0, 0), (.imul, 1, 0, 0), (.iload_n 2, 1, 0, 0), (.iadd, 1, 0, 0), (.iload_n 3, 1, 0, 0), (.iconst (-1), 1, 0, 0), (.if_icmp .ne 7, 3, 8, 0), (.iconst (-1), 1, 0, 0), (.goto 9, 3, 9, 0)],
   [(.aload_n 0, 1, 0, 0), (.getfield 13, 3, 12, 1), (.iload_n 3, 1, 0, 0), (.iaload, 1, 0, 0), (.nop, 0, 9, 0)],
   [(.iastore, 1, 0, 0), (.iinc 2 1, 3, 0, 0), (.goto (-45), 3, 7, 0)],
   [(.iinc 1 1, 3, 0, 0), (.goto (-61), 3, 6, 0)],
   [(.iconst 0, 1, 0, 0), (.istore_n 1, 1, 0, 0), (.nop, 0, 12, 0)],
   [(.iload_n 1, 1, 0, 0), (.aload_n 0, 1, 0, 0), (.getfield 170, 3, 12, 7), (.if_icmp .ge 14, 3, 13, 0), (.aload_n 0, 1, 0, 0), (.iload_n 1, 1, 0, 0), (.invokevirtual 177, 3, 164, 2), (.iinc 1 1, 3, 0, 0), (.goto (-16), 3, 12, 0)],
   [(.iconst 0, 1, 0, 0), (.istore_n 1, 1, 0, 0), (.nop, 0, 14, 0)],
   [(.iload_n 1, 1, 0, 0), (.aload_n 0, 1, 0, 0), (.getfield 170, 3, 12, 7), (.if_icmp .ge 55, 3, 17, 0), (.iload_n 1, 1, 0, 0), (.iconst 1, 1, 0, 0), (.iadd, 1, 0, 0), (.aload_n 0, 1, 0, 0), (.getfield 170, 3, 12, 7), (.if_icmp .ge 9, 3, 15, 0), (.iload_n 1, 1, 0, 0), (.iconst 1, 1, 0, 0), (.iadd, 1, 0, 0), (.goto 4, 3, 16, 0)],
   [(.iconst 0, 1, 0, 0), (.nop, 0, 16, 0)],
   [(.istore_n 2, 1, 0, 0), (.aload_n 0, 1, 0, 0), (.getfield 33, 3, 12, 9), (.iload_n 1, 1, 0, 0), (.iload_n 2, 1, 0, 0), (.iastore, 1, 0, 0), (.aload_n 0, 1, 0, 0), (.getfield 36, 3, 12, 10), (.iload_n 2, 1, 0, 0), (.iload_n 1, 1, 0, 0), (.iastore, 1, 0, 0), (.aload_n 0, 1, 0, 0), (.getfield 39, 3, 12, 11), (.iload_n 1, 1, 0, 0), (.iconst 1, 1, 0, 0), (.iastore, 1, 0, 0), (.aload_n 0, 1, 0, 0), (.getfield 42, 3, 12, 12), (.iload_n 1, 1, 0, 0), (.iconst 0, 1, 0, 0), (.bastore, 1, 0, 0), (.iinc 1 1, 3, 0, 0), (.goto (-57), 3, 14, 0)],
   [(.aload_n 0, 1, 0, 0), (.iconst 0, 1, 0, 0), (.putfield 181, 3, 48, 32), (.aload_n 0, 1, 0, 0), (.iconst 0, 1, 0, 0), (.putfield 184, 3, 48, 17), (.iconst 0, 1, 0, 0), (.istore_n 1, 1, 0, 0), (.nop, 0, 18, 0)],
   [(.iload_n 1, 1, 0, 0), (.iconst 4, 1, 0, 0), (.if_icmp .ge 16, 3, 19, 0), (.aload_n 0, 1, 0, 0), (.getfield 51, 3, 12, 15), (.iload_n 1, 1, 0, 0), (.iconst 0, 1, 0, 0), (.iastore, 1, 0, 0), (.iinc 1 1, 3, 0, 0), (.goto (-15), 3, 18, 0)],
   [(.aload_n 0, 1, 0, 0), (.getfield 69, 3, 12, 22), (.iconst 0, 1, 0, 0), (.iconst 0, 1, 0, 0), (.bastore, 1, 0, 0), (.aload_n 0, 1, 0, 0), (.getfield 69, 3, 12, 22), (.iconst 1, 1, 0, 0), (.iconst 0, 1, 0, 0), (.bastore, 1, 0, 0), (.aload_n 0, 1, 0, 0), (.iconst 0, 1, 0, 0), (.putfield 187, 3, 48, 47), (.aload_n 0, 1, 0, 0), (.iconst 0, 1, 0, 0), (.putfield 190, 3, 48, 48), (.aload_n 0, 1, 0, 0), (.iconst 0, 1, 0, 0), (.putfield 193, 3, 48, 49), (.aload_n 0, 1, 0, 0), (.iconst 0, 1, 0, 0), (.putfield 196, 3, 48, 46), (.return_, 1, 0, 0)]],
  [], (4, 1, 25, 12), [], ⟨"SlidingtrayModel", "makes", "()V"⟩, prog_14_method_9_code, none, [])
abbrev jm163p : List Nat := [0, 7, 38, 42, 72, 78, 80, 90, 125, 131, 138, 144, 146, 165, 167, 191, 192, 227, 239, 257]
/-- SlidingtrayModel.walksFrom(I)V -/
def jm164 : jM := (
  [[(.iconst 0, 1, 0, 0), (.istore_n 2, 1, 0, 0), (.nop, 0, 1, 0)],
   [(.iload_n 2, 1, 0, 0), (.aload_n 0, 1, 0, 0), (.getfield 170, 3, 12, 7), (.if_icmp .ge 22, 3, 2, 0), (.aload_n 0, 1, 0, 0), (.getfield 19, 3, 12, 3), (.bipush 16, 2, 0, 0), (.iload_n 1, 1, 0, 0), (.imul, 1, 0, 0), (.iload_n 2, 1, 0, 0), (.iadd, 1, 0, 0), (.ldc 199, 2, 1000000000, 0), (.iastore, 1, 0, 0), (.iinc 2 1, 3, 0, 0), (.goto (-24), 3, 1, 0)],
   [(.aload_n 0, 1, 0, 0), (.getfield 19, 3, 12, 3), (.bipush 16, 2, 0, 0), (.iload_n 1, 1, 0, 0), (.imul, 1, 0, 0), (.iload_n 1, 1, 0, 0), (.iadd, 1, 0, 0), (.iconst 0, 1, 0, 0), (.iastore, 1, 0, 0), (.iconst 0, 1, 0, 0), (.istore_n 2, 1, 0, 0), (.nop, 0, 3, 0)],
   [(.iload_n 2, 1, 0, 0), (.aload_n 0, 1, 0, 0), (.getfield 170, 3, 12, 7), (.if_icmp .ge 112, 3, 9, 0), (.iconst 0, 1, 0, 0), (.istore_n 3, 1, 0, 0), (.nop, 0, 4, 0)],
   [(.iload_n 3, 1, 0, 0), (.aload_n 0, 1, 0, 0), (.getfield 170, 3, 12, 7), (.if_icmp .ge 96, 3, 8, 0), (.iconst 0, 1, 0, 0), (.istore 4, 2, 0, 0), (.nop, 0, 5, 0)],
   [(.iload 4, 2, 0, 0), (.iconst 4, 1, 0, 0), (.if_icmp .ge 81, 3, 7, 0), (.aload_n 0, 1, 0, 0), (.getfield 16, 3, 12, 2), (.iconst 4, 1, 0, 0), (.iload_n 3, 1, 0, 0), (.imul, 1, 0, 0), (.iload 4, 2, 0, 0), (.iadd, 1, 0, 0), (.iaload, 1, 0, 0), (.istore 5, 2, 0, 0), (.iload 5, 2, 0, 0), (.iconst (-1), 1, 0, 0), (.if_icmp .eq 56, 3, 6, 0), (.aload_n 0, 1, 0, 0), (.getfield 19, 3, 12, 3), (.bipush 16, 2, 0, 0), (.iload_n 1, 1, 0, 0), (.imul, 1, 0, 0), (.iload_n 3, 1, 0, 0), (.iadd, 1, 0, 0), (.iaload, 1, 0, 0), (.iconst 1, 1, 0, 0), (.iadd, 1, 0, 0), (.aload_n 0, 1, 0, 0), (.getfield 19, 3, 12, 3), (.bipush 16, 2, 0, 0), (.iload_n 1, 1, 0, 0), (.imul, 1, 0, 0), (.iload 5, 2, 0, 0), (.iadd, 1, 0, 0), (.iaload, 1, 0, 0), (.if_icmp .ge 28, 3, 6, 0), (.aload_n 0, 1, 0, 0), (.getfield 19, 3, 12, 3), (.bipush 16, 2, 0, 0), (.iload_n 1, 1, 0, 0), (.imul, 1, 0, 0), (.iload 5, 2, 0, 0), (.iadd, 1, 0, 0), (.aload_n 0, 1, 0, 0), (.getfield 19, 3, 12, 3), (.bipush 16, 2, 0, 0), (.iload_n 1, 1, 0, 0), (.imul, 1, 0, 0), (.iload_n 3, 1, 0, 0), (.iadd, 1, 0, 0), (.iaload, 1, 0, 0), (.iconst 1, 1, 0, 0), (.iadd, 1, 0, 0), (.iastore, 1, 0, 0), (.nop, 0, 6, 0)],
   [(.iinc 4 1, 3, 0, 0), (.goto (-81), 3, 5, 0)],
   [(.iinc 3 1, 3, 0, 0), (.goto (-98), 3, 4, 0)],
   [(.iinc 2 1, 3, 0, 0), (.goto (-114), 3, 3, 0)],
   [(.return_, 1, 0, 0)]],
  [], (6, 0, 0, 12), [], ⟨"SlidingtrayModel", "walksFrom", "(I)V"⟩, prog_14_method_10_code, none, [])
abbrev jm164p : List Nat := [0, 2, 29, 43, 53, 64, 142, 148, 154, 160]
/-- SlidingtrayModel.tiles()I -/
def jm165 : jM := (
  [[(.aload_n 0, 1, 0, 0), (.getfield 170, 3, 12, 7), (.iconst 1, 1, 0, 0), (.isub, 1, 0, 0), (.ireturn, 1, 0, 0)]],
  [], (1, 0, 0, 12), [], ⟨"SlidingtrayModel", "tiles", "()I"⟩, prog_14_method_11_code, (some .int), [])
abbrev jm165p : List Nat := [0]
/-- SlidingtrayModel.gapIn([I)I -/
def jm166 : jM := (
  [[(.iconst 0, 1, 0, 0), (.istore_n 2, 1, 0, 0), (.nop, 0, 1, 0)],
   [(.aload_n 1, 1, 0, 0), (.iload_n 2, 1, 0, 0), (.iaload, 1, 0, 0), (.ifCond .eq 9, 3, 2, 0), (.iinc 2 1, 3, 0, 0), (.goto (-9), 3, 1, 0)],
   [(.iload_n 2, 1, 0, 0), (.ireturn, 1, 0, 0)]],
  [], (3, 0, 0, 12), [], ⟨"SlidingtrayModel", "gapIn", "([I)I"⟩, prog_14_method_12_code, (some .int), [])
abbrev jm166p : List Nat := [0, 2, 14]
/-- SlidingtrayModel.tray(III)I -/
def jm167 : jM := (
  [[(.iload_n 1, 1, 0, 0), (.iconst 2, 1, 0, 0), (.iconst 4, 1, 0, 0), (.invokestatic 200, 3, 157, 3), (.ifCond .eq 25, 3, 1, 0), (.iload_n 2, 1, 0, 0), (.iconst 2, 1, 0, 0), (.iconst 4, 1, 0, 0), (.invokestatic 200, 3, 157, 3), (.ifCond .eq 16, 3, 1, 0), (.iload_n 3, 1, 0, 0), (.ifCond .lt 12, 3, 1, 0), (.iload_n 3, 1, 0, 0), (.iconst 1, 1, 0, 0), (.iload_n 1, 1, 0, 0), (.iload_n 2, 1, 0, 0), (.imul, 1, 0, 0), (.ishl, 1, 0, 0), (.if_icmp .lt 9, 3, 2, 0), (.nop, 0, 1, 0)],
   [(.aload_n 0, 1, 0, 0), (.iconst 1, 1, 0, 0), (.invokevirtual 204, 3, 158, 2), (.ireturn, 1, 0, 0)],
   [(.iconst 0, 1, 0, 0), (.istore 4, 2, 0, 0), (.iconst 0, 1, 0, 0), (.istore 5, 2, 0, 0), (.nop, 0, 3, 0)],
   [(.iload 5, 2, 0, 0), (.iload_n 1, 1, 0, 0), (.iload_n 2, 1, 0, 0), (.imul, 1, 0, 0), (.if_icmp .ge 51, 3, 8, 0), (.aload_n 0, 1, 0, 0), (.getfield 72, 3, 12, 23), (.iload 5, 2, 0, 0), (.iload_n 3, 1, 0, 0), (.iload 5, 2, 0, 0), (.ishr, 1, 0, 0), (.iconst 1, 1, 0, 0), (.iand, 1, 0, 0), (.iconst 1, 1, 0, 0), (.if_icmp .ne 7, 3, 4, 0), (.iconst 1, 1, 0, 0), (.goto 4, 3, 5, 0)],
   [(.iconst 0, 1, 0, 0), (.nop, 0, 5, 0)],
   [(.bastore, 1, 0, 0), (.iload 4, 2, 0, 0), (.aload_n 0, 1, 0, 0), (.getfield 72, 3, 12, 23), (.iload 5, 2, 0, 0), (.baload, 1, 0, 0), (.ifCond .eq 7, 3, 6, 0), (.iconst 0, 1, 0, 0), (.goto 4, 3, 7, 0)],
   [(.iconst 1, 1, 0, 0), (.nop, 0, 7, 0)],
   [(.iadd, 1, 0, 0), (.istore 4, 2, 0, 0), (.iinc 5 1, 3, 0, 0), (.goto (-53), 3, 3, 0)],
   [(.iload 4, 2, 0, 0), (.iconst 3, 1, 0, 0), (.if_icmp .lt 14, 3, 9, 0), (.aload_n 0, 1, 0, 0), (.iload_n 1, 1, 0, 0), (.iload_n 2, 1, 0, 0), (.iload 4, 2, 0, 0), (.invokevirtual 208, 3, 168, 4), (.ifCond .ne 9, 3, 10, 0), (.nop, 0, 9, 0)],
   [(.aload_n 0, 1, 0, 0), (.iconst 1, 1, 0, 0), (.invokevirtual 204, 3, 158, 2), (.ireturn, 1, 0, 0)],
   [(.aload_n 0, 1, 0, 0), (.iload_n 1, 1, 0, 0), (.putfield 26, 3, 48, 5), (.aload_n 0, 1, 0, 0), (.iload_n 2, 1, 0, 0), (.putfield 30, 3, 48, 6), (.iconst 0, 1, 0, 0), (.istore 5, 2, 0, 0), (.nop, 0, 11, 0)],
   [(.iload 5, 2, 0, 0), (.bipush 16, 2, 0, 0), (.if_icmp .ge 39, 3, 14, 0), (.aload_n 0, 1, 0, 0), (.getfield 22, 3, 12, 4), (.iload 5, 2, 0, 0), (.iload 5, 2, 0, 0), (.iload_n 1, 1, 0, 0), (.iload_n 2, 1, 0, 0), (.imul, 1, 0, 0), (.if_icmp .ge 17, 3, 12, 0), (.aload_n 0, 1, 0, 0), (.getfield 72, 3, 12, 23), (.iload 5, 2, 0, 0), (.baload, 1, 0, 0), (.ifCond .eq 7, 3, 12, 0), (.iconst 1, 1, 0, 0), (.goto 4, 3, 13, 0)],
   [(.iconst 0, 1, 0, 0), (.nop, 0, 13, 0)],
   [(.bastore, 1, 0, 0), (.iinc 5 1, 3, 0, 0), (.goto (-40), 3, 11, 0)],
   [(.aload_n 0, 1, 0, 0), (.invokevirtual 164, 3, 163, 1), (.aload_n 0, 1, 0, 0), (.aload_n 0, 1, 0, 0), (.invokevirtual 211, 3, 165, 1), (.invokevirtual 215, 3, 159, 2), (.ireturn, 1, 0, 0)]],
  [], (6, 2, 48, 12), [], ⟨"SlidingtrayModel", "tray", "(III)I"⟩, prog_14_method_13_code, (some .int), [])
abbrev jm167p : List Nat := [0, 31, 37, 43, 71, 72, 89, 90, 99, 116, 122, 135, 170, 171, 178]
/-- SlidingtrayModel.isWhole(III)Z -/
def jm168 : jM := (
  [[(.iconst 0, 1, 0, 0), (.istore 4, 2, 0, 0), (.nop, 0, 1, 0)],
   [(.aload_n 0, 1, 0, 0), (.getfield 72, 3, 12, 23), (.iload 4, 2, 0, 0), (.baload, 1, 0, 0), (.ifCond .eq 9, 3, 2, 0), (.iinc 4 1, 3, 0, 0), (.goto (-13), 3, 1, 0)],
   [(.iconst 0, 1, 0, 0), (.istore 5, 2, 0, 0), (.nop, 0, 3, 0)],
   [(.iload 5, 2, 0, 0), (.bipush 16, 2, 0, 0), (.if_icmp .ge 28, 3, 6, 0), (.aload_n 0, 1, 0, 0), (.getfield 75, 3, 12, 24), (.iload 5, 2, 0, 0), (.iload 5, 2, 0, 0), (.iload 4, 2, 0, 0), (.if_icmp .ne 7, 3, 4, 0), (.iconst 1, 1, 0, 0), (.goto 4, 3, 5, 0)],
   [(.iconst 0, 1, 0, 0), (.nop, 0, 5, 0)],
   [(.bastore, 1, 0, 0), (.iinc 5 1, 3, 0, 0), (.goto (-29), 3, 3, 0)],
   [(.iconst 0, 1, 0, 0), (.istore 5, 2, 0, 0), (.nop, 0, 7, 0)],
   [(.iload 5, 2, 0, 0), (.bipush 16, 2, 0, 0), (.if_icmp .ge 163, 3, 21, 0), (.iconst 0, 1, 0, 0), (.istore 6, 2, 0, 0), (.nop, 0, 8, 0)],
   [(.iload 6, 2, 0, 0), (.iload_n 1, 1, 0, 0), (.iload_n 2, 1, 0, 0), (.imul, 1, 0, 0), (.if_icmp .ge 146, 3, 20, 0), (.iload 6, 2, 0, 0), (.iload_n 2, 1, 0, 0), (.if_icmp .lt 15, 3, 9, 0), (.aload_n 0, 1, 0, 0), (.getfield 75, 3, 12, 24), (.iload 6, 2, 0, 0), (.iload_n 2, 1, 0, 0), (.isub, 1, 0, 0), (.baload, 1, 0, 0), (.ifCond .ne 22, 3, 10, 0), (.nop, 0, 9, 0)],
   [(.iload 6, 2, 0, 0), (.iload_n 2, 1, 0, 0), (.irem, 1, 0, 0), (.ifCond .le 19, 3, 11, 0), (.aload_n 0, 1, 0, 0), (.getfield 75, 3, 12, 24), (.iload 6, 2, 0, 0), (.iconst 1, 1, 0, 0), (.isub, 1, 0, 0), (.baload, 1, 0, 0), (.ifCond .eq 7, 3, 11, 0), (.nop, 0, 10, 0)],
   [(.iconst 1, 1, 0, 0), (.goto 4, 3, 12, 0)],
   [(.iconst 0, 1, 0, 0), (.nop, 0, 12, 0)],
   [(.istore 7, 2, 0, 0), (.iload 7, 2, 0, 0), (.ifCond .ne 47, 3, 14, 0), (.iload 6, 2, 0, 0), (.iload_n 2, 1, 0, 0), (.irem, 1, 0, 0), (.iconst 1, 1, 0, 0), (.iadd, 1, 0, 0), (.iload_n 2, 1, 0, 0), (.if_icmp .ge 15, 3, 13, 0), (.aload_n 0, 1, 0, 0), (.getfield 75, 3, 12, 24), (.iload 6, 2, 0, 0), (.iconst 1, 1, 0, 0), (.iadd, 1, 0, 0), (.baload, 1, 0, 0), (.ifCond .ne 25, 3, 14, 0), (.nop, 0, 13, 0)],
   [(.iload 6, 2, 0, 0), (.iload_n 2, 1, 0, 0), (.iadd, 1, 0, 0), (.iload_n 1, 1, 0, 0), (.iload_n 2, 1, 0, 0), (.imul, 1, 0, 0), (.if_icmp .ge 19, 3, 15, 0), (.aload_n 0, 1, 0, 0), (.getfield 75, 3, 12, 24), (.iload 6, 2, 0, 0), (.iload_n 2, 1, 0, 0), (.iadd, 1, 0, 0), (.baload, 1, 0, 0), (.ifCond .eq 7, 3, 15, 0), (.nop, 0, 14, 0)],
   [(.iconst 1, 1, 0, 0), (.goto 4, 3, 16, 0)],
   [(.iconst 0, 1, 0, 0), (.nop, 0, 16, 0)],
   [(.istore 7, 2, 0, 0), (.aload_n 0, 1, 0, 0), (.getfield 75, 3, 12, 24), (.iload 6, 2, 0, 0), (.aload_n 0, 1, 0, 0), (.getfield 75, 3, 12, 24), (.iload 6, 2, 0, 0), (.baload, 1, 0, 0), (.ifCond .ne 18, 3, 17, 0), (.iload 7, 2, 0, 0), (.ifCond .eq 17, 3, 18, 0), (.aload_n 0, 1, 0, 0), (.getfield 72, 3, 12, 23), (.iload 6, 2, 0, 0), (.baload, 1, 0, 0), (.ifCond .ne 7, 3, 18, 0), (.nop, 0, 17, 0)],
   [(.iconst 1, 1, 0, 0), (.goto 4, 3, 19, 0)],
   [(.iconst 0, 1, 0, 0), (.nop, 0, 19, 0)],
   [(.bastore, 1, 0, 0), (.iinc 6 1, 3, 0, 0), (.goto (-148), 3, 8, 0)],
   [(.iinc 5 1, 3, 0, 0), (.goto (-164), 3, 7, 0)],
   [(.iconst 0, 1, 0, 0), (.istore 5, 2, 0, 0), (.iconst 0, 1, 0, 0), (.istore 6, 2, 0, 0), (.nop, 0, 22, 0)],
   [(.iload 6, 2, 0, 0), (.iload_n 1, 1, 0, 0), (.iload_n 2, 1, 0, 0), (.imul, 1, 0, 0), (.if_icmp .ge 29, 3, 25, 0), (.iload 5, 2, 0, 0), (.aload_n 0, 1, 0, 0), (.getfield 75, 3, 12, 24), (.iload 6, 2, 0, 0), (.baload, 1, 0, 0), (.ifCond .eq 7, 3, 23, 0), (.iconst 1, 1, 0, 0), (.goto 4, 3, 24, 0)],
   [(.iconst 0, 1, 0, 0), (.nop, 0, 24, 0)],
   [(.iadd, 1, 0, 0), (.istore 5, 2, 0, 0), (.iinc 6 1, 3, 0, 0), (.goto (-31), 3, 22, 0)],
   [(.iload 5, 2, 0, 0), (.iload_n 3, 1, 0, 0), (.if_icmp .ne 7, 3, 26, 0), (.iconst 1, 1, 0, 0), (.goto 4, 3, 27, 0)],
   [(.iconst 0, 1, 0, 0), (.nop, 0, 27, 0)],
   [(.ireturn, 1, 0, 0)]],
  [], (8, 0, 0, 12), [], ⟨"SlidingtrayModel", "isWhole", "(III)Z"⟩, prog_14_method_14_code, (some .boolean), [])
abbrev jm168p : List Nat := [0, 3, 19, 22, 46, 47, 54, 57, 67, 93, 112, 116, 117, 146, 168, 172, 173, 206, 210, 211, 218, 224, 230, 254, 255, 264, 274, 275]
/-- SlidingtrayModel.valueOf(I)I -/
def jm169 : jM := (
  [[(.iload_n 1, 1, 0, 0), (.ifCond .ne 10, 3, 1, 0), (.aload_n 0, 1, 0, 0), (.getfield 170, 3, 12, 7), (.goto 4, 3, 2, 0)],
   [(.iload_n 1, 1, 0, 0), (.nop, 0, 2, 0)],
   [(.ireturn, 1, 0, 0)]],
  [], (2, 0, 0, 12), [], ⟨"SlidingtrayModel", "valueOf", "(I)I"⟩, prog_14_method_15_code, (some .int), [])
abbrev jm169p : List Nat := [0, 11, 12]
/-- SlidingtrayModel.rankOf([I)J -/
def jm170 : jM := (
  [[(.lconst 0, 1, 0, 0), (.lstore_n 2, 1, 0, 0), (.iconst 0, 1, 0, 0), (.istore 4, 2, 0, 0), (.nop, 0, 1, 0)],
   [(.iload 4, 2, 0, 0), (.aload_n 0, 1, 0, 0), (.getfield 170, 3, 12, 7), (.if_icmp .ge 77, 3, 6, 0), (.iconst 0, 1, 0, 0), (.istore 5, 2, 0, 0), (.iload 4, 2, 0, 0), (.iconst 1, 1, 0, 0), (.iadd, 1, 0, 0), (.istore 6, 2, 0, 0), (.nop, 0, 2, 0)],
   [(.iload 6, 2, 0, 0), (.aload_n 0, 1, 0, 0), (.getfield 170, 3, 12, 7), (.if_icmp .ge 38, 3, 5, 0), (.iload 5, 2, 0, 0), (.aload_n 0, 1, 0, 0), (.aload_n 1, 1, 0, 0), (.iload 6, 2, 0, 0), (.iaload, 1, 0, 0), (.invokevirtual 218, 3, 169, 2), (.aload_n 0, 1, 0, 0), (.aload_n 1, 1, 0, 0), (.iload 4, 2, 0, 0), (.iaload, 1, 0, 0), (.invokevirtual 218, 3, 169, 2), (.if_icmp .ge 7, 3, 3, 0), (.iconst 1, 1, 0, 0), (.goto 4, 3, 4, 0)],
   [(.iconst 0, 1, 0, 0), (.nop, 0, 4, 0)],
   [(.iadd, 1, 0, 0), (.istore 5, 2, 0, 0), (.iinc 6 1, 3, 0, 0), (.goto (-41), 3, 2, 0)],
   [(.lload_n 2, 1, 0, 0), (.aload_n 0, 1, 0, 0), (.getfield 170, 3, 12, 7), (.iload 4, 2, 0, 0), (.isub, 1, 0, 0), (.i2l, 1, 0, 0), (.lmul, 1, 0, 0), (.iload 5, 2, 0, 0), (.i2l, 1, 0, 0), (.ladd, 1, 0, 0), (.lstore_n 2, 1, 0, 0), (.iinc 4 1, 3, 0, 0), (.goto (-80), 3, 1, 0)],
   [(.lload_n 2, 1, 0, 0), (.lreturn, 1, 0, 0)]],
  [], (7, 1, 21, 12), [], ⟨"SlidingtrayModel", "rankOf", "([I)J"⟩, prog_14_method_16_code, (some .long), [])
abbrev jm170p : List Nat := [0, 5, 23, 57, 58, 67, 88]
/-- SlidingtrayModel.arrangements()J -/
def jm171 : jM := (
  [[(.lconst 1, 1, 0, 0), (.lstore_n 1, 1, 0, 0), (.iconst 2, 1, 0, 0), (.istore_n 3, 1, 0, 0), (.nop, 0, 1, 0)],
   [(.iload_n 3, 1, 0, 0), (.aload_n 0, 1, 0, 0), (.getfield 170, 3, 12, 7), (.if_icmp .gt 14, 3, 2, 0), (.lload_n 1, 1, 0, 0), (.iload_n 3, 1, 0, 0), (.i2l, 1, 0, 0), (.lmul, 1, 0, 0), (.lstore_n 1, 1, 0, 0), (.iinc 3 1, 3, 0, 0), (.goto (-16), 3, 1, 0)],
   [(.lload_n 1, 1, 0, 0), (.lreturn, 1, 0, 0)]],
  [], (4, 0, 0, 12), [], ⟨"SlidingtrayModel", "arrangements", "()J"⟩, prog_14_method_17_code, (some .long), [])
abbrev jm171p : List Nat := [0, 4, 23]
/-- SlidingtrayModel.lays(J[I)V -/
def jm172 : jM := (
  [[(.lload_n 1, 1, 0, 0), (.lstore 4, 2, 0, 0), (.aload_n 0, 1, 0, 0), (.invokevirtual 221, 3, 171, 1), (.lstore 6, 2, 0, 0), (.iconst 0, 1, 0, 0), (.istore 8, 2, 0, 0), (.nop, 0, 1, 0)],
   [(.iload 8, 2, 0, 0), (.aload_n 0, 1, 0, 0), (.getfield 170, 3, 12, 7), (.if_icmp .ge 17, 3, 2, 0), (.aload_n 0, 1, 0, 0), (.getfield 78, 3, 12, 25), (.iload 8, 2, 0, 0), (.iconst 0, 1, 0, 0), (.bastore, 1, 0, 0), (.iinc 8 1, 3, 0, 0), (.goto (-20), 3, 1, 0)],
   [(.iconst 0, 1, 0, 0), (.istore 8, 2, 0, 0), (.nop, 0, 3, 0)],
   [(.iload 8, 2, 0, 0), (.aload_n 0, 1, 0, 0), (.getfield 170, 3, 12, 7), (.if_icmp .ge 100, 3, 8, 0), (.lload 6, 2, 0, 0), (.aload_n 0, 1, 0, 0), (.getfield 170, 3, 12, 7), (.iload 8, 2, 0, 0), (.isub, 1, 0, 0), (.i2l, 1, 0, 0), (.ldiv, 1, 0, 0), (.lstore 6, 2, 0, 0), (.lload 4, 2, 0, 0), (.lload 6, 2, 0, 0), (.ldiv, 1, 0, 0), (.l2i, 1, 0, 0), (.istore 9, 2, 0, 0), (.lload 4, 2, 0, 0), (.lload 6, 2, 0, 0), (.lrem, 1, 0, 0), (.lstore 4, 2, 0, 0), (.iconst 0, 1, 0, 0), (.istore 10, 2, 0, 0), (.nop, 0, 4, 0)],
   [(.iload 9, 2, 0, 0), (.ifCond .lt 34, 3, 7, 0), (.iinc 10 1, 3, 0, 0), (.iload 9, 2, 0, 0), (.aload_n 0, 1, 0, 0), (.getfield 78, 3, 12, 25), (.iload 10, 2, 0, 0), (.aload_n 0, 1, 0, 0), (.getfield 170, 3, 12, 7), (.irem, 1, 0, 0), (.baload, 1, 0, 0), (.ifCond .eq 7, 3, 5, 0), (.iconst 0, 1, 0, 0), (.goto 4, 3, 6, 0)],
   [(.iconst 1, 1, 0, 0), (.nop, 0, 6, 0)],
   [(.isub, 1, 0, 0), (.istore 9, 2, 0, 0), (.goto (-33), 3, 4, 0)],
   [(.aload_n 0, 1, 0, 0), (.getfield 78, 3, 12, 25), (.iload 10, 2, 0, 0), (.aload_n 0, 1, 0, 0), (.getfield 170, 3, 12, 7), (.irem, 1, 0, 0), (.iconst 1, 1, 0, 0), (.bastore, 1, 0, 0), (.aload_n 3, 1, 0, 0), (.iload 8, 2, 0, 0), (.iload 10, 2, 0, 0), (.aload_n 0, 1, 0, 0), (.getfield 170, 3, 12, 7), (.irem, 1, 0, 0), (.iastore, 1, 0, 0), (.iinc 8 1, 3, 0, 0), (.goto (-103), 3, 3, 0)],
   [(.return_, 1, 0, 0)]],
  [], (11, 1, 23, 12), [], ⟨"SlidingtrayModel", "lays", "(J[I)V"⟩, prog_14_method_18_code, none, [])
abbrev jm172p : List Nat := [0, 12, 35, 38, 78, 107, 108, 114, 144]
/-- SlidingtrayModel.displaced([I)I -/
def jm173 : jM := (
  [[(.iconst 0, 1, 0, 0), (.istore_n 2, 1, 0, 0), (.iconst 0, 1, 0, 0), (.istore_n 3, 1, 0, 0), (.nop, 0, 1, 0)],
   [(.iload_n 3, 1, 0, 0), (.aload_n 0, 1, 0, 0), (.getfield 170, 3, 12, 7), (.if_icmp .ge 54, 3, 4, 0), (.aload_n 1, 1, 0, 0), (.iload_n 3, 1, 0, 0), (.iaload, 1, 0, 0), (.istore 4, 2, 0, 0), (.iload_n 2, 1, 0, 0), (.iload 4, 2, 0, 0), (.ifCond .le 34, 3, 2, 0), (.aload_n 0, 1, 0, 0), (.getfield 42, 3, 12, 12), (.iload 4, 2, 0, 0), (.baload, 1, 0, 0), (.ifCond .ne 24, 3, 2, 0), (.aload_n 0, 1, 0, 0), (.getfield 36, 3, 12, 10), (.iload 4, 2, 0, 0), (.iaload, 1, 0, 0), (.iload_n 3, 1, 0, 0), (.if_icmp .eq 13, 3, 2, 0), (.aload_n 0, 1, 0, 0), (.getfield 39, 3, 12, 11), (.iload 4, 2, 0, 0), (.iaload, 1, 0, 0), (.goto 4, 3, 3, 0)],
   [(.iconst 0, 1, 0, 0), (.nop, 0, 3, 0)],
   [(.iadd, 1, 0, 0), (.istore_n 2, 1, 0, 0), (.iinc 3 1, 3, 0, 0), (.goto (-56), 3, 1, 0)],
   [(.iload_n 2, 1, 0, 0), (.ireturn, 1, 0, 0)]],
  [], (5, 0, 0, 12), [], ⟨"SlidingtrayModel", "displaced", "([I)I"⟩, prog_14_method_19_code, (some .int), [])
abbrev jm173p : List Nat := [0, 4, 54, 55, 63]
/-- SlidingtrayModel.ways([I)I -/
def jm174 : jM := (
  [[(.iconst 0, 1, 0, 0), (.istore_n 2, 1, 0, 0), (.iconst 0, 1, 0, 0), (.istore_n 3, 1, 0, 0), (.nop, 0, 1, 0)],
   [(.iload_n 3, 1, 0, 0), (.aload_n 0, 1, 0, 0), (.getfield 170, 3, 12, 7), (.if_icmp .ge 61, 3, 4, 0), (.aload_n 1, 1, 0, 0), (.iload_n 3, 1, 0, 0), (.iaload, 1, 0, 0), (.istore 4, 2, 0, 0), (.iload_n 2, 1, 0, 0), (.iload 4, 2, 0, 0), (.ifCond .le 41, 3, 2, 0), (.aload_n 0, 1, 0, 0), (.getfield 42, 3, 12, 12), (.iload 4, 2, 0, 0), (.baload, 1, 0, 0), (.ifCond .ne 31, 3, 2, 0), (.aload_n 0, 1, 0, 0), (.getfield 39, 3, 12, 11), (.iload 4, 2, 0, 0), (.iaload, 1, 0, 0), (.aload_n 0, 1, 0, 0), (.getfield 19, 3, 12, 3), (.bipush 16, 2, 0, 0), (.iload_n 3, 1, 0, 0), (.imul, 1, 0, 0), (.aload_n 0, 1, 0, 0), (.getfield 36, 3, 12, 10), (.iload 4, 2, 0, 0), (.iaload, 1, 0, 0), (.iadd, 1, 0, 0), (.iaload, 1, 0, 0), (.imul, 1, 0, 0), (.goto 4, 3, 3, 0)],
   [(.iconst 0, 1, 0, 0), (.nop, 0, 3, 0)],
   [(.iadd, 1, 0, 0), (.istore_n 2, 1, 0, 0), (.iinc 3 1, 3, 0, 0), (.goto (-63), 3, 1, 0)],
   [(.iload_n 2, 1, 0, 0), (.ireturn, 1, 0, 0)]],
  [], (5, 0, 0, 12), [], ⟨"SlidingtrayModel", "ways", "([I)I"⟩, prog_14_method_20_code, (some .int), [])
abbrev jm174p : List Nat := [0, 4, 61, 62, 70]
/-- SlidingtrayModel.adds([IZI)I -/
def jm175 : jM := (
  [[(.iconst 0, 1, 0, 0), (.istore 4, 2, 0, 0), (.iload_n 2, 1, 0, 0), (.ifCond .eq 10, 3, 1, 0), (.aload_n 0, 1, 0, 0), (.getfield 30, 3, 12, 6), (.goto 7, 3, 2, 0)],
   [(.aload_n 0, 1, 0, 0), (.getfield 26, 3, 12, 5), (.nop, 0, 2, 0)],
   [(.istore 5, 2, 0, 0), (.iconst 0, 1, 0, 0), (.istore 6, 2, 0, 0), (.nop, 0, 3, 0)],
   [(.iload 6, 2, 0, 0), (.iload 5, 2, 0, 0), (.if_icmp .ge 158, 3, 12, 0), (.iload_n 2, 1, 0, 0), (.ifCond .eq 15, 3, 4, 0), (.iload_n 3, 1, 0, 0), (.aload_n 0, 1, 0, 0), (.getfield 30, 3, 12, 6), (.imul, 1, 0, 0), (.iload 6, 2, 0, 0), (.iadd, 1, 0, 0), (.goto 12, 3, 5, 0)],
   [(.iload 6, 2, 0, 0), (.aload_n 0, 1, 0, 0), (.getfield 30, 3, 12, 6), (.imul, 1, 0, 0), (.iload_n 3, 1, 0, 0), (.iadd, 1, 0, 0), (.nop, 0, 5, 0)],
   [(.istore 7, 2, 0, 0), (.aload_n 0, 1, 0, 0), (.getfield 22, 3, 12, 4), (.iload 7, 2, 0, 0), (.baload, 1, 0, 0), (.ifCond .eq 5, 3, 6, 0), (.iconst 0, 1, 0, 0), (.ireturn, 1, 0, 0)],
   [(.aload_n 1, 1, 0, 0), (.aload_n 0, 1, 0, 0), (.getfield 13, 3, 12, 1), (.iload 7, 2, 0, 0), (.iaload, 1, 0, 0), (.iaload, 1, 0, 0), (.istore 8, 2, 0, 0), (.aload_n 0, 1, 0, 0), (.getfield 7, 3, 12, 0), (.aload_n 0, 1, 0, 0), (.getfield 36, 3, 12, 10), (.iload 8, 2, 0, 0), (.iaload, 1, 0, 0), (.iaload, 1, 0, 0), (.istore 9, 2, 0, 0), (.iload 8, 2, 0, 0), (.ifCond .le 83, 3, 11, 0), (.aload_n 0, 1, 0, 0), (.getfield 42, 3, 12, 12), (.iload 8, 2, 0, 0), (.baload, 1, 0, 0), (.ifCond .ne 73, 3, 11, 0), (.iload_n 2, 1, 0, 0), (.ifCond .eq 13, 3, 7, 0), (.iload 9, 2, 0, 0), (.aload_n 0, 1, 0, 0), (.getfield 30, 3, 12, 6), (.idiv, 1, 0, 0), (.goto 10, 3, 8, 0)],
   [(.iload 9, 2, 0, 0), (.aload_n 0, 1, 0, 0), (.getfield 30, 3, 12, 6), (.irem, 1, 0, 0), (.nop, 0, 8, 0)],
   [(.iload_n 3, 1, 0, 0), (.if_icmp .ne 48, 3, 11, 0), (.aload_n 0, 1, 0, 0), (.getfield 81, 3, 12, 26), (.iload 4, 2, 0, 0), (.aload_n 0, 1, 0, 0), (.getfield 39, 3, 12, 11), (.iload 8, 2, 0, 0), (.iaload, 1, 0, 0), (.iastore, 1, 0, 0), (.aload_n 0, 1, 0, 0), (.getfield 84, 3, 12, 27), (.iload 4, 2, 0, 0), (.iload_n 2, 1, 0, 0), (.ifCond .eq 13, 3, 9, 0), (.iload 9, 2, 0, 0), (.aload_n 0, 1, 0, 0), (.getfield 30, 3, 12, 6), (.irem, 1, 0, 0), (.goto 10, 3, 10, 0)],
   [(.iload 9, 2, 0, 0), (.aload_n 0, 1, 0, 0), (.getfield 30, 3, 12, 6), (.idiv, 1, 0, 0), (.nop, 0, 10, 0)],
   [(.iastore, 1, 0, 0), (.iinc 4 1, 3, 0, 0), (.nop, 0, 11, 0)],
   [(.iinc 6 1, 3, 0, 0), (.goto (-159), 3, 3, 0)],
   [(.ldc 199, 2, 1000000000, 0), (.istore 6, 2, 0, 0), (.iconst 0, 1, 0, 0), (.istore 7, 2, 0, 0), (.nop, 0, 13, 0)],
   [(.iload 7, 2, 0, 0), (.iconst 1, 1, 0, 0), (.iload 4, 2, 0, 0), (.ishl, 1, 0, 0), (.if_icmp .ge 152, 3, 27, 0), (.iconst 0, 1, 0, 0), (.istore 8, 2, 0, 0), (.iconst 1, 1, 0, 0), (.istore 9, 2, 0, 0), (.iconst 0, 1, 0, 0), (.istore 10, 2, 0, 0), (.nop, 0, 14, 0)],
   [(.iload 10, 2, 0, 0), (.iload 4, 2, 0, 0), (.if_icmp .ge 109, 3, 24, 0), (.iload 7, 2, 0, 0), (.iload 10, 2, 0, 0), (.ishr, 1, 0, 0), (.iconst 1, 1, 0, 0), (.iand, 1, 0, 0), (.iconst 1, 1, 0, 0), (.if_icmp .ne 7, 3, 15, 0), (.iconst 1, 1, 0, 0), (.goto 4, 3, 16, 0)],
   [(.iconst 0, 1, 0, 0), (.nop, 0, 16, 0)],
   [(.istore 11, 2, 0, 0), (.iload 8, 2, 0, 0), (.iload 11, 2, 0, 0), (.ifCond .eq 13, 3, 17, 0), (.aload_n 0, 1, 0, 0), (.getfield 81, 3, 12, 26), (.iload 10, 2, 0, 0), (.iaload, 1, 0, 0), (.goto 4, 3, 18, 0)],
   [(.iconst 0, 1, 0, 0), (.nop, 0, 18, 0)],
   [(.iadd, 1, 0, 0), (.istore 8, 2, 0, 0), (.iconst 0, 1, 0, 0), (.istore 12, 2, 0, 0), (.nop, 0, 19, 0)],
   [(.iload 12, 2, 0, 0), (.iload 10, 2, 0, 0), (.if_icmp .ge 54, 3, 23, 0), (.iload 9, 2, 0, 0), (.ifCond .eq 40, 3, 21, 0), (.iload 11, 2, 0, 0), (.ifCond .ne 31, 3, 20, 0), (.iload 7, 2, 0, 0), (.iload 12, 2, 0, 0), (.ishr, 1, 0, 0), (.iconst 1, 1, 0, 0), (.iand, 1, 0, 0), (.iconst 1, 1, 0, 0), (.if_icmp .eq 20, 3, 20, 0), (.aload_n 0, 1, 0, 0), (.getfield 84, 3, 12, 27), (.iload 12, 2, 0, 0), (.iaload, 1, 0, 0), (.aload_n 0, 1, 0, 0), (.getfield 84, 3, 12, 27), (.iload 10, 2, 0, 0), (.iaload, 1, 0, 0), (.if_icmp .ge 7, 3, 21, 0), (.nop, 0, 20, 0)],
   [(.iconst 1, 1, 0, 0), (.goto 4, 3, 22, 0)],
   [(.iconst 0, 1, 0, 0), (.nop, 0, 22, 0)],
   [(.istore 9, 2, 0, 0), (.iinc 12 1, 3, 0, 0), (.goto (-55), 3, 19, 0)],
   [(.iinc 10 1, 3, 0, 0), (.goto (-110), 3, 14, 0)],
   [(.iload 9, 2, 0, 0), (.ifCond .eq 15, 3, 25, 0), (.iload 8, 2, 0, 0), (.iload 6, 2, 0, 0), (.if_icmp .ge 8, 3, 25, 0), (.iload 8, 2, 0, 0), (.goto 5, 3, 26, 0)],
   [(.iload 6, 2, 0, 0), (.nop, 0, 26, 0)],
   [(.istore 6, 2, 0, 0), (.iinc 7 1, 3, 0, 0), (.goto (-155), 3, 13, 0)],
   [(.iload 6, 2, 0, 0), (.ireturn, 1, 0, 0)]],
  [], (13, 0, 0, 12), [], ⟨"SlidingtrayModel", "adds", "([IZI)I"⟩, prog_14_method_21_code, (some .int), [])
abbrev jm175p : List Nat := [0, 14, 18, 23, 46, 55, 69, 123, 130, 168, 175, 179, 185, 192, 210, 232, 233, 252, 253, 259, 304, 308, 309, 317, 323, 340, 342, 350]
/-- SlidingtrayModel.pairs([I)I -/
def jm176 : jM := (
  [[(.iconst 0, 1, 0, 0), (.istore_n 2, 1, 0, 0), (.iconst 0, 1, 0, 0), (.istore_n 3, 1, 0, 0), (.nop, 0, 1, 0)],
   [(.iload_n 3, 1, 0, 0), (.aload_n 0, 1, 0, 0), (.getfield 26, 3, 12, 5), (.if_icmp .ge 19, 3, 2, 0), (.iload_n 2, 1, 0, 0), (.aload_n 0, 1, 0, 0), (.aload_n 1, 1, 0, 0), (.iconst 1, 1, 0, 0), (.iload_n 3, 1, 0, 0), (.invokevirtual 225, 3, 175, 4), (.iadd, 1, 0, 0), (.istore_n 2, 1, 0, 0), (.iinc 3 1, 3, 0, 0), (.goto (-21), 3, 1, 0)],
   [(.iconst 0, 1, 0, 0), (.istore_n 3, 1, 0, 0), (.nop, 0, 3, 0)],
   [(.iload_n 3, 1, 0, 0), (.aload_n 0, 1, 0, 0), (.getfield 30, 3, 12, 6), (.if_icmp .ge 19, 3, 4, 0), (.iload_n 2, 1, 0, 0), (.aload_n 0, 1, 0, 0), (.aload_n 1, 1, 0, 0), (.iconst 0, 1, 0, 0), (.iload_n 3, 1, 0, 0), (.invokevirtual 225, 3, 175, 4), (.iadd, 1, 0, 0), (.istore_n 2, 1, 0, 0), (.iinc 3 1, 3, 0, 0), (.goto (-21), 3, 3, 0)],
   [(.aload_n 0, 1, 0, 0), (.aload_n 1, 1, 0, 0), (.invokevirtual 229, 3, 174, 2), (.iconst 2, 1, 0, 0), (.iload_n 2, 1, 0, 0), (.imul, 1, 0, 0), (.iadd, 1, 0, 0), (.ireturn, 1, 0, 0)]],
  [], (4, 1, 32, 12), [], ⟨"SlidingtrayModel", "pairs", "([I)I"⟩, prog_14_method_22_code, (some .int), [])
abbrev jm176p : List Nat := [0, 4, 28, 30, 54]
/-- SlidingtrayModel.estimates([II)I -/
def jm177 : jM := (
  [[(.iload_n 2, 1, 0, 0), (.tableswitch 51 0 3 #[31, 33, 39, 45], 31, 0, 0)],
   [(.iconst 0, 1, 0, 0), (.ireturn, 1, 0, 0)],
   [(.aload_n 0, 1, 0, 0), (.aload_n 1, 1, 0, 0), (.invokevirtual 233, 3, 173, 2), (.ireturn, 1, 0, 0)],
   [(.aload_n 0, 1, 0, 0), (.aload_n 1, 1, 0, 0), (.invokevirtual 229, 3, 174, 2), (.ireturn, 1, 0, 0)],
   [(.aload_n 0, 1, 0, 0), (.aload_n 1, 1, 0, 0), (.invokevirtual 236, 3, 176, 2), (.ireturn, 1, 0, 0)],
   [(.aload_n 0, 1, 0, 0), (.aload_n 1, 1, 0, 0), (.invokevirtual 239, 3, 178, 2), (.ireturn, 1, 0, 0)]],
  [[5, 1, 2, 3, 4]], (3, 2, 55, 12), [], ⟨"SlidingtrayModel", "estimates", "([II)I"⟩, prog_14_method_23_code, (some .int), [])
abbrev jm177p : List Nat := [0, 32, 34, 40, 46, 52]
/-- SlidingtrayModel.fromParts([I)I -/
def jm178 : jM := (
  [[(.iconst 0, 1, 0, 0), (.istore_n 2, 1, 0, 0), (.iconst 0, 1, 0, 0), (.istore_n 3, 1, 0, 0), (.nop, 0, 1, 0)],
   [(.iload_n 3, 1, 0, 0), (.aload_n 0, 1, 0, 0), (.getfield 181, 3, 12, 32), (.if_icmp .ge 109, 3, 8, 0), (.iconst 0, 1, 0, 0), (.istore 4, 2, 0, 0), (.iconst 0, 1, 0, 0), (.istore 5, 2, 0, 0), (.nop, 0, 2, 0)],
   [(.iload 5, 2, 0, 0), (.aload_n 0, 1, 0, 0), (.getfield 90, 3, 12, 29), (.iload_n 3, 1, 0, 0), (.iaload, 1, 0, 0), (.if_icmp .ge 46, 3, 5, 0), (.iconst 0, 1, 0, 0), (.istore 6, 2, 0, 0), (.nop, 0, 3, 0)],
   [(.aload_n 1, 1, 0, 0), (.iload 6, 2, 0, 0), (.iaload, 1, 0, 0), (.aload_n 0, 1, 0, 0), (.getfield 87, 3, 12, 28), (.iconst 3, 1, 0, 0), (.iload_n 3, 1, 0, 0), (.imul, 1, 0, 0), (.iload 5, 2, 0, 0), (.iadd, 1, 0, 0), (.iaload, 1, 0, 0), (.if_icmp .eq 9, 3, 4, 0), (.iinc 6 1, 3, 0, 0), (.goto (-21), 3, 3, 0)],
   [(.bipush 9, 2, 0, 0), (.iload 4, 2, 0, 0), (.imul, 1, 0, 0), (.iload 6, 2, 0, 0), (.iadd, 1, 0, 0), (.istore 4, 2, 0, 0), (.iinc 5 1, 3, 0, 0), (.goto (-51), 3, 2, 0)],
   [(.aload_n 0, 1, 0, 0), (.getfield 93, 3, 12, 30), (.sipush 6561, 3, 0, 0), (.iload_n 3, 1, 0, 0), (.imul, 1, 0, 0), (.bipush 9, 2, 0, 0), (.iload 4, 2, 0, 0), (.imul, 1, 0, 0), (.iadd, 1, 0, 0), (.aload_n 0, 1, 0, 0), (.aload_n 1, 1, 0, 0), (.invokevirtual 242, 3, 166, 2), (.iadd, 1, 0, 0), (.iaload, 1, 0, 0), (.istore 5, 2, 0, 0), (.iload_n 2, 1, 0, 0), (.iload 5, 2, 0, 0), (.ldc 199, 2, 1000000000, 0), (.if_icmp .ne 7, 3, 6, 0), (.iconst 0, 1, 0, 0), (.goto 5, 3, 7, 0)],
   [(.iload 5, 2, 0, 0), (.nop, 0, 7, 0)],
   [(.iadd, 1, 0, 0), (.istore_n 2, 1, 0, 0), (.iinc 3 1, 3, 0, 0), (.goto (-111), 3, 1, 0)],
   [(.iload_n 2, 1, 0, 0), (.ireturn, 1, 0, 0)]],
  [], (7, 1, 22, 12), [], ⟨"SlidingtrayModel", "fromParts", "([I)I"⟩, prog_14_method_24_code, (some .int), [])
abbrev jm178p : List Nat := [0, 4, 18, 32, 56, 72, 108, 110, 118]
/-- SlidingtrayModel.isPlace(II)Z -/
def jm179 : jM := (
  [[(.iload_n 2, 1, 0, 0), (.istore_n 3, 1, 0, 0), (.iconst 1, 1, 0, 0), (.istore 4, 2, 0, 0), (.aload_n 0, 1, 0, 0), (.getfield 90, 3, 12, 29), (.iload_n 1, 1, 0, 0), (.iaload, 1, 0, 0), (.istore 5, 2, 0, 0), (.nop, 0, 1, 0)],
   [(.iload 5, 2, 0, 0), (.ifCond .lt 51, 3, 4, 0), (.aload_n 0, 1, 0, 0), (.getfield 96, 3, 12, 31), (.iload 5, 2, 0, 0), (.iload_n 3, 1, 0, 0), (.bipush 9, 2, 0, 0), (.irem, 1, 0, 0), (.iastore, 1, 0, 0), (.iload_n 3, 1, 0, 0), (.bipush 9, 2, 0, 0), (.idiv, 1, 0, 0), (.istore_n 3, 1, 0, 0), (.iload 4, 2, 0, 0), (.ifCond .eq 21, 3, 2, 0), (.aload_n 0, 1, 0, 0), (.getfield 96, 3, 12, 31), (.iload 5, 2, 0, 0), (.iaload, 1, 0, 0), (.aload_n 0, 1, 0, 0), (.getfield 170, 3, 12, 7), (.if_icmp .ge 7, 3, 2, 0), (.iconst 1, 1, 0, 0), (.goto 4, 3, 3, 0)],
   [(.iconst 0, 1, 0, 0), (.nop, 0, 3, 0)],
   [(.istore 4, 2, 0, 0), (.iinc 5 (-1), 3, 0, 0), (.goto (-50), 3, 1, 0)],
   [(.iconst 0, 1, 0, 0), (.istore 5, 2, 0, 0), (.nop, 0, 5, 0)],
   [(.iload 5, 2, 0, 0), (.aload_n 0, 1, 0, 0), (.getfield 90, 3, 12, 29), (.iload_n 1, 1, 0, 0), (.iaload, 1, 0, 0), (.if_icmp .gt 54, 3, 10, 0), (.iconst 0, 1, 0, 0), (.istore 6, 2, 0, 0), (.nop, 0, 6, 0)],
   [(.iload 6, 2, 0, 0), (.iload 5, 2, 0, 0), (.if_icmp .ge 38, 3, 9, 0), (.iload 4, 2, 0, 0), (.ifCond .eq 24, 3, 7, 0), (.aload_n 0, 1, 0, 0), (.getfield 96, 3, 12, 31), (.iload 6, 2, 0, 0), (.iaload, 1, 0, 0), (.aload_n 0, 1, 0, 0), (.getfield 96, 3, 12, 31), (.iload 5, 2, 0, 0), (.iaload, 1, 0, 0), (.if_icmp .eq 7, 3, 7, 0), (.iconst 1, 1, 0, 0), (.goto 4, 3, 8, 0)],
   [(.iconst 0, 1, 0, 0), (.nop, 0, 8, 0)],
   [(.istore 4, 2, 0, 0), (.iinc 6 1, 3, 0, 0), (.goto (-39), 3, 6, 0)],
   [(.iinc 5 1, 3, 0, 0), (.goto (-59), 3, 5, 0)],
   [(.iload 4, 2, 0, 0), (.ifCond .eq 11, 3, 11, 0), (.iload_n 3, 1, 0, 0), (.ifCond .ne 7, 3, 11, 0), (.iconst 1, 1, 0, 0), (.goto 4, 3, 12, 0)],
   [(.iconst 0, 1, 0, 0), (.nop, 0, 12, 0)],
   [(.ireturn, 1, 0, 0)]],
  [], (7, 0, 0, 12), [], ⟨"SlidingtrayModel", "isPlace", "(II)Z"⟩, prog_14_method_25_code, (some .boolean), [])
abbrev jm179p : List Nat := [0, 13, 57, 58, 66, 69, 83, 116, 117, 125, 131, 144, 145]
/-- SlidingtrayModel.placeAt(I)I -/
def jm180 : jM := (
  [[(.iconst 0, 1, 0, 0), (.istore_n 2, 1, 0, 0), (.iconst 0, 1, 0, 0), (.istore_n 3, 1, 0, 0), (.nop, 0, 1, 0)],
   [(.iload_n 3, 1, 0, 0), (.aload_n 0, 1, 0, 0), (.getfield 90, 3, 12, 29), (.iload_n 1, 1, 0, 0), (.iaload, 1, 0, 0), (.if_icmp .gt 21, 3, 2, 0), (.bipush 9, 2, 0, 0), (.iload_n 2, 1, 0, 0), (.imul, 1, 0, 0), (.aload_n 0, 1, 0, 0), (.getfield 96, 3, 12, 31), (.iload_n 3, 1, 0, 0), (.iaload, 1, 0, 0), (.iadd, 1, 0, 0), (.istore_n 2, 1, 0, 0), (.iinc 3 1, 3, 0, 0), (.goto (-25), 3, 1, 0)],
   [(.iload_n 2, 1, 0, 0), (.ireturn, 1, 0, 0)]],
  [], (4, 0, 0, 12), [], ⟨"SlidingtrayModel", "placeAt", "(I)I"⟩, prog_14_method_26_code, (some .int), [])
abbrev jm180p : List Nat := [0, 4, 32]
/-- SlidingtrayModel.moves(II)I -/
def jm181 : jM := (
  [[(.aload_n 0, 1, 0, 0), (.getfield 90, 3, 12, 29), (.iload_n 1, 1, 0, 0), (.iaload, 1, 0, 0), (.istore_n 3, 1, 0, 0), (.aload_n 0, 1, 0, 0), (.getfield 16, 3, 12, 2), (.iconst 4, 1, 0, 0), (.aload_n 0, 1, 0, 0), (.getfield 96, 3, 12, 31), (.iload_n 3, 1, 0, 0), (.iaload, 1, 0, 0), (.imul, 1, 0, 0), (.iload_n 2, 1, 0, 0), (.iadd, 1, 0, 0), (.iaload, 1, 0, 0), (.istore 4, 2, 0, 0), (.iload 4, 2, 0, 0), (.iconst (-1), 1, 0, 0), (.if_icmp .ne 5, 3, 1, 0), (.iconst (-1), 1, 0, 0), (.ireturn, 1, 0, 0)],
   [(.iconst 0, 1, 0, 0), (.istore 5, 2, 0, 0), (.iconst 0, 1, 0, 0), (.istore 6, 2, 0, 0), (.nop, 0, 2, 0)],
   [(.iload 6, 2, 0, 0), (.iload_n 3, 1, 0, 0), (.if_icmp .ge 52, 3, 4, 0), (.aload_n 0, 1, 0, 0), (.getfield 96, 3, 12, 31), (.iload 6, 2, 0, 0), (.iaload, 1, 0, 0), (.iload 4, 2, 0, 0), (.if_icmp .ne 34, 3, 3, 0), (.aload_n 0, 1, 0, 0), (.getfield 39, 3, 12, 11), (.aload_n 0, 1, 0, 0), (.getfield 87, 3, 12, 28), (.iconst 3, 1, 0, 0), (.iload_n 1, 1, 0, 0), (.imul, 1, 0, 0), (.iload 6, 2, 0, 0), (.iadd, 1, 0, 0), (.iaload, 1, 0, 0), (.iaload, 1, 0, 0), (.istore 5, 2, 0, 0), (.aload_n 0, 1, 0, 0), (.getfield 96, 3, 12, 31), (.iload 6, 2, 0, 0), (.aload_n 0, 1, 0, 0), (.getfield 96, 3, 12, 31), (.iload_n 3, 1, 0, 0), (.iaload, 1, 0, 0), (.iastore, 1, 0, 0), (.nop, 0, 3, 0)],
   [(.iinc 6 1, 3, 0, 0), (.goto (-52), 3, 2, 0)],
   [(.aload_n 0, 1, 0, 0), (.getfield 96, 3, 12, 31), (.iload_n 3, 1, 0, 0), (.iload 4, 2, 0, 0), (.iastore, 1, 0, 0), (.iload 5, 2, 0, 0), (.ireturn, 1, 0, 0)]],
  [], (7, 0, 0, 12), [], ⟨"SlidingtrayModel", "moves", "(II)I"⟩, prog_14_method_27_code, (some .int), [])
abbrev jm181p : List Nat := [0, 32, 38, 87, 93]
/-- SlidingtrayModel.isPartGoal(I)Z -/
def jm182 : jM := (
  [[(.iconst 1, 1, 0, 0), (.istore_n 2, 1, 0, 0), (.iconst 0, 1, 0, 0), (.istore_n 3, 1, 0, 0), (.nop, 0, 1, 0)],
   [(.iload_n 3, 1, 0, 0), (.aload_n 0, 1, 0, 0), (.getfield 90, 3, 12, 29), (.iload_n 1, 1, 0, 0), (.iaload, 1, 0, 0), (.if_icmp .ge 43, 3, 4, 0), (.iload_n 2, 1, 0, 0), (.ifCond .eq 31, 3, 2, 0), (.aload_n 0, 1, 0, 0), (.getfield 96, 3, 12, 31), (.iload_n 3, 1, 0, 0), (.iaload, 1, 0, 0), (.aload_n 0, 1, 0, 0), (.getfield 36, 3, 12, 10), (.aload_n 0, 1, 0, 0), (.getfield 87, 3, 12, 28), (.iconst 3, 1, 0, 0), (.iload_n 1, 1, 0, 0), (.imul, 1, 0, 0), (.iload_n 3, 1, 0, 0), (.iadd, 1, 0, 0), (.iaload, 1, 0, 0), (.iaload, 1, 0, 0), (.if_icmp .ne 7, 3, 2, 0), (.iconst 1, 1, 0, 0), (.goto 4, 3, 3, 0)],
   [(.iconst 0, 1, 0, 0), (.nop, 0, 3, 0)],
   [(.istore_n 2, 1, 0, 0), (.iinc 3 1, 3, 0, 0), (.goto (-47), 3, 1, 0)],
   [(.iload_n 2, 1, 0, 0), (.ireturn, 1, 0, 0)]],
  [], (4, 0, 0, 12), [], ⟨"SlidingtrayModel", "isPartGoal", "(I)Z"⟩, prog_14_method_28_code, (some .boolean), [])
abbrev jm182p : List Nat := [0, 4, 46, 47, 54]
/-- SlidingtrayModel.fills(I)I -/
def jm183 : jM := (
  [[(.bipush 9, 2, 0, 0), (.istore_n 2, 1, 0, 0), (.iconst 0, 1, 0, 0), (.istore_n 3, 1, 0, 0), (.nop, 0, 1, 0)],
   [(.iload_n 3, 1, 0, 0), (.aload_n 0, 1, 0, 0), (.getfield 90, 3, 12, 29), (.iload_n 1, 1, 0, 0), (.iaload, 1, 0, 0), (.if_icmp .ge 14, 3, 2, 0), (.iload_n 2, 1, 0, 0), (.bipush 9, 2, 0, 0), (.imul, 1, 0, 0), (.istore_n 2, 1, 0, 0), (.iinc 3 1, 3, 0, 0), (.goto (-18), 3, 1, 0)],
   [(.sipush 6561, 3, 0, 0), (.iload_n 1, 1, 0, 0), (.imul, 1, 0, 0), (.istore_n 3, 1, 0, 0), (.iconst 0, 1, 0, 0), (.istore 4, 2, 0, 0), (.nop, 0, 3, 0)],
   [(.iload 4, 2, 0, 0), (.iload_n 2, 1, 0, 0), (.if_icmp .ge 42, 3, 6, 0), (.aload_n 0, 1, 0, 0), (.getfield 93, 3, 12, 30), (.iload_n 3, 1, 0, 0), (.iload 4, 2, 0, 0), (.iadd, 1, 0, 0), (.aload_n 0, 1, 0, 0), (.iload_n 1, 1, 0, 0), (.iload 4, 2, 0, 0), (.invokevirtual 245, 3, 179, 3), (.ifCond .eq 15, 3, 4, 0), (.aload_n 0, 1, 0, 0), (.iload_n 1, 1, 0, 0), (.invokevirtual 249, 3, 182, 2), (.ifCond .eq 7, 3, 4, 0), (.iconst 0, 1, 0, 0), (.goto 5, 3, 5, 0)],
   [(.ldc 199, 2, 1000000000, 0), (.nop, 0, 5, 0)],
   [(.iastore, 1, 0, 0), (.iinc 4 1, 3, 0, 0), (.goto (-42), 3, 3, 0)],
   [(.iconst 1, 1, 0, 0), (.istore 4, 2, 0, 0), (.nop, 0, 7, 0)],
   [(.iload 4, 2, 0, 0), (.ifCond .eq 124, 3, 15, 0), (.iconst 0, 1, 0, 0), (.istore 4, 2, 0, 0), (.iconst 0, 1, 0, 0), (.istore 5, 2, 0, 0), (.nop, 0, 8, 0)],
   [(.iload 5, 2, 0, 0), (.iload_n 2, 1, 0, 0), (.if_icmp .ge 109, 3, 14, 0), (.iconst 0, 1, 0, 0), (.istore 6, 2, 0, 0), (.nop, 0, 9, 0)],
   [(.iload 6, 2, 0, 0), (.iconst 4, 1, 0, 0), (.if_icmp .ge 94, 3, 13, 0), (.aload_n 0, 1, 0, 0), (.iload_n 1, 1, 0, 0), (.iload 5, 2, 0, 0), (.invokevirtual 245, 3, 179, 3), (.ifCond .eq 84, 3, 13, 0), (.aload_n 0, 1, 0, 0), (.iload_n 1, 1, 0, 0), (.iload 6, 2, 0, 0), (.invokevirtual 253, 3, 181, 3), (.istore 7, 2, 0, 0), (.iload 7, 2, 0, 0), (.iconst (-1), 1, 0, 0), (.if_icmp .ne 8, 3, 10, 0), (.ldc 199, 2, 1000000000, 0), (.goto 15, 3, 11, 0)],
   [(.aload_n 0, 1, 0, 0), (.getfield 93, 3, 12, 30), (.iload_n 3, 1, 0, 0), (.aload_n 0, 1, 0, 0), (.iload_n 1, 1, 0, 0), (.invokevirtual 256, 3, 180, 2), (.iadd, 1, 0, 0), (.iaload, 1, 0, 0), (.nop, 0, 11, 0)],
   [(.istore 8, 2, 0, 0), (.iload 8, 2, 0, 0), (.ldc 199, 2, 1000000000, 0), (.if_icmp .ge 37, 3, 12, 0), (.iload 8, 2, 0, 0), (.iload 7, 2, 0, 0), (.iadd, 1, 0, 0), (.aload_n 0, 1, 0, 0), (.getfield 93, 3, 12, 30), (.iload_n 3, 1, 0, 0), (.iload 5, 2, 0, 0), (.iadd, 1, 0, 0), (.iaload, 1, 0, 0), (.if_icmp .ge 20, 3, 12, 0), (.aload_n 0, 1, 0, 0), (.getfield 93, 3, 12, 30), (.iload_n 3, 1, 0, 0), (.iload 5, 2, 0, 0), (.iadd, 1, 0, 0), (.iload 8, 2, 0, 0), (.iload 7, 2, 0, 0), (.iadd, 1, 0, 0), (.iastore, 1, 0, 0), (.iconst 1, 1, 0, 0), (.istore 4, 2, 0, 0), (.nop, 0, 12, 0)],
   [(.iinc 6 1, 3, 0, 0), (.goto (-94), 3, 9, 0)],
   [(.iinc 5 1, 3, 0, 0), (.goto (-109), 3, 8, 0)],
   [(.goto (-123), 3, 7, 0)],
   [(.iconst 0, 1, 0, 0), (.istore 5, 2, 0, 0), (.iconst 0, 1, 0, 0), (.istore 6, 2, 0, 0), (.nop, 0, 16, 0)],
   [(.iload 6, 2, 0, 0), (.iload_n 2, 1, 0, 0), (.if_icmp .ge 33, 3, 19, 0), (.iload 5, 2, 0, 0), (.aload_n 0, 1, 0, 0), (.getfield 93, 3, 12, 30), (.iload_n 3, 1, 0, 0), (.iload 6, 2, 0, 0), (.iadd, 1, 0, 0), (.iaload, 1, 0, 0), (.ldc 199, 2, 1000000000, 0), (.if_icmp .ge 7, 3, 17, 0), (.iconst 1, 1, 0, 0), (.goto 4, 3, 18, 0)],
   [(.iconst 0, 1, 0, 0), (.nop, 0, 18, 0)],
   [(.iadd, 1, 0, 0), (.istore 5, 2, 0, 0), (.iinc 6 1, 3, 0, 0), (.goto (-33), 3, 16, 0)],
   [(.iload 5, 2, 0, 0), (.ireturn, 1, 0, 0)]],
  [], (9, 1, 26, 12), [], ⟨"SlidingtrayModel", "fills", "(I)I"⟩, prog_14_method_29_code, (some .int), [])
abbrev jm183p : List Nat := [0, 5, 26, 35, 71, 73, 80, 83, 94, 103, 139, 151, 194, 200, 206, 209, 215, 241, 242, 251]
/-- SlidingtrayModel.bits(I)I -/
def jm184 : jM := (
  [[(.iconst 0, 1, 0, 0), (.istore_n 1, 1, 0, 0), (.iconst 0, 1, 0, 0), (.istore_n 2, 1, 0, 0), (.nop, 0, 1, 0)],
   [(.iload_n 2, 1, 0, 0), (.bipush 31, 2, 0, 0), (.if_icmp .ge 17, 3, 2, 0), (.iload_n 1, 1, 0, 0), (.iload_n 0, 1, 0, 0), (.iload_n 2, 1, 0, 0), (.ishr, 1, 0, 0), (.iconst 1, 1, 0, 0), (.iand, 1, 0, 0), (.iadd, 1, 0, 0), (.istore_n 1, 1, 0, 0), (.iinc 2 1, 3, 0, 0), (.goto (-17), 3, 1, 0)],
   [(.iload_n 1, 1, 0, 0), (.ireturn, 1, 0, 0)]],
  [], (3, 0, 0, 12), [], ⟨"SlidingtrayModel", "bits", "(I)I"⟩, prog_14_method_30_code, (some .int), [])
abbrev jm184p : List Nat := [0, 4, 24]
/-- SlidingtrayModel.part(I)I -/
def jm185 : jM := (
  [[(.iload_n 1, 1, 0, 0), (.ifCond .le 31, 3, 1, 0), (.iload_n 1, 1, 0, 0), (.iconst 1, 1, 0, 0), (.iand, 1, 0, 0), (.ifCond .ne 25, 3, 1, 0), (.iload_n 1, 1, 0, 0), (.iconst 1, 1, 0, 0), (.aload_n 0, 1, 0, 0), (.getfield 170, 3, 12, 7), (.ishl, 1, 0, 0), (.if_icmp .ge 15, 3, 1, 0), (.iload_n 1, 1, 0, 0), (.invokestatic 259, 3, 184, 1), (.iconst 3, 1, 0, 0), (.if_icmp .gt 7, 3, 1, 0), (.iconst 1, 1, 0, 0), (.goto 4, 3, 2, 0)],
   [(.iconst 0, 1, 0, 0), (.nop, 0, 2, 0)],
   [(.istore_n 2, 1, 0, 0), (.iconst 1, 1, 0, 0), (.istore_n 3, 1, 0, 0), (.nop, 0, 3, 0)],
   [(.iload_n 3, 1, 0, 0), (.aload_n 0, 1, 0, 0), (.getfield 170, 3, 12, 7), (.if_icmp .ge 36, 3, 7, 0), (.iload_n 2, 1, 0, 0), (.ifCond .eq 32, 3, 7, 0), (.iload_n 1, 1, 0, 0), (.iload_n 3, 1, 0, 0), (.ishr, 1, 0, 0), (.iconst 1, 1, 0, 0), (.iand, 1, 0, 0), (.ifCond .eq 12, 3, 4, 0), (.aload_n 0, 1, 0, 0), (.getfield 42, 3, 12, 12), (.iload_n 3, 1, 0, 0), (.baload, 1, 0, 0), (.ifCond .ne 7, 3, 5, 0), (.nop, 0, 4, 0)],
   [(.iconst 1, 1, 0, 0), (.goto 4, 3, 6, 0)],
   [(.iconst 0, 1, 0, 0), (.nop, 0, 6, 0)],
   [(.istore_n 2, 1, 0, 0), (.iinc 3 1, 3, 0, 0), (.goto (-38), 3, 3, 0)],
   [(.iload_n 2, 1, 0, 0), (.ifCond .ne 9, 3, 8, 0), (.aload_n 0, 1, 0, 0), (.iconst 1, 1, 0, 0), (.invokevirtual 204, 3, 158, 2), (.ireturn, 1, 0, 0)],
   [(.iconst 0, 1, 0, 0), (.istore_n 3, 1, 0, 0), (.iconst 0, 1, 0, 0), (.istore 4, 2, 0, 0), (.nop, 0, 9, 0)],
   [(.iload 4, 2, 0, 0), (.aload_n 0, 1, 0, 0), (.getfield 181, 3, 12, 32), (.if_icmp .ge 60, 3, 15, 0), (.iconst 0, 1, 0, 0), (.istore 5, 2, 0, 0), (.nop, 0, 10, 0)],
   [(.iload 5, 2, 0, 0), (.aload_n 0, 1, 0, 0), (.getfield 90, 3, 12, 29), (.iload 4, 2, 0, 0), (.iaload, 1, 0, 0), (.if_icmp .ge 39, 3, 14, 0), (.iload_n 3, 1, 0, 0), (.ifCond .ne 23, 3, 11, 0), (.iload_n 1, 1, 0, 0), (.aload_n 0, 1, 0, 0), (.getfield 87, 3, 12, 28), (.iconst 3, 1, 0, 0), (.iload 4, 2, 0, 0), (.imul, 1, 0, 0), (.iload 5, 2, 0, 0), (.iadd, 1, 0, 0), (.iaload, 1, 0, 0), (.ishr, 1, 0, 0), (.iconst 1, 1, 0, 0), (.iand, 1, 0, 0), (.iconst 1, 1, 0, 0), (.if_icmp .ne 7, 3, 12, 0), (.nop, 0, 11, 0)],
   [(.iconst 1, 1, 0, 0), (.goto 4, 3, 13, 0)],
   [(.iconst 0, 1, 0, 0), (.nop, 0, 13, 0)],
   [(.istore_n 3, 1, 0, 0), (.iinc 5 1, 3, 0, 0), (.goto (-45), 3, 10, 0)],
   [(.iinc 4 1, 3, 0, 0), (.goto (-63), 3, 9, 0)],
   [(.aload_n 0, 1, 0, 0), (.getfield 181, 3, 12, 32), (.iconst 2, 1, 0, 0), (.if_icmp .eq 16, 3, 16, 0), (.iload_n 3, 1, 0, 0), (.ifCond .ne 12, 3, 16, 0), (.aload_n 0, 1, 0, 0), (.getfield 170, 3, 12, 7), (.bipush 9, 2, 0, 0), (.if_icmp .le 9, 3, 17, 0), (.nop, 0, 16, 0)],
   [(.aload_n 0, 1, 0, 0), (.iconst 2, 1, 0, 0), (.invokevirtual 204, 3, 158, 2), (.ireturn, 1, 0, 0)],
   [(.aload_n 0, 1, 0, 0), (.getfield 90, 3, 12, 29), (.aload_n 0, 1, 0, 0), (.getfield 181, 3, 12, 32), (.iconst 0, 1, 0, 0), (.iastore, 1, 0, 0), (.iconst 1, 1, 0, 0), (.istore 4, 2, 0, 0), (.nop, 0, 18, 0)],
   [(.iload 4, 2, 0, 0), (.aload_n 0, 1, 0, 0), (.getfield 170, 3, 12, 7), (.if_icmp .ge 55, 3, 20, 0), (.iload_n 1, 1, 0, 0), (.iload 4, 2, 0, 0), (.ishr, 1, 0, 0), (.iconst 1, 1, 0, 0), (.iand, 1, 0, 0), (.iconst 1, 1, 0, 0), (.if_icmp .ne 39, 3, 19, 0), (.aload_n 0, 1, 0, 0), (.getfield 87, 3, 12, 28), (.iconst 3, 1, 0, 0), (.aload_n 0, 1, 0, 0), (.getfield 181, 3, 12, 32), (.imul, 1, 0, 0), (.aload_n 0, 1, 0, 0), (.getfield 90, 3, 12, 29), (.aload_n 0, 1, 0, 0), (.getfield 181, 3, 12, 32), (.iaload, 1, 0, 0), (.iadd, 1, 0, 0), (.iload 4, 2, 0, 0), (.iastore, 1, 0, 0), (.aload_n 0, 1, 0, 0), (.getfield 90, 3, 12, 29), (.aload_n 0, 1, 0, 0), (.getfield 181, 3, 12, 32), (.dup2, 1, 0, 0), (.iaload, 1, 0, 0), (.iconst 1, 1, 0, 0), (.iadd, 1, 0, 0), (.iastore, 1, 0, 0), (.nop, 0, 19, 0)],
   [(.iinc 4 1, 3, 0, 0), (.goto (-58), 3, 18, 0)],
   [(.aload_n 0, 1, 0, 0), (.aload_n 0, 1, 0, 0), (.getfield 181, 3, 12, 32), (.invokevirtual 262, 3, 183, 2), (.istore 4, 2, 0, 0), (.aload_n 0, 1, 0, 0), (.dup, 1, 0, 0), (.getfield 181, 3, 12, 32), (.iconst 1, 1, 0, 0), (.iadd, 1, 0, 0), (.putfield 181, 3, 48, 32), (.aload_n 0, 1, 0, 0), (.iload 4, 2, 0, 0), (.invokevirtual 215, 3, 159, 2), (.ireturn, 1, 0, 0)]],
  [], (6, 2, 54, 12), [], ⟨"SlidingtrayModel", "part", "(I)I"⟩, prog_14_method_31_code, (some .int), [])
abbrev jm185p : List Nat := [0, 32, 33, 36, 65, 69, 70, 77, 87, 92, 104, 140, 144, 145, 152, 158, 179, 185, 198, 253, 259]
/-- SlidingtrayModel.isGoal([I)Z -/
def jm186 : jM := (
  [[(.iconst 1, 1, 0, 0), (.istore_n 2, 1, 0, 0), (.iconst 0, 1, 0, 0), (.istore_n 3, 1, 0, 0), (.nop, 0, 1, 0)],
   [(.iload_n 3, 1, 0, 0), (.aload_n 0, 1, 0, 0), (.getfield 170, 3, 12, 7), (.if_icmp .ge 42, 3, 5, 0), (.iload_n 2, 1, 0, 0), (.ifCond .eq 30, 3, 3, 0), (.aload_n 0, 1, 0, 0), (.getfield 42, 3, 12, 12), (.aload_n 1, 1, 0, 0), (.iload_n 3, 1, 0, 0), (.iaload, 1, 0, 0), (.baload, 1, 0, 0), (.ifCond .ne 15, 3, 2, 0), (.aload_n 0, 1, 0, 0), (.getfield 36, 3, 12, 10), (.aload_n 1, 1, 0, 0), (.iload_n 3, 1, 0, 0), (.iaload, 1, 0, 0), (.iaload, 1, 0, 0), (.iload_n 3, 1, 0, 0), (.if_icmp .ne 7, 3, 3, 0), (.nop, 0, 2, 0)],
   [(.iconst 1, 1, 0, 0), (.goto 4, 3, 4, 0)],
   [(.iconst 0, 1, 0, 0), (.nop, 0, 4, 0)],
   [(.istore_n 2, 1, 0, 0), (.iinc 3 1, 3, 0, 0), (.goto (-44), 3, 1, 0)],
   [(.iload_n 2, 1, 0, 0), (.ireturn, 1, 0, 0)]],
  [], (4, 0, 0, 12), [], ⟨"SlidingtrayModel", "isGoal", "([I)Z"⟩, prog_14_method_32_code, (some .boolean), [])
abbrev jm186p : List Nat := [0, 4, 39, 43, 44, 51]
/-- SlidingtrayModel.goes([II)I -/
def jm187 : jM := (
  [[(.aload_n 0, 1, 0, 0), (.aload_n 1, 1, 0, 0), (.invokevirtual 242, 3, 166, 2), (.istore_n 3, 1, 0, 0), (.aload_n 0, 1, 0, 0), (.getfield 16, 3, 12, 2), (.iconst 4, 1, 0, 0), (.iload_n 3, 1, 0, 0), (.imul, 1, 0, 0), (.iload_n 2, 1, 0, 0), (.iadd, 1, 0, 0), (.iaload, 1, 0, 0), (.istore 4, 2, 0, 0), (.iload 4, 2, 0, 0), (.iconst (-1), 1, 0, 0), (.if_icmp .ne 5, 3, 1, 0), (.iconst (-1), 1, 0, 0), (.ireturn, 1, 0, 0)],
   [(.aload_n 1, 1, 0, 0), (.iload 4, 2, 0, 0), (.iaload, 1, 0, 0), (.istore 5, 2, 0, 0), (.aload_n 1, 1, 0, 0), (.iload_n 3, 1, 0, 0), (.iload 5, 2, 0, 0), (.iastore, 1, 0, 0), (.aload_n 1, 1, 0, 0), (.iload 4, 2, 0, 0), (.iconst 0, 1, 0, 0), (.iastore, 1, 0, 0), (.aload_n 0, 1, 0, 0), (.getfield 39, 3, 12, 11), (.iload 5, 2, 0, 0), (.iaload, 1, 0, 0), (.ireturn, 1, 0, 0)]],
  [], (6, 1, 22, 12), [], ⟨"SlidingtrayModel", "goes", "([II)I"⟩, prog_14_method_33_code, (some .int), [])
abbrev jm187p : List Nat := [0, 26]
/-- SlidingtrayModel.lay(J)I -/
def jm188 : jM := (
  [[(.lload_n 1, 1, 0, 0), (.lconst 0, 1, 0, 0), (.lcmp, 1, 0, 0), (.ifCond .lt 12, 3, 1, 0), (.lload_n 1, 1, 0, 0), (.aload_n 0, 1, 0, 0), (.invokevirtual 221, 3, 171, 1), (.lcmp, 1, 0, 0), (.ifCond .lt 9, 3, 2, 0), (.nop, 0, 1, 0)],
   [(.aload_n 0, 1, 0, 0), (.iconst 1, 1, 0, 0), (.invokevirtual 204, 3, 158, 2), (.ireturn, 1, 0, 0)],
   [(.aload_n 0, 1, 0, 0), (.lload_n 1, 1, 0, 0), (.aload_n 0, 1, 0, 0), (.getfield 33, 3, 12, 9), (.invokevirtual 265, 3, 172, 3), (.aload_n 0, 1, 0, 0), (.iconst 0, 1, 0, 0), (.putfield 184, 3, 48, 17), (.aload_n 0, 1, 0, 0), (.aload_n 0, 1, 0, 0), (.getfield 7, 3, 12, 0), (.aload_n 0, 1, 0, 0), (.aload_n 0, 1, 0, 0), (.getfield 33, 3, 12, 9), (.invokevirtual 242, 3, 166, 2), (.iaload, 1, 0, 0), (.invokevirtual 215, 3, 159, 2), (.ireturn, 1, 0, 0)]],
  [], (3, 2, 53, 12), [], ⟨"SlidingtrayModel", "lay", "(J)I"⟩, prog_14_method_34_code, (some .int), [])
abbrev jm188p : List Nat := [0, 15, 21]
