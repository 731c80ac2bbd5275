/-! instructions of the methods 184 to 194 -/
-- java/lang/String.length()I
def am_rw184 : List (List (Option am_E)) := [[some (1, .aload_n 0, 0, 0, 0), some (3, .getfield 9, 50, 0, 0), none, none, some (1, .arraylength, 0, 0, 0), some (1, .aload_n 0, 0, 0, 0), some (3, .invokevirtual 335, 180, 0, 0), none, none, some (1, .ishr, 0, 0, 0), some (1, .ireturn, 0, 0, 0)]]
def am_rc185 : am_RC := (⟨"java/lang/String", "length", "()I"⟩, prog_25_method_54_code, 1, some .int, 1, 50, [], am_rw184)
-- java/lang/StringLatin1.canEncode(I)Z
def am_rw185 : List (List (Option am_E)) := [[some (1, .iload_n 0, 0, 0, 0), some (3, .ifCond .lt 14, 0, 0, 0), none, none, some (1, .iload_n 0, 0, 0, 0), some (3, .sipush 255, 0, 0, 0), none, none, some (3, .if_icmp .gt 7, 0, 0, 0), none, none, some (1, .iconst 1, 0, 0, 0), some (3, .goto 4, 0, 0, 0), none, none, some (1, .iconst 0, 0, 0, 0)],
  [some (1, .ireturn, 0, 0, 0)]]
def am_rc186 : am_RC := (⟨"java/lang/StringLatin1", "canEncode", "(I)Z"⟩, prog_27_method_4_code, 1, some .boolean, 1, 0, [], am_rw185)
-- java/lang/StringLatin1.charAt([BI)C
def am_rw186 : List (List (Option am_E)) := [[some (1, .iload_n 1, 0, 0, 0), some (1, .aload_n 0, 0, 0, 0), some (1, .arraylength, 0, 0, 0), some (3, .invokestatic 9, 179, 0, 0), none, none, some (1, .aload_n 0, 0, 0, 0), some (1, .iload_n 1, 0, 0, 0), some (1, .baload, 0, 0, 0), some (3, .sipush 255, 0, 0, 0), none, none, some (1, .iand, 0, 0, 0), some (1, .i2c, 0, 0, 0), some (1, .ireturn, 0, 0, 0)]]
def am_rc187 : am_RC := (⟨"java/lang/StringLatin1", "charAt", "([BI)C"⟩, prog_27_method_2_code, 2, some .char, 2, 0, [], am_rw186)
-- java/lang/StringLatin1.indexOf([BIII)I
def am_rw187 : List (List (Option am_E)) := [[some (1, .iload_n 1, 0, 0, 0), some (3, .invokestatic 88, 185, 0, 0), none, none, some (3, .ifCond .ne 5, 0, 0, 0), none, none, some (1, .iconst (-1), 0, 0, 0), some (1, .ireturn, 0, 0, 0), some (1, .iload_n 2, 0, 0, 0), some (1, .iconst 0, 0, 0, 0), some (3, .invokestatic 92, 900, 0, 0), none, none, some (1, .istore_n 2, 0, 0, 0), some (1, .iload_n 3, 0, 0, 0)],
  [some (1, .aload_n 0, 0, 0, 0), some (1, .arraylength, 0, 0, 0), some (3, .invokestatic 38, 901, 0, 0), none, none, some (1, .istore_n 3, 0, 0, 0), some (1, .iload_n 2, 0, 0, 0), some (1, .iload_n 3, 0, 0, 0), some (3, .if_icmp .lt 5, 0, 0, 0), none, none, some (1, .iconst (-1), 0, 0, 0), some (1, .ireturn, 0, 0, 0), some (1, .aload_n 0, 0, 0, 0), some (1, .iload_n 1, 0, 0, 0), some (1, .iload_n 2, 0, 0, 0)],
  [some (1, .iload_n 3, 0, 0, 0), some (3, .invokestatic 95, 188, 0, 0), none, none, some (1, .ireturn, 0, 0, 0)]]
def am_rc188 : am_RC := (⟨"java/lang/StringLatin1", "indexOf", "([BIII)I"⟩, prog_27_method_22_code, 4, some .int, 4, 0, [], am_rw187)
-- java/lang/StringLatin1.indexOfChar([BIII)I
def am_rw188 : List (List (Option am_E)) := [[some (1, .iload_n 1, 0, 0, 0), some (1, .i2b, 0, 0, 0), some (2, .istore 4, 0, 0, 0), none, some (1, .iload_n 2, 0, 0, 0), some (2, .istore 5, 0, 0, 0), none, some (2, .iload 5, 0, 0, 0), none, some (1, .iload_n 3, 0, 0, 0), some (3, .if_icmp .ge 21, 0, 0, 0), none, none, some (1, .aload_n 0, 0, 0, 0), some (2, .iload 5, 0, 0, 0), none],
  [some (1, .baload, 0, 0, 0), some (2, .iload 4, 0, 0, 0), none, some (3, .if_icmp .ne 6, 0, 0, 0), none, none, some (2, .iload 5, 0, 0, 0), none, some (1, .ireturn, 0, 0, 0), some (3, .iinc 5 1, 0, 0, 0), none, none, some (3, .goto (-21), 0, 0, 0), none, none, some (1, .iconst (-1), 0, 0, 0)],
  [some (1, .ireturn, 0, 0, 0)]]
def am_rc189 : am_RC := (⟨"java/lang/StringLatin1", "indexOfChar", "([BIII)I"⟩, prog_27_method_23_code, 6, some .int, 4, 0, [], am_rw188)
-- jdk/internal/util/Preconditions.checkIndex(IILjava/util/function/BiFunction;)I
def am_rw189 : List (List (Option am_E)) := [[some (1, .iload_n 0, 0, 0, 0), some (3, .ifCond .lt 8, 0, 0, 0), none, none, some (1, .iload_n 0, 0, 0, 0), some (1, .iload_n 1, 0, 0, 0), some (3, .if_icmp .lt 10, 0, 0, 0), none, none, none, none, none, none, none, none, none],
  [some (1, .iload_n 0, 0, 0, 0), some (1, .ireturn, 0, 0, 0)]]
def am_rc190 : am_RC := (⟨"jdk/internal/util/Preconditions", "checkIndex", "(IILjava/util/function/BiFunction;)I"⟩, prog_34_method_11_code, 3, some .int, 3, 0, [], am_rw189)
-- java/util/Arrays.fill([II)V
def am_rw190 : List (List (Option am_E)) := [[some (1, .iconst 0, 0, 0, 0), some (1, .istore_n 2, 0, 0, 0), some (1, .aload_n 0, 0, 0, 0), some (1, .arraylength, 0, 0, 0), some (1, .istore_n 3, 0, 0, 0), some (1, .iload_n 2, 0, 0, 0), some (1, .iload_n 3, 0, 0, 0), some (3, .if_icmp .ge 13, 0, 0, 0), none, none, some (1, .aload_n 0, 0, 0, 0), some (1, .iload_n 2, 0, 0, 0), some (1, .iload_n 1, 0, 0, 0), some (1, .iastore, 0, 0, 0), some (3, .iinc 2 1, 0, 0, 0), none],
  [none, some (3, .goto (-12), 0, 0, 0), none, none, some (1, .return_, 0, 0, 0)]]
def am_rc191 : am_RC := (⟨"java/util/Arrays", "fill", "([II)V"⟩, prog_32_method_103_code, 4, none, 2, 0, [], am_rw190)
-- java/util/Arrays.fill([IIII)V
def am_rw191 : List (List (Option am_E)) := [[some (1, .aload_n 0, 0, 0, 0), some (1, .arraylength, 0, 0, 0), some (1, .iload_n 1, 0, 0, 0), some (1, .iload_n 2, 0, 0, 0), some (3, .invokestatic 13, 194, 0, 0), none, none, some (1, .iload_n 1, 0, 0, 0), some (2, .istore 4, 0, 0, 0), none, some (2, .iload 4, 0, 0, 0), none, some (1, .iload_n 2, 0, 0, 0), some (3, .if_icmp .ge 14, 0, 0, 0), none, none],
  [some (1, .aload_n 0, 0, 0, 0), some (2, .iload 4, 0, 0, 0), none, some (1, .iload_n 3, 0, 0, 0), some (1, .iastore, 0, 0, 0), some (3, .iinc 4 1, 0, 0, 0), none, none, some (3, .goto (-14), 0, 0, 0), none, none, some (1, .return_, 0, 0, 0)]]
def am_rc192 : am_RC := (⟨"java/util/Arrays", "fill", "([IIII)V"⟩, prog_32_method_104_code, 5, none, 4, 0, [], am_rw191)
-- java/util/Arrays.fill([JIIJ)V
def am_rw192 : List (List (Option am_E)) := [[some (1, .aload_n 0, 0, 0, 0), some (1, .arraylength, 0, 0, 0), some (1, .iload_n 1, 0, 0, 0), some (1, .iload_n 2, 0, 0, 0), some (3, .invokestatic 13, 194, 0, 0), none, none, some (1, .iload_n 1, 0, 0, 0), some (2, .istore 5, 0, 0, 0), none, some (2, .iload 5, 0, 0, 0), none, some (1, .iload_n 2, 0, 0, 0), some (3, .if_icmp .ge 14, 0, 0, 0), none, none],
  [some (1, .aload_n 0, 0, 0, 0), some (2, .iload 5, 0, 0, 0), none, some (1, .lload_n 3, 0, 0, 0), some (1, .lastore, 0, 0, 0), some (3, .iinc 5 1, 0, 0, 0), none, none, some (3, .goto (-14), 0, 0, 0), none, none, some (1, .return_, 0, 0, 0)]]
def am_rc193 : am_RC := (⟨"java/util/Arrays", "fill", "([JIIJ)V"⟩, prog_32_method_102_code, 6, none, 4, 0, [], am_rw192)
-- java/util/Arrays.fill([JJ)V
def am_rw193 : List (List (Option am_E)) := [[some (1, .iconst 0, 0, 0, 0), some (1, .istore_n 3, 0, 0, 0), some (1, .aload_n 0, 0, 0, 0), some (1, .arraylength, 0, 0, 0), some (2, .istore 4, 0, 0, 0), none, some (1, .iload_n 3, 0, 0, 0), some (2, .iload 4, 0, 0, 0), none, some (3, .if_icmp .ge 13, 0, 0, 0), none, none, some (1, .aload_n 0, 0, 0, 0), some (1, .iload_n 3, 0, 0, 0), some (1, .lload_n 1, 0, 0, 0), some (1, .lastore, 0, 0, 0)],
  [some (3, .iinc 3 1, 0, 0, 0), none, none, some (3, .goto (-13), 0, 0, 0), none, none, some (1, .return_, 0, 0, 0)]]
def am_rc194 : am_RC := (⟨"java/util/Arrays", "fill", "([JJ)V"⟩, prog_32_method_101_code, 5, none, 2, 0, [], am_rw193)
-- java/util/Arrays.rangeCheck(III)V
def am_rw194 : List (List (Option am_E)) := [[some (1, .iload_n 1, 0, 0, 0), some (1, .iload_n 2, 0, 0, 0), some (3, .if_icmp .le 44, 0, 0, 0), none, none, none, none, none, none, none, none, none, none, none, none, none],
  [none, none, none, none, none, none, none, none, none, none, none, none, none, none, none, none],
  [none, none, none, none, none, none, none, none, none, none, none, none, none, none, some (1, .iload_n 1, 0, 0, 0), some (3, .ifCond .ge 12, 0, 0, 0)],
  [none, none, none, none, none, none, none, none, none, none, none, some (1, .iload_n 2, 0, 0, 0), some (1, .iload_n 0, 0, 0, 0), some (3, .if_icmp .le 12, 0, 0, 0), none, none],
  [none, none, none, none, none, none, none, none, none, some (1, .return_, 0, 0, 0)]]
def am_rc195 : am_RC := (⟨"java/util/Arrays", "rangeCheck", "(III)V"⟩, prog_32_method_30_code, 3, none, 3, 0, [], am_rw194)
