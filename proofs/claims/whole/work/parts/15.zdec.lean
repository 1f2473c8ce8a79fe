/-! DECODE: what the tables say is what the bytes say, and small facts of each instruction -/
def zj (pc : Nat) (o : Int) : Bool := decide (0 ≤ (pc : Int) + o)
def zcs (lo : Int) : Nat → Bool
  | 0 => true
  | n + 1 => decide (zcst (lo + n) = Int32.ofInt (lo + n)) && zcs lo n
def zchk (mi pc : Nat) (ins : Instr) (len : Nat) : Bool := match ins with
  | .iconst n => Nat.beq len 1 && decide (Int32.ofInt n = zcst n)
  | .bipush n => Nat.beq len 2 && decide ((Int8.ofInt n).toInt32 = zcst n)
  | .sipush n => Nat.beq len 3 && decide ((Int16.ofInt n).toInt32 = zcst n)
  | .iload _ => Nat.beq len 2
  | .aload _ => Nat.beq len 2
  | .lload _ => Nat.beq len 2
  | .istore n => Nat.beq len 2 && Nat.blt n (zmx mi)
  | .astore n => Nat.beq len 2 && Nat.blt n (zmx mi)
  | .lstore n => Nat.beq len 2 && Nat.blt (n + 1) (zmx mi)
  | .istore_n n => Nat.beq len 1 && Nat.blt n.val (zmx mi)
  | .astore_n n => Nat.beq len 1 && Nat.blt n.val (zmx mi)
  | .lstore_n n => Nat.beq len 1 && Nat.blt (n.val + 1) (zmx mi)
  | .iinc n c => Nat.beq len 3 && Nat.blt n (zmx mi) && decide (Int32.ofInt c = zcst c)
  | .goto o => Nat.beq len 3 && zj pc o
  | .ifCond _ o => Nat.beq len 3 && zj pc o
  | .if_icmp _ o => Nat.beq len 3 && zj pc o
  | .if_acmp _ o => Nat.beq len 3 && zj pc o
  | .ifnonnull o => Nat.beq len 3 && zj pc o
  | .tableswitch dflt lo hi offs => zj pc dflt && offs.toList.all (zj pc) && decide (lo + offs.size = hi + 1) && decide (-2147483648 ≤ lo) && decide (hi ≤ 2147483647) && zcs lo offs.size
  | .ldc n => Nat.beq len 2 && Nat.blt n 2048
  | .ldc_w n => Nat.beq len 3 && Nat.blt n 2048
  | .ldc2_w n => Nat.beq len 3 && Nat.blt n 2048
  | .getfield n => Nat.beq len 3 && Nat.blt n 2048
  | .putfield n => Nat.beq len 3 && Nat.blt n 2048 && (match zfld (zoc mi) n with | some (t, f, _) => !(zcT t f).2.2.2 | none => true)
  | .getstatic n => Nat.beq len 3 && Nat.blt n 2048
  | .invokevirtual n => Nat.beq len 3 && Nat.blt n 2048 && (match zmth (zoc mi) n with | some (mj, _, _) => (zsg mj).isSome | none => true)
  | .invokestatic n => Nat.beq len 3 && Nat.blt n 2048 && (match zmth (zoc mi) n with | some (mj, _, _) => Nat.ble 1000 mj || (zsg mj).isNone | none => true)
  | .invokespecial n => match zmth (zoc mi) n with | some _ => false | none => true
  | .new _ => Nat.beq len 3
  | .ireturn => Nat.beq len 1 && Nat.beq (zrk mi) 1
  | .lreturn => Nat.beq len 1 && Nat.beq (zrk mi) 2
  | .areturn => Nat.beq len 1 && Nat.beq (zrk mi) 3
  | .return_ => Nat.beq len 1 && Nat.beq (zrk mi) 0
  | .newarray _ => Nat.beq len 2
  | _ => Nat.beq len 1
def zckb (B : ByteArray) (mi pc : Nat) (o : Option (Instr × Nat)) : Bool := match o with
  | none => true
  | some (i, l) => decide (decode B pc = .ok (i, l)) && zchk mi pc i l
theorem zdk_0 : ∀ pc, pc < 115 → zckb (zby 0) 0 pc (zcode 0 pc) = true := by decide +kernel
theorem zdk_1 : ∀ pc, pc < 18 → zckb (zby 1) 1 pc (zcode 1 pc) = true := by decide +kernel
theorem zdk_2 : ∀ pc, pc < 30 → zckb (zby 2) 2 pc (zcode 2 pc) = true := by decide +kernel
theorem zdk_3 : ∀ pc, pc < 31 → zckb (zby 3) 3 pc (zcode 3 pc) = true := by decide +kernel
theorem zdk_4 : ∀ pc, pc < 36 → zckb (zby 4) 4 pc (zcode 4 pc) = true := by decide +kernel
theorem zdk_5 : ∀ pc, pc < 49 → zckb (zby 5) 5 pc (zcode 5 pc) = true := by decide +kernel
theorem zdk_6 : ∀ pc, pc < 65 → zckb (zby 6) 6 pc (zcode 6 pc) = true := by decide +kernel
theorem zdk_7 : ∀ pc, pc < 93 → zckb (zby 7) 7 pc (zcode 7 pc) = true := by decide +kernel
theorem zdk_8 : ∀ pc, pc < 70 → zckb (zby 8) 8 pc (zcode 8 pc) = true := by decide +kernel
theorem zdk_9 : ∀ pc, pc < 85 → zckb (zby 9) 9 pc (zcode 9 pc) = true := by decide +kernel
theorem zdk_10 : ∀ pc, pc < 39 → zckb (zby 10) 10 pc (zcode 10 pc) = true := by decide +kernel
theorem zdk_11 : ∀ pc, pc < 46 → zckb (zby 11) 11 pc (zcode 11 pc) = true := by decide +kernel
theorem zdk_12 : ∀ pc, pc < 44 → zckb (zby 12) 12 pc (zcode 12 pc) = true := by decide +kernel
theorem zdk_13 : ∀ pc, pc < 32 → zckb (zby 13) 13 pc (zcode 13 pc) = true := by decide +kernel
theorem zdk_14 : ∀ pc, pc < 63 → zckb (zby 14) 14 pc (zcode 14 pc) = true := by decide +kernel
theorem zdk_15 : ∀ pc, pc < 77 → zckb (zby 15) 15 pc (zcode 15 pc) = true := by decide +kernel
theorem zdk_16 : ∀ pc, pc < 82 → zckb (zby 16) 16 pc (zcode 16 pc) = true := by decide +kernel
theorem zdk_17 : ∀ pc, pc < 51 → zckb (zby 17) 17 pc (zcode 17 pc) = true := by decide +kernel
theorem zdk_18 : ∀ pc, pc < 75 → zckb (zby 18) 18 pc (zcode 18 pc) = true := by decide +kernel
theorem zdk_19 : ∀ pc, pc < 23 → zckb (zby 19) 19 pc (zcode 19 pc) = true := by decide +kernel
theorem zdk_20 : ∀ pc, pc < 63 → zckb (zby 20) 20 pc (zcode 20 pc) = true := by decide +kernel
theorem zdk_21 : ∀ pc, pc < 52 → zckb (zby 21) 21 pc (zcode 21 pc) = true := by decide +kernel
theorem zdk_22 : ∀ pc, pc < 43 → zckb (zby 22) 22 pc (zcode 22 pc) = true := by decide +kernel
theorem zdk_23 : ∀ pc, pc < 26 → zckb (zby 23) 23 pc (zcode 23 pc) = true := by decide +kernel
theorem zdk_24 : ∀ pc, pc < 141 → zckb (zby 24) 24 pc (zcode 24 pc) = true := by decide +kernel
theorem zdk_25 : ∀ pc, pc < 90 → zckb (zby 25) 25 pc (zcode 25 pc) = true := by decide +kernel
theorem zdk_26 : ∀ pc, pc < 37 → zckb (zby 26) 26 pc (zcode 26 pc) = true := by decide +kernel
theorem zdk_27 : ∀ pc, pc < 91 → zckb (zby 27) 27 pc (zcode 27 pc) = true := by decide +kernel
theorem zdk_28 : ∀ pc, pc < 53 → zckb (zby 28) 28 pc (zcode 28 pc) = true := by decide +kernel
theorem zdk_29 : ∀ pc, pc < 32 → zckb (zby 29) 29 pc (zcode 29 pc) = true := by decide +kernel
theorem zdk_30 : ∀ pc, pc < 100 → zckb (zby 30) 30 pc (zcode 30 pc) = true := by decide +kernel
theorem zdk_31 : ∀ pc, pc < 92 → zckb (zby 31) 31 pc (zcode 31 pc) = true := by decide +kernel
theorem zdk_32 : ∀ pc, pc < 32 → zckb (zby 32) 32 pc (zcode 32 pc) = true := by decide +kernel
theorem zdk_33 : ∀ pc, pc < 28 → zckb (zby 33) 33 pc (zcode 33 pc) = true := by decide +kernel
theorem zdk_34 : ∀ pc, pc < 25 → zckb (zby 34) 34 pc (zcode 34 pc) = true := by decide +kernel
theorem zdk_35 : ∀ pc, pc < 47 → zckb (zby 35) 35 pc (zcode 35 pc) = true := by decide +kernel
theorem zdk_36 : ∀ pc, pc < 22 → zckb (zby 36) 36 pc (zcode 36 pc) = true := by decide +kernel
theorem zdk_37 : ∀ pc, pc < 18 → zckb (zby 37) 37 pc (zcode 37 pc) = true := by decide +kernel
theorem zdk_38 : ∀ pc, pc < 29 → zckb (zby 38) 38 pc (zcode 38 pc) = true := by decide +kernel
theorem zdk_39 : ∀ pc, pc < 22 → zckb (zby 39) 39 pc (zcode 39 pc) = true := by decide +kernel
theorem zdk_40 : ∀ pc, pc < 13 → zckb (zby 40) 40 pc (zcode 40 pc) = true := by decide +kernel
theorem zdk_41 : ∀ pc, pc < 15 → zckb (zby 41) 41 pc (zcode 41 pc) = true := by decide +kernel
theorem zdk_42 : ∀ pc, pc < 43 → zckb (zby 42) 42 pc (zcode 42 pc) = true := by decide +kernel
theorem zdk_43 : ∀ pc, pc < 25 → zckb (zby 43) 43 pc (zcode 43 pc) = true := by decide +kernel
theorem zdk_44 : ∀ pc, pc < 25 → zckb (zby 44) 44 pc (zcode 44 pc) = true := by decide +kernel
theorem zdk_45 : ∀ pc, pc < 34 → zckb (zby 45) 45 pc (zcode 45 pc) = true := by decide +kernel
theorem zdk_46 : ∀ pc, pc < 38 → zckb (zby 46) 46 pc (zcode 46 pc) = true := by decide +kernel
theorem zdk_47 : ∀ pc, pc < 29 → zckb (zby 47) 47 pc (zcode 47 pc) = true := by decide +kernel
theorem zdk_48 : ∀ pc, pc < 123 → zckb (zby 48) 48 pc (zcode 48 pc) = true := by decide +kernel
theorem zdk_49 : ∀ pc, pc < 49 → zckb (zby 49) 49 pc (zcode 49 pc) = true := by decide +kernel
theorem zdk_50 : ∀ pc, pc < 63 → zckb (zby 50) 50 pc (zcode 50 pc) = true := by decide +kernel
theorem zdk_51 : ∀ pc, pc < 48 → zckb (zby 51) 51 pc (zcode 51 pc) = true := by decide +kernel
theorem zdk_52 : ∀ pc, pc < 59 → zckb (zby 52) 52 pc (zcode 52 pc) = true := by decide +kernel
theorem zdk_53 : ∀ pc, pc < 127 → zckb (zby 53) 53 pc (zcode 53 pc) = true := by decide +kernel
theorem zdk_54 : ∀ pc, pc < 32 → zckb (zby 54) 54 pc (zcode 54 pc) = true := by decide +kernel
theorem zdk_55 : ∀ pc, pc < 89 → zckb (zby 55) 55 pc (zcode 55 pc) = true := by decide +kernel
theorem zdk_56 : ∀ pc, pc < 15 → zckb (zby 56) 56 pc (zcode 56 pc) = true := by decide +kernel
theorem zdk_57 : ∀ pc, pc < 218 → zckb (zby 57) 57 pc (zcode 57 pc) = true := by decide +kernel
theorem zdk_58 : ∀ pc, pc < 45 → zckb (zby 58) 58 pc (zcode 58 pc) = true := by decide +kernel
theorem zdk_59 : ∀ pc, pc < 13 → zckb (zby 59) 59 pc (zcode 59 pc) = true := by decide +kernel
theorem zdk_60 : ∀ pc, pc < 14 → zckb (zby 60) 60 pc (zcode 60 pc) = true := by decide +kernel
theorem zdk_61 : ∀ pc, pc < 27 → zckb (zby 61) 61 pc (zcode 61 pc) = true := by decide +kernel
theorem zdk_62 : ∀ pc, pc < 14 → zckb (zby 62) 62 pc (zcode 62 pc) = true := by decide +kernel
theorem zdk_63 : ∀ pc, pc < 21 → zckb (zby 63) 63 pc (zcode 63 pc) = true := by decide +kernel
theorem zdk_64 : ∀ pc, pc < 19 → zckb (zby 64) 64 pc (zcode 64 pc) = true := by decide +kernel
theorem zdk_65 : ∀ pc, pc < 110 → zckb (zby 65) 65 pc (zcode 65 pc) = true := by decide +kernel
theorem zdk_66 : ∀ pc, pc < 40 → zckb (zby 66) 66 pc (zcode 66 pc) = true := by decide +kernel
theorem zdk_67 : ∀ pc, pc < 44 → zckb (zby 67) 67 pc (zcode 67 pc) = true := by decide +kernel
theorem zdk_68 : ∀ pc, pc < 134 → zckb (zby 68) 68 pc (zcode 68 pc) = true := by decide +kernel
theorem zdk_69 : ∀ pc, pc < 56 → zckb (zby 69) 69 pc (zcode 69 pc) = true := by decide +kernel
theorem zdk_70 : ∀ pc, pc < 122 → zckb (zby 70) 70 pc (zcode 70 pc) = true := by decide +kernel
theorem zdk_71 : ∀ pc, pc < 116 → zckb (zby 71) 71 pc (zcode 71 pc) = true := by decide +kernel
theorem zdk_72 : ∀ pc, pc < 18 → zckb (zby 72) 72 pc (zcode 72 pc) = true := by decide +kernel
theorem zdk_73 : ∀ pc, pc < 26 → zckb (zby 73) 73 pc (zcode 73 pc) = true := by decide +kernel
theorem zdk_74 : ∀ pc, pc < 26 → zckb (zby 74) 74 pc (zcode 74 pc) = true := by decide +kernel
theorem zdk_75 : ∀ pc, pc < 52 → zckb (zby 75) 75 pc (zcode 75 pc) = true := by decide +kernel
theorem zdk_76 : ∀ pc, pc < 31 → zckb (zby 76) 76 pc (zcode 76 pc) = true := by decide +kernel
theorem zdk_77 : ∀ pc, pc < 100 → zckb (zby 77) 77 pc (zcode 77 pc) = true := by decide +kernel
theorem zdk_78 : ∀ pc, pc < 164 → zckb (zby 78) 78 pc (zcode 78 pc) = true := by decide +kernel
theorem zdk_79 : ∀ pc, pc < 188 → zckb (zby 79) 79 pc (zcode 79 pc) = true := by decide +kernel
theorem zdk_80 : ∀ pc, pc < 54 → zckb (zby 80) 80 pc (zcode 80 pc) = true := by decide +kernel
theorem zdk_81 : ∀ pc, pc < 33 → zckb (zby 81) 81 pc (zcode 81 pc) = true := by decide +kernel
theorem zdk_82 : ∀ pc, pc < 174 → zckb (zby 82) 82 pc (zcode 82 pc) = true := by decide +kernel
theorem zdk_83 : ∀ pc, pc < 86 → zckb (zby 83) 83 pc (zcode 83 pc) = true := by decide +kernel
theorem zdk_84 : ∀ pc, pc < 151 → zckb (zby 84) 84 pc (zcode 84 pc) = true := by decide +kernel
theorem zdk_85 : ∀ pc, pc < 40 → zckb (zby 85) 85 pc (zcode 85 pc) = true := by decide +kernel
theorem zdk_86 : ∀ pc, pc < 102 → zckb (zby 86) 86 pc (zcode 86 pc) = true := by decide +kernel
theorem zdk_87 : ∀ pc, pc < 108 → zckb (zby 87) 87 pc (zcode 87 pc) = true := by decide +kernel
theorem zdk_88 : ∀ pc, pc < 47 → zckb (zby 88) 88 pc (zcode 88 pc) = true := by decide +kernel
theorem zdk_89 : ∀ pc, pc < 26 → zckb (zby 89) 89 pc (zcode 89 pc) = true := by decide +kernel
theorem zdk_90 : ∀ pc, pc < 82 → zckb (zby 90) 90 pc (zcode 90 pc) = true := by decide +kernel
theorem zdk_91 : ∀ pc, pc < 83 → zckb (zby 91) 91 pc (zcode 91 pc) = true := by decide +kernel
theorem zdk_92 : ∀ pc, pc < 38 → zckb (zby 92) 92 pc (zcode 92 pc) = true := by decide +kernel
theorem zdk_93 : ∀ pc, pc < 58 → zckb (zby 93) 93 pc (zcode 93 pc) = true := by decide +kernel
theorem zdk_94 : ∀ pc, pc < 123 → zckb (zby 94) 94 pc (zcode 94 pc) = true := by decide +kernel
theorem zdk_95 : ∀ pc, pc < 51 → zckb (zby 95) 95 pc (zcode 95 pc) = true := by decide +kernel
theorem zdk_96 : ∀ pc, pc < 64 → zckb (zby 96) 96 pc (zcode 96 pc) = true := by decide +kernel
theorem zdk_97 : ∀ pc, pc < 66 → zckb (zby 97) 97 pc (zcode 97 pc) = true := by decide +kernel
theorem zdk_98 : ∀ pc, pc < 23 → zckb (zby 98) 98 pc (zcode 98 pc) = true := by decide +kernel
theorem zdk_99 : ∀ pc, pc < 93 → zckb (zby 99) 99 pc (zcode 99 pc) = true := by decide +kernel
theorem zdk_100 : ∀ pc, pc < 38 → zckb (zby 100) 100 pc (zcode 100 pc) = true := by decide +kernel
theorem zdk_101 : ∀ pc, pc < 11 → zckb (zby 101) 101 pc (zcode 101 pc) = true := by decide +kernel
theorem zdk_102 : ∀ pc, pc < 15 → zckb (zby 102) 102 pc (zcode 102 pc) = true := by decide +kernel
theorem zdk_103 : ∀ pc, pc < 10 → zckb (zby 103) 103 pc (zcode 103 pc) = true := by decide +kernel
theorem zdk_104 : ∀ pc, pc < 11 → zckb (zby 104) 104 pc (zcode 104 pc) = true := by decide +kernel
theorem zdk_105 : ∀ pc, pc < 25 → zckb (zby 105) 105 pc (zcode 105 pc) = true := by decide +kernel
theorem zdk_106 : ∀ pc, pc < 25 → zckb (zby 106) 106 pc (zcode 106 pc) = true := by decide +kernel
theorem zdk_107 : ∀ pc, pc < 32 → zckb (zby 107) 107 pc (zcode 107 pc) = true := by decide +kernel
theorem zdk_108 : ∀ pc, pc < 41 → zckb (zby 108) 108 pc (zcode 108 pc) = true := by decide +kernel
theorem zdk_109 : ∀ pc, pc < 61 → zckb (zby 109) 109 pc (zcode 109 pc) = true := by decide +kernel
theorem zdk_110 : ∀ pc, pc < 92 → zckb (zby 110) 110 pc (zcode 110 pc) = true := by decide +kernel
theorem zdk_111 : ∀ pc, pc < 33 → zckb (zby 111) 111 pc (zcode 111 pc) = true := by decide +kernel
theorem zdk_112 : ∀ pc, pc < 40 → zckb (zby 112) 112 pc (zcode 112 pc) = true := by decide +kernel
theorem zdk_113 : ∀ pc, pc < 14 → zckb (zby 113) 113 pc (zcode 113 pc) = true := by decide +kernel
theorem zdk_114 : ∀ pc, pc < 69 → zckb (zby 114) 114 pc (zcode 114 pc) = true := by decide +kernel
theorem zdk_115 : ∀ pc, pc < 51 → zckb (zby 115) 115 pc (zcode 115 pc) = true := by decide +kernel
theorem zdk_116 : ∀ pc, pc < 102 → zckb (zby 116) 116 pc (zcode 116 pc) = true := by decide +kernel
theorem zdk_117 : ∀ pc, pc < 53 → zckb (zby 117) 117 pc (zcode 117 pc) = true := by decide +kernel
theorem zdk_118 : ∀ pc, pc < 27 → zckb (zby 118) 118 pc (zcode 118 pc) = true := by decide +kernel
theorem zdk_119 : ∀ pc, pc < 43 → zckb (zby 119) 119 pc (zcode 119 pc) = true := by decide +kernel
theorem zdk_120 : ∀ pc, pc < 80 → zckb (zby 120) 120 pc (zcode 120 pc) = true := by decide +kernel
theorem zdk_121 : ∀ pc, pc < 46 → zckb (zby 121) 121 pc (zcode 121 pc) = true := by decide +kernel
theorem zdk_122 : ∀ pc, pc < 41 → zckb (zby 122) 122 pc (zcode 122 pc) = true := by decide +kernel
theorem zdk_123 : ∀ pc, pc < 18 → zckb (zby 123) 123 pc (zcode 123 pc) = true := by decide +kernel
theorem zdk_124 : ∀ pc, pc < 67 → zckb (zby 124) 124 pc (zcode 124 pc) = true := by decide +kernel
theorem zdk_125 : ∀ pc, pc < 48 → zckb (zby 125) 125 pc (zcode 125 pc) = true := by decide +kernel
theorem zdk_126 : ∀ pc, pc < 25 → zckb (zby 126) 126 pc (zcode 126 pc) = true := by decide +kernel
theorem zdk_127 : ∀ pc, pc < 10 → zckb (zby 127) 127 pc (zcode 127 pc) = true := by decide +kernel
theorem zdk_128 : ∀ pc, pc < 178 → zckb (zby 128) 128 pc (zcode 128 pc) = true := by decide +kernel
theorem zdk_129 : ∀ pc, pc < 8 → zckb (zby 129) 129 pc (zcode 129 pc) = true := by decide +kernel
theorem zdk_130 : ∀ pc, pc < 38 → zckb (zby 130) 130 pc (zcode 130 pc) = true := by decide +kernel
theorem zdk_131 : ∀ pc, pc < 79 → zckb (zby 131) 131 pc (zcode 131 pc) = true := by decide +kernel
theorem zdk_132 : ∀ pc, pc < 29 → zckb (zby 132) 132 pc (zcode 132 pc) = true := by decide +kernel
theorem zdk_133 : ∀ pc, pc < 5 → zckb (zby 133) 133 pc (zcode 133 pc) = true := by decide +kernel
theorem zdk_134 : ∀ pc, pc < 16 → zckb (zby 134) 134 pc (zcode 134 pc) = true := by decide +kernel
theorem zdk_135 : ∀ pc, pc < 43 → zckb (zby 135) 135 pc (zcode 135 pc) = true := by decide +kernel
theorem zdk_136 : ∀ pc, pc < 25 → zckb (zby 136) 136 pc (zcode 136 pc) = true := by decide +kernel
theorem zdk_137 : ∀ pc, pc < 12 → zckb (zby 137) 137 pc (zcode 137 pc) = true := by decide +kernel
theorem zdk_138 : ∀ pc, pc < 29 → zckb (zby 138) 138 pc (zcode 138 pc) = true := by decide +kernel
theorem zdk_139 : ∀ pc, pc < 43 → zckb (zby 139) 139 pc (zcode 139 pc) = true := by decide +kernel
theorem zdk_140 : ∀ pc, pc < 99 → zckb (zby 140) 140 pc (zcode 140 pc) = true := by decide +kernel
theorem zdk_141 : ∀ pc, pc < 16 → zckb (zby 141) 141 pc (zcode 141 pc) = true := by decide +kernel
theorem zdk_142 : ∀ pc, pc < 106 → zckb (zby 142) 142 pc (zcode 142 pc) = true := by decide +kernel
theorem zdk_143 : ∀ pc, pc < 36 → zckb (zby 143) 143 pc (zcode 143 pc) = true := by decide +kernel
theorem zdk_144 : ∀ pc, pc < 40 → zckb (zby 144) 144 pc (zcode 144 pc) = true := by decide +kernel
theorem zdk_145 : ∀ pc, pc < 114 → zckb (zby 145) 145 pc (zcode 145 pc) = true := by decide +kernel
theorem zdk_146 : ∀ pc, pc < 24 → zckb (zby 146) 146 pc (zcode 146 pc) = true := by decide +kernel
theorem zdk_147 : ∀ pc, pc < 24 → zckb (zby 147) 147 pc (zcode 147 pc) = true := by decide +kernel
theorem zdk_148 : ∀ pc, pc < 33 → zckb (zby 148) 148 pc (zcode 148 pc) = true := by decide +kernel
theorem zdk_149 : ∀ pc, pc < 24 → zckb (zby 149) 149 pc (zcode 149 pc) = true := by decide +kernel
theorem zdk_150 : ∀ pc, pc < 40 → zckb (zby 150) 150 pc (zcode 150 pc) = true := by decide +kernel
theorem zdk_151 : ∀ pc, pc < 83 → zckb (zby 151) 151 pc (zcode 151 pc) = true := by decide +kernel
theorem zdk_152 : ∀ pc, pc < 35 → zckb (zby 152) 152 pc (zcode 152 pc) = true := by decide +kernel
theorem zdk_153 : ∀ pc, pc < 117 → zckb (zby 153) 153 pc (zcode 153 pc) = true := by decide +kernel
theorem zdk_154 : ∀ pc, pc < 19 → zckb (zby 154) 154 pc (zcode 154 pc) = true := by decide +kernel
theorem zdk_155 : ∀ pc, pc < 25 → zckb (zby 155) 155 pc (zcode 155 pc) = true := by decide +kernel
theorem zdk_156 : ∀ pc, pc < 333 → zckb (zby 156) 156 pc (zcode 156 pc) = true := by decide +kernel
theorem zdk_157 : ∀ pc, pc < 55 → zckb (zby 157) 157 pc (zcode 157 pc) = true := by decide +kernel
theorem zdk_158 : ∀ pc, pc < 192 → zckb (zby 158) 158 pc (zcode 158 pc) = true := by decide +kernel
theorem zdk_159 : ∀ pc, pc < 91 → zckb (zby 159) 159 pc (zcode 159 pc) = true := by decide +kernel
theorem zdk_160 : ∀ pc, pc < 57 → zckb (zby 160) 160 pc (zcode 160 pc) = true := by decide +kernel
theorem zdk_161 : ∀ pc, pc < 127 → zckb (zby 161) 161 pc (zcode 161 pc) = true := by decide +kernel
theorem zdk_162 : ∀ pc, pc < 125 → zckb (zby 162) 162 pc (zcode 162 pc) = true := by decide +kernel
theorem zdk_163 : ∀ pc, pc < 19 → zckb (zby 163) 163 pc (zcode 163 pc) = true := by decide +kernel
theorem zdk_164 : ∀ pc, pc < 372 → zckb (zby 164) 164 pc (zcode 164 pc) = true := by decide +kernel
theorem zdk_165 : ∀ pc, pc < 23 → zckb (zby 165) 165 pc (zcode 165 pc) = true := by decide +kernel
theorem zdk_166 : ∀ pc, pc < 27 → zckb (zby 166) 166 pc (zcode 166 pc) = true := by decide +kernel
theorem zdk_167 : ∀ pc, pc < 15 → zckb (zby 167) 167 pc (zcode 167 pc) = true := by decide +kernel
theorem zdk_168 : ∀ pc, pc < 21 → zckb (zby 168) 168 pc (zcode 168 pc) = true := by decide +kernel
theorem zdk_169 : ∀ pc, pc < 103 → zckb (zby 169) 169 pc (zcode 169 pc) = true := by decide +kernel
theorem zdk_170 : ∀ pc, pc < 90 → zckb (zby 170) 170 pc (zcode 170 pc) = true := by decide +kernel
theorem zdk_171 : ∀ pc, pc < 36 → zckb (zby 171) 171 pc (zcode 171 pc) = true := by decide +kernel
theorem zdk_172 : ∀ pc, pc < 513 → zckb (zby 172) 172 pc (zcode 172 pc) = true := by decide +kernel
theorem zdk_173 : ∀ pc, pc < 350 → zckb (zby 173) 173 pc (zcode 173 pc) = true := by decide +kernel
theorem zdk_174 : ∀ pc, pc < 221 → zckb (zby 174) 174 pc (zcode 174 pc) = true := by decide +kernel
theorem zdk_175 : ∀ pc, pc < 37 → zckb (zby 175) 175 pc (zcode 175 pc) = true := by decide +kernel
theorem zdk_176 : ∀ pc, pc < 54 → zckb (zby 176) 176 pc (zcode 176 pc) = true := by decide +kernel
theorem zdk_177 : ∀ pc, pc < 166 → zckb (zby 177) 177 pc (zcode 177 pc) = true := by decide +kernel
theorem zdk_178 : ∀ pc, pc < 366 → zckb (zby 178) 178 pc (zcode 178 pc) = true := by decide +kernel
theorem zdk_179 : ∀ pc, pc < 216 → zckb (zby 179) 179 pc (zcode 179 pc) = true := by decide +kernel
theorem zdk_180 : ∀ pc, pc < 43 → zckb (zby 180) 180 pc (zcode 180 pc) = true := by decide +kernel
theorem zdk_181 : ∀ pc, pc < 29 → zckb (zby 181) 181 pc (zcode 181 pc) = true := by decide +kernel
theorem zdk_182 : ∀ pc, pc < 28 → zckb (zby 182) 182 pc (zcode 182 pc) = true := by decide +kernel
theorem zdk_183 : ∀ pc, pc < 287 → zckb (zby 183) 183 pc (zcode 183 pc) = true := by decide +kernel
theorem zdk_184 : ∀ pc, pc < 43 → zckb (zby 184) 184 pc (zcode 184 pc) = true := by decide +kernel
theorem zdk_185 : ∀ pc, pc < 37 → zckb (zby 185) 185 pc (zcode 185 pc) = true := by decide +kernel
theorem zdk_186 : ∀ pc, pc < 144 → zckb (zby 186) 186 pc (zcode 186 pc) = true := by decide +kernel
theorem zdk_187 : ∀ pc, pc < 56 → zckb (zby 187) 187 pc (zcode 187 pc) = true := by decide +kernel
theorem zdk_188 : ∀ pc, pc < 308 → zckb (zby 188) 188 pc (zcode 188 pc) = true := by decide +kernel
theorem zdk_189 : ∀ pc, pc < 28 → zckb (zby 189) 189 pc (zcode 189 pc) = true := by decide +kernel
theorem zdk_190 : ∀ pc, pc < 29 → zckb (zby 190) 190 pc (zcode 190 pc) = true := by decide +kernel
theorem zdk_191 : ∀ pc, pc < 101 → zckb (zby 191) 191 pc (zcode 191 pc) = true := by decide +kernel
theorem zdk_192 : ∀ pc, pc < 72 → zckb (zby 192) 192 pc (zcode 192 pc) = true := by decide +kernel
theorem zdk_193 : ∀ pc, pc < 239 → zckb (zby 193) 193 pc (zcode 193 pc) = true := by decide +kernel
theorem zdk_194 : ∀ pc, pc < 133 → zckb (zby 194) 194 pc (zcode 194 pc) = true := by decide +kernel
theorem zdk_195 : ∀ pc, pc < 38 → zckb (zby 195) 195 pc (zcode 195 pc) = true := by decide +kernel
theorem zdk_196 : ∀ pc, pc < 302 → zckb (zby 196) 196 pc (zcode 196 pc) = true := by decide +kernel
theorem zdk_197 : ∀ pc, pc < 38 → zckb (zby 197) 197 pc (zcode 197 pc) = true := by decide +kernel
theorem zdk_198 : ∀ pc, pc < 28 → zckb (zby 198) 198 pc (zcode 198 pc) = true := by decide +kernel
theorem zdk_199 : ∀ pc, pc < 70 → zckb (zby 199) 199 pc (zcode 199 pc) = true := by decide +kernel
theorem zdk_200 : ∀ pc, pc < 174 → zckb (zby 200) 200 pc (zcode 200 pc) = true := by decide +kernel
theorem zdk_201 : ∀ pc, pc < 77 → zckb (zby 201) 201 pc (zcode 201 pc) = true := by decide +kernel
theorem zdk_202 : ∀ pc, pc < 80 → zckb (zby 202) 202 pc (zcode 202 pc) = true := by decide +kernel
theorem zdk_203 : ∀ pc, pc < 275 → zckb (zby 203) 203 pc (zcode 203 pc) = true := by decide +kernel
theorem zdk_204 : ∀ pc, pc < 47 → zckb (zby 204) 204 pc (zcode 204 pc) = true := by decide +kernel
theorem zdk_205 : ∀ pc, pc < 41 → zckb (zby 205) 205 pc (zcode 205 pc) = true := by decide +kernel
theorem zdk_206 : ∀ pc, pc < 17 → zckb (zby 206) 206 pc (zcode 206 pc) = true := by decide +kernel
theorem zdk_207 : ∀ pc, pc < 114 → zckb (zby 207) 207 pc (zcode 207 pc) = true := by decide +kernel
theorem zdk_208 : ∀ pc, pc < 55 → zckb (zby 208) 208 pc (zcode 208 pc) = true := by decide +kernel
theorem zdk_209 : ∀ pc, pc < 24 → zckb (zby 209) 209 pc (zcode 209 pc) = true := by decide +kernel
theorem zdk_210 : ∀ pc, pc < 79 → zckb (zby 210) 210 pc (zcode 210 pc) = true := by decide +kernel
theorem zdk_211 : ∀ pc, pc < 242 → zckb (zby 211) 211 pc (zcode 211 pc) = true := by decide +kernel
theorem zdk_212 : ∀ pc, pc < 11 → zckb (zby 212) 212 pc (zcode 212 pc) = true := by decide +kernel
theorem zdk_213 : ∀ pc, pc < 25 → zckb (zby 213) 213 pc (zcode 213 pc) = true := by decide +kernel
theorem zdk_214 : ∀ pc, pc < 7 → zckb (zby 214) 214 pc (zcode 214 pc) = true := by decide +kernel
theorem zdk_215 : ∀ pc, pc < 37 → zckb (zby 215) 215 pc (zcode 215 pc) = true := by decide +kernel
theorem zdk_216 : ∀ pc, pc < 15 → zckb (zby 216) 216 pc (zcode 216 pc) = true := by decide +kernel
theorem zdk_217 : ∀ pc, pc < 19 → zckb (zby 217) 217 pc (zcode 217 pc) = true := by decide +kernel
theorem zdk_218 : ∀ pc, pc < 10 → zckb (zby 218) 218 pc (zcode 218 pc) = true := by decide +kernel
theorem zdk_219 : ∀ pc, pc < 15 → zckb (zby 219) 219 pc (zcode 219 pc) = true := by decide +kernel
theorem zdk_220 : ∀ pc, pc < 17 → zckb (zby 220) 220 pc (zcode 220 pc) = true := by decide +kernel
theorem zdk_221 : ∀ pc, pc < 37 → zckb (zby 221) 221 pc (zcode 221 pc) = true := by decide +kernel
theorem zdk_222 : ∀ pc, pc < 33 → zckb (zby 222) 222 pc (zcode 222 pc) = true := by decide +kernel
theorem zdk_223 : ∀ pc, pc < 18 → zckb (zby 223) 223 pc (zcode 223 pc) = true := by decide +kernel
theorem zdk_224 : ∀ pc, pc < 21 → zckb (zby 224) 224 pc (zcode 224 pc) = true := by decide +kernel
