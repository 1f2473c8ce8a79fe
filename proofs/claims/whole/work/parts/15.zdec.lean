/-! DECODE: what the tables say is what the bytes say, and small facts of each instruction -/
def zj (pc : Nat) (o : Int) : Bool := decide (0 ≤ (pc : Int) + o)
def zcs (lo : Int) : Nat → Bool
  | 0 => true
  | n + 1 => decide (zcst (lo + n) = Int32.ofInt (lo + n)) && zcs lo n
def zchk (mi pc : Nat) (ins : Instr) (len : Nat) : Bool := match ins with
  | .iconst n => Nat.beq len 1 && decide (Int32.ofInt n = zcst n)
  | .bipush n => Nat.beq len 2 && decide ((Int8.ofInt n).toInt32 = zcst n)
  | .sipush n => Nat.beq len 3 && decide ((Int16.ofInt n).toInt32 = zcst n)
  | .iload _ => Nat.beq len 2
  | .aload _ => Nat.beq len 2
  | .lload _ => Nat.beq len 2
  | .istore n => Nat.beq len 2 && Nat.blt n (zmx mi)
  | .astore n => Nat.beq len 2 && Nat.blt n (zmx mi)
  | .lstore n => Nat.beq len 2 && Nat.blt (n + 1) (zmx mi)
  | .istore_n n => Nat.beq len 1 && Nat.blt n.val (zmx mi)
  | .astore_n n => Nat.beq len 1 && Nat.blt n.val (zmx mi)
  | .lstore_n n => Nat.beq len 1 && Nat.blt (n.val + 1) (zmx mi)
  | .iinc n c => Nat.beq len 3 && Nat.blt n (zmx mi) && decide (Int32.ofInt c = zcst c)
  | .goto o => Nat.beq len 3 && zj pc o
  | .ifCond _ o => Nat.beq len 3 && zj pc o
  | .if_icmp _ o => Nat.beq len 3 && zj pc o
  | .if_acmp _ o => Nat.beq len 3 && zj pc o
  | .ifnonnull o => Nat.beq len 3 && zj pc o
  | .tableswitch dflt lo hi offs => zj pc dflt && offs.toList.all (zj pc) && decide (lo + offs.size = hi + 1) && decide (-2147483648 ≤ lo) && decide (hi ≤ 2147483647) && zcs lo offs.size
  | .ldc n => Nat.beq len 2 && Nat.blt n 1024
  | .ldc_w n => Nat.beq len 3 && Nat.blt n 1024
  | .ldc2_w n => Nat.beq len 3 && Nat.blt n 1024
  | .getfield n => Nat.beq len 3 && Nat.blt n 1024
  | .putfield n => Nat.beq len 3 && Nat.blt n 1024 && (match zfld (zoc mi) n with | some (t, f, _) => !(zcT t f).2.2.2 | none => true)
  | .getstatic n => Nat.beq len 3 && Nat.blt n 1024
  | .invokevirtual n => Nat.beq len 3 && Nat.blt n 1024 && (match zmth (zoc mi) n with | some (mj, _, _) => Nat.ble 1000 mj || (zsg mj).isSome | none => true)
  | .invokestatic n => Nat.beq len 3 && Nat.blt n 1024 && (match zmth (zoc mi) n with | some (mj, _, _) => Nat.ble 1000 mj || (zsg mj).isNone | none => true)
  | .invokespecial n => match zmth (zoc mi) n with | some _ => false | none => true
  | .new _ => Nat.beq len 3
  | _ => Nat.beq len 1
def zckb (B : ByteArray) (mi pc : Nat) (o : Option (Instr × Nat)) : Bool := match o with
  | none => true
  | some (i, l) => decide (decode B pc = .ok (i, l)) && zchk mi pc i l
theorem zdk_0 : ∀ pc, pc < 115 → zckb (zby 0) 0 pc (zcode 0 pc) = true := by decide +kernel
theorem zdk_1 : ∀ pc, pc < 18 → zckb (zby 1) 1 pc (zcode 1 pc) = true := by decide +kernel
theorem zdk_2 : ∀ pc, pc < 30 → zckb (zby 2) 2 pc (zcode 2 pc) = true := by decide +kernel
theorem zdk_3 : ∀ pc, pc < 31 → zckb (zby 3) 3 pc (zcode 3 pc) = true := by decide +kernel
theorem zdk_4 : ∀ pc, pc < 36 → zckb (zby 4) 4 pc (zcode 4 pc) = true := by decide +kernel
theorem zdk_5 : ∀ pc, pc < 49 → zckb (zby 5) 5 pc (zcode 5 pc) = true := by decide +kernel
theorem zdk_6 : ∀ pc, pc < 65 → zckb (zby 6) 6 pc (zcode 6 pc) = true := by decide +kernel
theorem zdk_7 : ∀ pc, pc < 93 → zckb (zby 7) 7 pc (zcode 7 pc) = true := by decide +kernel
theorem zdk_8 : ∀ pc, pc < 70 → zckb (zby 8) 8 pc (zcode 8 pc) = true := by decide +kernel
theorem zdk_9 : ∀ pc, pc < 85 → zckb (zby 9) 9 pc (zcode 9 pc) = true := by decide +kernel
theorem zdk_10 : ∀ pc, pc < 39 → zckb (zby 10) 10 pc (zcode 10 pc) = true := by decide +kernel
theorem zdk_11 : ∀ pc, pc < 46 → zckb (zby 11) 11 pc (zcode 11 pc) = true := by decide +kernel
theorem zdk_12 : ∀ pc, pc < 44 → zckb (zby 12) 12 pc (zcode 12 pc) = true := by decide +kernel
theorem zdk_13 : ∀ pc, pc < 32 → zckb (zby 13) 13 pc (zcode 13 pc) = true := by decide +kernel
theorem zdk_14 : ∀ pc, pc < 63 → zckb (zby 14) 14 pc (zcode 14 pc) = true := by decide +kernel
theorem zdk_15 : ∀ pc, pc < 77 → zckb (zby 15) 15 pc (zcode 15 pc) = true := by decide +kernel
theorem zdk_16 : ∀ pc, pc < 82 → zckb (zby 16) 16 pc (zcode 16 pc) = true := by decide +kernel
theorem zdk_17 : ∀ pc, pc < 51 → zckb (zby 17) 17 pc (zcode 17 pc) = true := by decide +kernel
theorem zdk_18 : ∀ pc, pc < 75 → zckb (zby 18) 18 pc (zcode 18 pc) = true := by decide +kernel
theorem zdk_19 : ∀ pc, pc < 23 → zckb (zby 19) 19 pc (zcode 19 pc) = true := by decide +kernel
theorem zdk_20 : ∀ pc, pc < 63 → zckb (zby 20) 20 pc (zcode 20 pc) = true := by decide +kernel
theorem zdk_21 : ∀ pc, pc < 52 → zckb (zby 21) 21 pc (zcode 21 pc) = true := by decide +kernel
theorem zdk_22 : ∀ pc, pc < 43 → zckb (zby 22) 22 pc (zcode 22 pc) = true := by decide +kernel
theorem zdk_23 : ∀ pc, pc < 26 → zckb (zby 23) 23 pc (zcode 23 pc) = true := by decide +kernel
theorem zdk_24 : ∀ pc, pc < 139 → zckb (zby 24) 24 pc (zcode 24 pc) = true := by decide +kernel
theorem zdk_25 : ∀ pc, pc < 90 → zckb (zby 25) 25 pc (zcode 25 pc) = true := by decide +kernel
theorem zdk_26 : ∀ pc, pc < 37 → zckb (zby 26) 26 pc (zcode 26 pc) = true := by decide +kernel
theorem zdk_27 : ∀ pc, pc < 91 → zckb (zby 27) 27 pc (zcode 27 pc) = true := by decide +kernel
theorem zdk_28 : ∀ pc, pc < 53 → zckb (zby 28) 28 pc (zcode 28 pc) = true := by decide +kernel
theorem zdk_29 : ∀ pc, pc < 27 → zckb (zby 29) 29 pc (zcode 29 pc) = true := by decide +kernel
theorem zdk_30 : ∀ pc, pc < 100 → zckb (zby 30) 30 pc (zcode 30 pc) = true := by decide +kernel
theorem zdk_31 : ∀ pc, pc < 92 → zckb (zby 31) 31 pc (zcode 31 pc) = true := by decide +kernel
theorem zdk_32 : ∀ pc, pc < 32 → zckb (zby 32) 32 pc (zcode 32 pc) = true := by decide +kernel
theorem zdk_33 : ∀ pc, pc < 28 → zckb (zby 33) 33 pc (zcode 33 pc) = true := by decide +kernel
theorem zdk_34 : ∀ pc, pc < 25 → zckb (zby 34) 34 pc (zcode 34 pc) = true := by decide +kernel
theorem zdk_35 : ∀ pc, pc < 47 → zckb (zby 35) 35 pc (zcode 35 pc) = true := by decide +kernel
theorem zdk_36 : ∀ pc, pc < 22 → zckb (zby 36) 36 pc (zcode 36 pc) = true := by decide +kernel
theorem zdk_37 : ∀ pc, pc < 18 → zckb (zby 37) 37 pc (zcode 37 pc) = true := by decide +kernel
theorem zdk_38 : ∀ pc, pc < 29 → zckb (zby 38) 38 pc (zcode 38 pc) = true := by decide +kernel
theorem zdk_39 : ∀ pc, pc < 22 → zckb (zby 39) 39 pc (zcode 39 pc) = true := by decide +kernel
theorem zdk_40 : ∀ pc, pc < 13 → zckb (zby 40) 40 pc (zcode 40 pc) = true := by decide +kernel
theorem zdk_41 : ∀ pc, pc < 15 → zckb (zby 41) 41 pc (zcode 41 pc) = true := by decide +kernel
theorem zdk_42 : ∀ pc, pc < 36 → zckb (zby 42) 42 pc (zcode 42 pc) = true := by decide +kernel
theorem zdk_43 : ∀ pc, pc < 25 → zckb (zby 43) 43 pc (zcode 43 pc) = true := by decide +kernel
theorem zdk_44 : ∀ pc, pc < 25 → zckb (zby 44) 44 pc (zcode 44 pc) = true := by decide +kernel
theorem zdk_45 : ∀ pc, pc < 34 → zckb (zby 45) 45 pc (zcode 45 pc) = true := by decide +kernel
theorem zdk_46 : ∀ pc, pc < 38 → zckb (zby 46) 46 pc (zcode 46 pc) = true := by decide +kernel
theorem zdk_47 : ∀ pc, pc < 29 → zckb (zby 47) 47 pc (zcode 47 pc) = true := by decide +kernel
theorem zdk_48 : ∀ pc, pc < 123 → zckb (zby 48) 48 pc (zcode 48 pc) = true := by decide +kernel
theorem zdk_49 : ∀ pc, pc < 49 → zckb (zby 49) 49 pc (zcode 49 pc) = true := by decide +kernel
theorem zdk_50 : ∀ pc, pc < 63 → zckb (zby 50) 50 pc (zcode 50 pc) = true := by decide +kernel
theorem zdk_51 : ∀ pc, pc < 48 → zckb (zby 51) 51 pc (zcode 51 pc) = true := by decide +kernel
theorem zdk_52 : ∀ pc, pc < 59 → zckb (zby 52) 52 pc (zcode 52 pc) = true := by decide +kernel
theorem zdk_53 : ∀ pc, pc < 127 → zckb (zby 53) 53 pc (zcode 53 pc) = true := by decide +kernel
theorem zdk_54 : ∀ pc, pc < 32 → zckb (zby 54) 54 pc (zcode 54 pc) = true := by decide +kernel
theorem zdk_55 : ∀ pc, pc < 89 → zckb (zby 55) 55 pc (zcode 55 pc) = true := by decide +kernel
theorem zdk_56 : ∀ pc, pc < 15 → zckb (zby 56) 56 pc (zcode 56 pc) = true := by decide +kernel
theorem zdk_57 : ∀ pc, pc < 218 → zckb (zby 57) 57 pc (zcode 57 pc) = true := by decide +kernel
theorem zdk_58 : ∀ pc, pc < 45 → zckb (zby 58) 58 pc (zcode 58 pc) = true := by decide +kernel
theorem zdk_59 : ∀ pc, pc < 13 → zckb (zby 59) 59 pc (zcode 59 pc) = true := by decide +kernel
theorem zdk_60 : ∀ pc, pc < 14 → zckb (zby 60) 60 pc (zcode 60 pc) = true := by decide +kernel
theorem zdk_61 : ∀ pc, pc < 27 → zckb (zby 61) 61 pc (zcode 61 pc) = true := by decide +kernel
theorem zdk_62 : ∀ pc, pc < 14 → zckb (zby 62) 62 pc (zcode 62 pc) = true := by decide +kernel
theorem zdk_63 : ∀ pc, pc < 21 → zckb (zby 63) 63 pc (zcode 63 pc) = true := by decide +kernel
theorem zdk_64 : ∀ pc, pc < 19 → zckb (zby 64) 64 pc (zcode 64 pc) = true := by decide +kernel
theorem zdk_65 : ∀ pc, pc < 110 → zckb (zby 65) 65 pc (zcode 65 pc) = true := by decide +kernel
theorem zdk_66 : ∀ pc, pc < 40 → zckb (zby 66) 66 pc (zcode 66 pc) = true := by decide +kernel
theorem zdk_67 : ∀ pc, pc < 44 → zckb (zby 67) 67 pc (zcode 67 pc) = true := by decide +kernel
theorem zdk_68 : ∀ pc, pc < 134 → zckb (zby 68) 68 pc (zcode 68 pc) = true := by decide +kernel
theorem zdk_69 : ∀ pc, pc < 56 → zckb (zby 69) 69 pc (zcode 69 pc) = true := by decide +kernel
theorem zdk_70 : ∀ pc, pc < 122 → zckb (zby 70) 70 pc (zcode 70 pc) = true := by decide +kernel
theorem zdk_71 : ∀ pc, pc < 116 → zckb (zby 71) 71 pc (zcode 71 pc) = true := by decide +kernel
theorem zdk_72 : ∀ pc, pc < 18 → zckb (zby 72) 72 pc (zcode 72 pc) = true := by decide +kernel
theorem zdk_73 : ∀ pc, pc < 26 → zckb (zby 73) 73 pc (zcode 73 pc) = true := by decide +kernel
theorem zdk_74 : ∀ pc, pc < 26 → zckb (zby 74) 74 pc (zcode 74 pc) = true := by decide +kernel
theorem zdk_75 : ∀ pc, pc < 52 → zckb (zby 75) 75 pc (zcode 75 pc) = true := by decide +kernel
theorem zdk_76 : ∀ pc, pc < 31 → zckb (zby 76) 76 pc (zcode 76 pc) = true := by decide +kernel
theorem zdk_77 : ∀ pc, pc < 100 → zckb (zby 77) 77 pc (zcode 77 pc) = true := by decide +kernel
theorem zdk_78 : ∀ pc, pc < 164 → zckb (zby 78) 78 pc (zcode 78 pc) = true := by decide +kernel
theorem zdk_79 : ∀ pc, pc < 188 → zckb (zby 79) 79 pc (zcode 79 pc) = true := by decide +kernel
theorem zdk_80 : ∀ pc, pc < 54 → zckb (zby 80) 80 pc (zcode 80 pc) = true := by decide +kernel
theorem zdk_81 : ∀ pc, pc < 33 → zckb (zby 81) 81 pc (zcode 81 pc) = true := by decide +kernel
theorem zdk_82 : ∀ pc, pc < 174 → zckb (zby 82) 82 pc (zcode 82 pc) = true := by decide +kernel
theorem zdk_83 : ∀ pc, pc < 86 → zckb (zby 83) 83 pc (zcode 83 pc) = true := by decide +kernel
theorem zdk_84 : ∀ pc, pc < 151 → zckb (zby 84) 84 pc (zcode 84 pc) = true := by decide +kernel
theorem zdk_85 : ∀ pc, pc < 40 → zckb (zby 85) 85 pc (zcode 85 pc) = true := by decide +kernel
theorem zdk_86 : ∀ pc, pc < 102 → zckb (zby 86) 86 pc (zcode 86 pc) = true := by decide +kernel
theorem zdk_87 : ∀ pc, pc < 108 → zckb (zby 87) 87 pc (zcode 87 pc) = true := by decide +kernel
theorem zdk_88 : ∀ pc, pc < 47 → zckb (zby 88) 88 pc (zcode 88 pc) = true := by decide +kernel
theorem zdk_89 : ∀ pc, pc < 26 → zckb (zby 89) 89 pc (zcode 89 pc) = true := by decide +kernel
theorem zdk_90 : ∀ pc, pc < 82 → zckb (zby 90) 90 pc (zcode 90 pc) = true := by decide +kernel
theorem zdk_91 : ∀ pc, pc < 83 → zckb (zby 91) 91 pc (zcode 91 pc) = true := by decide +kernel
theorem zdk_92 : ∀ pc, pc < 38 → zckb (zby 92) 92 pc (zcode 92 pc) = true := by decide +kernel
theorem zdk_93 : ∀ pc, pc < 58 → zckb (zby 93) 93 pc (zcode 93 pc) = true := by decide +kernel
theorem zdk_94 : ∀ pc, pc < 123 → zckb (zby 94) 94 pc (zcode 94 pc) = true := by decide +kernel
theorem zdk_95 : ∀ pc, pc < 51 → zckb (zby 95) 95 pc (zcode 95 pc) = true := by decide +kernel
theorem zdk_96 : ∀ pc, pc < 64 → zckb (zby 96) 96 pc (zcode 96 pc) = true := by decide +kernel
theorem zdk_97 : ∀ pc, pc < 66 → zckb (zby 97) 97 pc (zcode 97 pc) = true := by decide +kernel
theorem zdk_98 : ∀ pc, pc < 23 → zckb (zby 98) 98 pc (zcode 98 pc) = true := by decide +kernel
theorem zdk_99 : ∀ pc, pc < 93 → zckb (zby 99) 99 pc (zcode 99 pc) = true := by decide +kernel
theorem zdk_100 : ∀ pc, pc < 38 → zckb (zby 100) 100 pc (zcode 100 pc) = true := by decide +kernel
theorem zdk_101 : ∀ pc, pc < 11 → zckb (zby 101) 101 pc (zcode 101 pc) = true := by decide +kernel
theorem zdk_102 : ∀ pc, pc < 15 → zckb (zby 102) 102 pc (zcode 102 pc) = true := by decide +kernel
theorem zdk_103 : ∀ pc, pc < 10 → zckb (zby 103) 103 pc (zcode 103 pc) = true := by decide +kernel
theorem zdk_104 : ∀ pc, pc < 11 → zckb (zby 104) 104 pc (zcode 104 pc) = true := by decide +kernel
theorem zdk_105 : ∀ pc, pc < 25 → zckb (zby 105) 105 pc (zcode 105 pc) = true := by decide +kernel
theorem zdk_106 : ∀ pc, pc < 25 → zckb (zby 106) 106 pc (zcode 106 pc) = true := by decide +kernel
theorem zdk_107 : ∀ pc, pc < 32 → zckb (zby 107) 107 pc (zcode 107 pc) = true := by decide +kernel
theorem zdk_108 : ∀ pc, pc < 41 → zckb (zby 108) 108 pc (zcode 108 pc) = true := by decide +kernel
theorem zdk_109 : ∀ pc, pc < 61 → zckb (zby 109) 109 pc (zcode 109 pc) = true := by decide +kernel
theorem zdk_110 : ∀ pc, pc < 92 → zckb (zby 110) 110 pc (zcode 110 pc) = true := by decide +kernel
theorem zdk_111 : ∀ pc, pc < 33 → zckb (zby 111) 111 pc (zcode 111 pc) = true := by decide +kernel
theorem zdk_112 : ∀ pc, pc < 40 → zckb (zby 112) 112 pc (zcode 112 pc) = true := by decide +kernel
theorem zdk_113 : ∀ pc, pc < 14 → zckb (zby 113) 113 pc (zcode 113 pc) = true := by decide +kernel
theorem zdk_114 : ∀ pc, pc < 69 → zckb (zby 114) 114 pc (zcode 114 pc) = true := by decide +kernel
theorem zdk_115 : ∀ pc, pc < 51 → zckb (zby 115) 115 pc (zcode 115 pc) = true := by decide +kernel
theorem zdk_116 : ∀ pc, pc < 102 → zckb (zby 116) 116 pc (zcode 116 pc) = true := by decide +kernel
theorem zdk_117 : ∀ pc, pc < 53 → zckb (zby 117) 117 pc (zcode 117 pc) = true := by decide +kernel
theorem zdk_118 : ∀ pc, pc < 27 → zckb (zby 118) 118 pc (zcode 118 pc) = true := by decide +kernel
theorem zdk_119 : ∀ pc, pc < 43 → zckb (zby 119) 119 pc (zcode 119 pc) = true := by decide +kernel
theorem zdk_120 : ∀ pc, pc < 80 → zckb (zby 120) 120 pc (zcode 120 pc) = true := by decide +kernel
theorem zdk_121 : ∀ pc, pc < 46 → zckb (zby 121) 121 pc (zcode 121 pc) = true := by decide +kernel
theorem zdk_122 : ∀ pc, pc < 41 → zckb (zby 122) 122 pc (zcode 122 pc) = true := by decide +kernel
theorem zdk_123 : ∀ pc, pc < 18 → zckb (zby 123) 123 pc (zcode 123 pc) = true := by decide +kernel
theorem zdk_124 : ∀ pc, pc < 67 → zckb (zby 124) 124 pc (zcode 124 pc) = true := by decide +kernel
theorem zdk_125 : ∀ pc, pc < 48 → zckb (zby 125) 125 pc (zcode 125 pc) = true := by decide +kernel
theorem zdk_126 : ∀ pc, pc < 25 → zckb (zby 126) 126 pc (zcode 126 pc) = true := by decide +kernel
theorem zdk_127 : ∀ pc, pc < 10 → zckb (zby 127) 127 pc (zcode 127 pc) = true := by decide +kernel
theorem zdk_128 : ∀ pc, pc < 178 → zckb (zby 128) 128 pc (zcode 128 pc) = true := by decide +kernel
theorem zdk_129 : ∀ pc, pc < 8 → zckb (zby 129) 129 pc (zcode 129 pc) = true := by decide +kernel
theorem zdk_130 : ∀ pc, pc < 38 → zckb (zby 130) 130 pc (zcode 130 pc) = true := by decide +kernel
theorem zdk_131 : ∀ pc, pc < 79 → zckb (zby 131) 131 pc (zcode 131 pc) = true := by decide +kernel
theorem zdk_132 : ∀ pc, pc < 33 → zckb (zby 132) 132 pc (zcode 132 pc) = true := by decide +kernel
theorem zdk_133 : ∀ pc, pc < 5 → zckb (zby 133) 133 pc (zcode 133 pc) = true := by decide +kernel
theorem zdk_134 : ∀ pc, pc < 16 → zckb (zby 134) 134 pc (zcode 134 pc) = true := by decide +kernel
theorem zdk_135 : ∀ pc, pc < 43 → zckb (zby 135) 135 pc (zcode 135 pc) = true := by decide +kernel
theorem zdk_136 : ∀ pc, pc < 25 → zckb (zby 136) 136 pc (zcode 136 pc) = true := by decide +kernel
theorem zdk_137 : ∀ pc, pc < 12 → zckb (zby 137) 137 pc (zcode 137 pc) = true := by decide +kernel
theorem zdk_138 : ∀ pc, pc < 29 → zckb (zby 138) 138 pc (zcode 138 pc) = true := by decide +kernel
theorem zdk_139 : ∀ pc, pc < 43 → zckb (zby 139) 139 pc (zcode 139 pc) = true := by decide +kernel
theorem zdk_140 : ∀ pc, pc < 99 → zckb (zby 140) 140 pc (zcode 140 pc) = true := by decide +kernel
theorem zdk_141 : ∀ pc, pc < 16 → zckb (zby 141) 141 pc (zcode 141 pc) = true := by decide +kernel
theorem zdk_142 : ∀ pc, pc < 106 → zckb (zby 142) 142 pc (zcode 142 pc) = true := by decide +kernel
theorem zdk_143 : ∀ pc, pc < 36 → zckb (zby 143) 143 pc (zcode 143 pc) = true := by decide +kernel
theorem zdk_144 : ∀ pc, pc < 40 → zckb (zby 144) 144 pc (zcode 144 pc) = true := by decide +kernel
theorem zdk_145 : ∀ pc, pc < 114 → zckb (zby 145) 145 pc (zcode 145 pc) = true := by decide +kernel
theorem zdk_146 : ∀ pc, pc < 24 → zckb (zby 146) 146 pc (zcode 146 pc) = true := by decide +kernel
theorem zdk_147 : ∀ pc, pc < 24 → zckb (zby 147) 147 pc (zcode 147 pc) = true := by decide +kernel
theorem zdk_148 : ∀ pc, pc < 33 → zckb (zby 148) 148 pc (zcode 148 pc) = true := by decide +kernel
theorem zdk_149 : ∀ pc, pc < 24 → zckb (zby 149) 149 pc (zcode 149 pc) = true := by decide +kernel
theorem zdk_150 : ∀ pc, pc < 40 → zckb (zby 150) 150 pc (zcode 150 pc) = true := by decide +kernel
theorem zdk_151 : ∀ pc, pc < 83 → zckb (zby 151) 151 pc (zcode 151 pc) = true := by decide +kernel
theorem zdk_152 : ∀ pc, pc < 35 → zckb (zby 152) 152 pc (zcode 152 pc) = true := by decide +kernel
theorem zdk_153 : ∀ pc, pc < 117 → zckb (zby 153) 153 pc (zcode 153 pc) = true := by decide +kernel
theorem zdk_154 : ∀ pc, pc < 19 → zckb (zby 154) 154 pc (zcode 154 pc) = true := by decide +kernel
theorem zdk_155 : ∀ pc, pc < 25 → zckb (zby 155) 155 pc (zcode 155 pc) = true := by decide +kernel
theorem zdk_156 : ∀ pc, pc < 333 → zckb (zby 156) 156 pc (zcode 156 pc) = true := by decide +kernel
theorem zdk_157 : ∀ pc, pc < 55 → zckb (zby 157) 157 pc (zcode 157 pc) = true := by decide +kernel
theorem zdk_158 : ∀ pc, pc < 192 → zckb (zby 158) 158 pc (zcode 158 pc) = true := by decide +kernel
theorem zdk_159 : ∀ pc, pc < 91 → zckb (zby 159) 159 pc (zcode 159 pc) = true := by decide +kernel
theorem zdk_160 : ∀ pc, pc < 57 → zckb (zby 160) 160 pc (zcode 160 pc) = true := by decide +kernel
theorem zdk_161 : ∀ pc, pc < 127 → zckb (zby 161) 161 pc (zcode 161 pc) = true := by decide +kernel
theorem zdk_162 : ∀ pc, pc < 125 → zckb (zby 162) 162 pc (zcode 162 pc) = true := by decide +kernel
theorem zdk_163 : ∀ pc, pc < 19 → zckb (zby 163) 163 pc (zcode 163 pc) = true := by decide +kernel
theorem zdk_164 : ∀ pc, pc < 372 → zckb (zby 164) 164 pc (zcode 164 pc) = true := by decide +kernel
theorem zdk_165 : ∀ pc, pc < 23 → zckb (zby 165) 165 pc (zcode 165 pc) = true := by decide +kernel
theorem zdk_166 : ∀ pc, pc < 27 → zckb (zby 166) 166 pc (zcode 166 pc) = true := by decide +kernel
theorem zdk_167 : ∀ pc, pc < 15 → zckb (zby 167) 167 pc (zcode 167 pc) = true := by decide +kernel
theorem zdk_168 : ∀ pc, pc < 21 → zckb (zby 168) 168 pc (zcode 168 pc) = true := by decide +kernel
theorem zdk_169 : ∀ pc, pc < 103 → zckb (zby 169) 169 pc (zcode 169 pc) = true := by decide +kernel
theorem zdk_170 : ∀ pc, pc < 90 → zckb (zby 170) 170 pc (zcode 170 pc) = true := by decide +kernel
theorem zdk_171 : ∀ pc, pc < 36 → zckb (zby 171) 171 pc (zcode 171 pc) = true := by decide +kernel
theorem zdk_172 : ∀ pc, pc < 513 → zckb (zby 172) 172 pc (zcode 172 pc) = true := by decide +kernel
theorem zdk_173 : ∀ pc, pc < 350 → zckb (zby 173) 173 pc (zcode 173 pc) = true := by decide +kernel
theorem zdk_174 : ∀ pc, pc < 221 → zckb (zby 174) 174 pc (zcode 174 pc) = true := by decide +kernel
theorem zdk_175 : ∀ pc, pc < 37 → zckb (zby 175) 175 pc (zcode 175 pc) = true := by decide +kernel
theorem zdk_176 : ∀ pc, pc < 54 → zckb (zby 176) 176 pc (zcode 176 pc) = true := by decide +kernel
theorem zdk_177 : ∀ pc, pc < 166 → zckb (zby 177) 177 pc (zcode 177 pc) = true := by decide +kernel
theorem zdk_178 : ∀ pc, pc < 366 → zckb (zby 178) 178 pc (zcode 178 pc) = true := by decide +kernel
theorem zdk_179 : ∀ pc, pc < 216 → zckb (zby 179) 179 pc (zcode 179 pc) = true := by decide +kernel
theorem zdk_180 : ∀ pc, pc < 43 → zckb (zby 180) 180 pc (zcode 180 pc) = true := by decide +kernel
theorem zdk_181 : ∀ pc, pc < 29 → zckb (zby 181) 181 pc (zcode 181 pc) = true := by decide +kernel
theorem zdk_182 : ∀ pc, pc < 28 → zckb (zby 182) 182 pc (zcode 182 pc) = true := by decide +kernel
theorem zdk_183 : ∀ pc, pc < 287 → zckb (zby 183) 183 pc (zcode 183 pc) = true := by decide +kernel
theorem zdk_184 : ∀ pc, pc < 43 → zckb (zby 184) 184 pc (zcode 184 pc) = true := by decide +kernel
theorem zdk_185 : ∀ pc, pc < 37 → zckb (zby 185) 185 pc (zcode 185 pc) = true := by decide +kernel
theorem zdk_186 : ∀ pc, pc < 144 → zckb (zby 186) 186 pc (zcode 186 pc) = true := by decide +kernel
theorem zdk_187 : ∀ pc, pc < 56 → zckb (zby 187) 187 pc (zcode 187 pc) = true := by decide +kernel
theorem zdk_188 : ∀ pc, pc < 308 → zckb (zby 188) 188 pc (zcode 188 pc) = true := by decide +kernel
theorem zdk_189 : ∀ pc, pc < 28 → zckb (zby 189) 189 pc (zcode 189 pc) = true := by decide +kernel
theorem zdk_190 : ∀ pc, pc < 29 → zckb (zby 190) 190 pc (zcode 190 pc) = true := by decide +kernel
theorem zdk_191 : ∀ pc, pc < 101 → zckb (zby 191) 191 pc (zcode 191 pc) = true := by decide +kernel
theorem zdk_192 : ∀ pc, pc < 72 → zckb (zby 192) 192 pc (zcode 192 pc) = true := by decide +kernel
theorem zdk_193 : ∀ pc, pc < 239 → zckb (zby 193) 193 pc (zcode 193 pc) = true := by decide +kernel
theorem zdk_194 : ∀ pc, pc < 133 → zckb (zby 194) 194 pc (zcode 194 pc) = true := by decide +kernel
theorem zdk_195 : ∀ pc, pc < 38 → zckb (zby 195) 195 pc (zcode 195 pc) = true := by decide +kernel
theorem zdk_196 : ∀ pc, pc < 302 → zckb (zby 196) 196 pc (zcode 196 pc) = true := by decide +kernel
theorem zdk_197 : ∀ pc, pc < 38 → zckb (zby 197) 197 pc (zcode 197 pc) = true := by decide +kernel
theorem zdk_198 : ∀ pc, pc < 28 → zckb (zby 198) 198 pc (zcode 198 pc) = true := by decide +kernel
theorem zdk_199 : ∀ pc, pc < 70 → zckb (zby 199) 199 pc (zcode 199 pc) = true := by decide +kernel
theorem zdk_200 : ∀ pc, pc < 174 → zckb (zby 200) 200 pc (zcode 200 pc) = true := by decide +kernel
theorem zdk_201 : ∀ pc, pc < 77 → zckb (zby 201) 201 pc (zcode 201 pc) = true := by decide +kernel
theorem zdk_202 : ∀ pc, pc < 80 → zckb (zby 202) 202 pc (zcode 202 pc) = true := by decide +kernel
theorem zdk_203 : ∀ pc, pc < 275 → zckb (zby 203) 203 pc (zcode 203 pc) = true := by decide +kernel
theorem zdk_204 : ∀ pc, pc < 47 → zckb (zby 204) 204 pc (zcode 204 pc) = true := by decide +kernel
theorem zdk_205 : ∀ pc, pc < 41 → zckb (zby 205) 205 pc (zcode 205 pc) = true := by decide +kernel
theorem zdk_206 : ∀ pc, pc < 17 → zckb (zby 206) 206 pc (zcode 206 pc) = true := by decide +kernel
theorem zdk_207 : ∀ pc, pc < 114 → zckb (zby 207) 207 pc (zcode 207 pc) = true := by decide +kernel
theorem zdk_208 : ∀ pc, pc < 55 → zckb (zby 208) 208 pc (zcode 208 pc) = true := by decide +kernel
theorem zdk_209 : ∀ pc, pc < 24 → zckb (zby 209) 209 pc (zcode 209 pc) = true := by decide +kernel
theorem zdk_210 : ∀ pc, pc < 79 → zckb (zby 210) 210 pc (zcode 210 pc) = true := by decide +kernel
theorem zdk_211 : ∀ pc, pc < 242 → zckb (zby 211) 211 pc (zcode 211 pc) = true := by decide +kernel
theorem zdk_212 : ∀ pc, pc < 1500 → zckb (zby 212) 212 pc (zcode 212 pc) = true := by decide +kernel
def zln (mi : Nat) : Nat := (zH mi 106 (zH mi 53 (zH mi 26 (zH mi 13 (zH mi 6 (zH mi 3 (zH mi 1 (zE mi 0 115 0) (zH mi 2 (zE mi 1 18 0) (zE mi 2 30 0))) (zH mi 4 (zE mi 3 31 0) (zH mi 5 (zE mi 4 36 0) (zE mi 5 49 0)))) (zH mi 9 (zH mi 7 (zE mi 6 65 0) (zH mi 8 (zE mi 7 93 0) (zE mi 8 70 0))) (zH mi 11 (zH mi 10 (zE mi 9 85 0) (zE mi 10 39 0)) (zH mi 12 (zE mi 11 46 0) (zE mi 12 44 0))))) (zH mi 19 (zH mi 16 (zH mi 14 (zE mi 13 32 0) (zH mi 15 (zE mi 14 63 0) (zE mi 15 77 0))) (zH mi 17 (zE mi 16 82 0) (zH mi 18 (zE mi 17 51 0) (zE mi 18 75 0)))) (zH mi 22 (zH mi 20 (zE mi 19 23 0) (zH mi 21 (zE mi 20 63 0) (zE mi 21 52 0))) (zH mi 24 (zH mi 23 (zE mi 22 43 0) (zE mi 23 26 0)) (zH mi 25 (zE mi 24 139 0) (zE mi 25 90 0)))))) (zH mi 39 (zH mi 32 (zH mi 29 (zH mi 27 (zE mi 26 37 0) (zH mi 28 (zE mi 27 91 0) (zE mi 28 53 0))) (zH mi 30 (zE mi 29 27 0) (zH mi 31 (zE mi 30 100 0) (zE mi 31 92 0)))) (zH mi 35 (zH mi 33 (zE mi 32 32 0) (zH mi 34 (zE mi 33 28 0) (zE mi 34 25 0))) (zH mi 37 (zH mi 36 (zE mi 35 47 0) (zE mi 36 22 0)) (zH mi 38 (zE mi 37 18 0) (zE mi 38 29 0))))) (zH mi 46 (zH mi 42 (zH mi 40 (zE mi 39 22 0) (zH mi 41 (zE mi 40 13 0) (zE mi 41 15 0))) (zH mi 44 (zH mi 43 (zE mi 42 36 0) (zE mi 43 25 0)) (zH mi 45 (zE mi 44 25 0) (zE mi 45 34 0)))) (zH mi 49 (zH mi 47 (zE mi 46 38 0) (zH mi 48 (zE mi 47 29 0) (zE mi 48 123 0))) (zH mi 51 (zH mi 50 (zE mi 49 49 0) (zE mi 50 63 0)) (zH mi 52 (zE mi 51 48 0) (zE mi 52 59 0))))))) (zH mi 79 (zH mi 66 (zH mi 59 (zH mi 56 (zH mi 54 (zE mi 53 127 0) (zH mi 55 (zE mi 54 32 0) (zE mi 55 89 0))) (zH mi 57 (zE mi 56 15 0) (zH mi 58 (zE mi 57 218 0) (zE mi 58 45 0)))) (zH mi 62 (zH mi 60 (zE mi 59 13 0) (zH mi 61 (zE mi 60 14 0) (zE mi 61 27 0))) (zH mi 64 (zH mi 63 (zE mi 62 14 0) (zE mi 63 21 0)) (zH mi 65 (zE mi 64 19 0) (zE mi 65 110 0))))) (zH mi 72 (zH mi 69 (zH mi 67 (zE mi 66 40 0) (zH mi 68 (zE mi 67 44 0) (zE mi 68 134 0))) (zH mi 70 (zE mi 69 56 0) (zH mi 71 (zE mi 70 122 0) (zE mi 71 116 0)))) (zH mi 75 (zH mi 73 (zE mi 72 18 0) (zH mi 74 (zE mi 73 26 0) (zE mi 74 26 0))) (zH mi 77 (zH mi 76 (zE mi 75 52 0) (zE mi 76 31 0)) (zH mi 78 (zE mi 77 100 0) (zE mi 78 164 0)))))) (zH mi 92 (zH mi 85 (zH mi 82 (zH mi 80 (zE mi 79 188 0) (zH mi 81 (zE mi 80 54 0) (zE mi 81 33 0))) (zH mi 83 (zE mi 82 174 0) (zH mi 84 (zE mi 83 86 0) (zE mi 84 151 0)))) (zH mi 88 (zH mi 86 (zE mi 85 40 0) (zH mi 87 (zE mi 86 102 0) (zE mi 87 108 0))) (zH mi 90 (zH mi 89 (zE mi 88 47 0) (zE mi 89 26 0)) (zH mi 91 (zE mi 90 82 0) (zE mi 91 83 0))))) (zH mi 99 (zH mi 95 (zH mi 93 (zE mi 92 38 0) (zH mi 94 (zE mi 93 58 0) (zE mi 94 123 0))) (zH mi 97 (zH mi 96 (zE mi 95 51 0) (zE mi 96 64 0)) (zH mi 98 (zE mi 97 66 0) (zE mi 98 23 0)))) (zH mi 102 (zH mi 100 (zE mi 99 93 0) (zH mi 101 (zE mi 100 38 0) (zE mi 101 11 0))) (zH mi 104 (zH mi 103 (zE mi 102 15 0) (zE mi 103 10 0)) (zH mi 105 (zE mi 104 11 0) (zE mi 105 25 0)))))))) (zH mi 159 (zH mi 132 (zH mi 119 (zH mi 112 (zH mi 109 (zH mi 107 (zE mi 106 25 0) (zH mi 108 (zE mi 107 32 0) (zE mi 108 41 0))) (zH mi 110 (zE mi 109 61 0) (zH mi 111 (zE mi 110 92 0) (zE mi 111 33 0)))) (zH mi 115 (zH mi 113 (zE mi 112 40 0) (zH mi 114 (zE mi 113 14 0) (zE mi 114 69 0))) (zH mi 117 (zH mi 116 (zE mi 115 51 0) (zE mi 116 102 0)) (zH mi 118 (zE mi 117 53 0) (zE mi 118 27 0))))) (zH mi 125 (zH mi 122 (zH mi 120 (zE mi 119 43 0) (zH mi 121 (zE mi 120 80 0) (zE mi 121 46 0))) (zH mi 123 (zE mi 122 41 0) (zH mi 124 (zE mi 123 18 0) (zE mi 124 67 0)))) (zH mi 128 (zH mi 126 (zE mi 125 48 0) (zH mi 127 (zE mi 126 25 0) (zE mi 127 10 0))) (zH mi 130 (zH mi 129 (zE mi 128 178 0) (zE mi 129 8 0)) (zH mi 131 (zE mi 130 38 0) (zE mi 131 79 0)))))) (zH mi 145 (zH mi 138 (zH mi 135 (zH mi 133 (zE mi 132 33 0) (zH mi 134 (zE mi 133 5 0) (zE mi 134 16 0))) (zH mi 136 (zE mi 135 43 0) (zH mi 137 (zE mi 136 25 0) (zE mi 137 12 0)))) (zH mi 141 (zH mi 139 (zE mi 138 29 0) (zH mi 140 (zE mi 139 43 0) (zE mi 140 99 0))) (zH mi 143 (zH mi 142 (zE mi 141 16 0) (zE mi 142 106 0)) (zH mi 144 (zE mi 143 36 0) (zE mi 144 40 0))))) (zH mi 152 (zH mi 148 (zH mi 146 (zE mi 145 114 0) (zH mi 147 (zE mi 146 24 0) (zE mi 147 24 0))) (zH mi 150 (zH mi 149 (zE mi 148 33 0) (zE mi 149 24 0)) (zH mi 151 (zE mi 150 40 0) (zE mi 151 83 0)))) (zH mi 155 (zH mi 153 (zE mi 152 35 0) (zH mi 154 (zE mi 153 117 0) (zE mi 154 19 0))) (zH mi 157 (zH mi 156 (zE mi 155 25 0) (zE mi 156 333 0)) (zH mi 158 (zE mi 157 55 0) (zE mi 158 192 0))))))) (zH mi 186 (zH mi 172 (zH mi 165 (zH mi 162 (zH mi 160 (zE mi 159 91 0) (zH mi 161 (zE mi 160 57 0) (zE mi 161 127 0))) (zH mi 163 (zE mi 162 125 0) (zH mi 164 (zE mi 163 19 0) (zE mi 164 372 0)))) (zH mi 168 (zH mi 166 (zE mi 165 23 0) (zH mi 167 (zE mi 166 27 0) (zE mi 167 15 0))) (zH mi 170 (zH mi 169 (zE mi 168 21 0) (zE mi 169 103 0)) (zH mi 171 (zE mi 170 90 0) (zE mi 171 36 0))))) (zH mi 179 (zH mi 175 (zH mi 173 (zE mi 172 513 0) (zH mi 174 (zE mi 173 350 0) (zE mi 174 221 0))) (zH mi 177 (zH mi 176 (zE mi 175 37 0) (zE mi 176 54 0)) (zH mi 178 (zE mi 177 166 0) (zE mi 178 366 0)))) (zH mi 182 (zH mi 180 (zE mi 179 216 0) (zH mi 181 (zE mi 180 43 0) (zE mi 181 29 0))) (zH mi 184 (zH mi 183 (zE mi 182 28 0) (zE mi 183 287 0)) (zH mi 185 (zE mi 184 43 0) (zE mi 185 37 0)))))) (zH mi 199 (zH mi 192 (zH mi 189 (zH mi 187 (zE mi 186 144 0) (zH mi 188 (zE mi 187 56 0) (zE mi 188 308 0))) (zH mi 190 (zE mi 189 28 0) (zH mi 191 (zE mi 190 29 0) (zE mi 191 101 0)))) (zH mi 195 (zH mi 193 (zE mi 192 72 0) (zH mi 194 (zE mi 193 239 0) (zE mi 194 133 0))) (zH mi 197 (zH mi 196 (zE mi 195 38 0) (zE mi 196 302 0)) (zH mi 198 (zE mi 197 38 0) (zE mi 198 28 0))))) (zH mi 206 (zH mi 202 (zH mi 200 (zE mi 199 70 0) (zH mi 201 (zE mi 200 174 0) (zE mi 201 77 0))) (zH mi 204 (zH mi 203 (zE mi 202 80 0) (zE mi 203 275 0)) (zH mi 205 (zE mi 204 47 0) (zE mi 205 41 0)))) (zH mi 209 (zH mi 207 (zE mi 206 17 0) (zH mi 208 (zE mi 207 114 0) (zE mi 208 55 0))) (zH mi 211 (zH mi 210 (zE mi 209 24 0) (zE mi 210 79 0)) (zH mi 212 (zE mi 211 242 0) (zE mi 212 1500 0)))))))))
theorem zdk_all : ∀ mi, 0 ≤ mi → mi < 213 → ∀ pc, pc < zln mi → zckb (zby mi) mi pc (zcode mi pc) = true := (zsp 106 (zsp 53 (zsp 26 (zsp 13 (zsp 6 (zsp 3 (zsp 1 (zon (a := 0) zdk_0) (zsp 2 (zon (a := 1) zdk_1) (zon (a := 2) zdk_2))) (zsp 4 (zon (a := 3) zdk_3) (zsp 5 (zon (a := 4) zdk_4) (zon (a := 5) zdk_5)))) (zsp 9 (zsp 7 (zon (a := 6) zdk_6) (zsp 8 (zon (a := 7) zdk_7) (zon (a := 8) zdk_8))) (zsp 11 (zsp 10 (zon (a := 9) zdk_9) (zon (a := 10) zdk_10)) (zsp 12 (zon (a := 11) zdk_11) (zon (a := 12) zdk_12))))) (zsp 19 (zsp 16 (zsp 14 (zon (a := 13) zdk_13) (zsp 15 (zon (a := 14) zdk_14) (zon (a := 15) zdk_15))) (zsp 17 (zon (a := 16) zdk_16) (zsp 18 (zon (a := 17) zdk_17) (zon (a := 18) zdk_18)))) (zsp 22 (zsp 20 (zon (a := 19) zdk_19) (zsp 21 (zon (a := 20) zdk_20) (zon (a := 21) zdk_21))) (zsp 24 (zsp 23 (zon (a := 22) zdk_22) (zon (a := 23) zdk_23)) (zsp 25 (zon (a := 24) zdk_24) (zon (a := 25) zdk_25)))))) (zsp 39 (zsp 32 (zsp 29 (zsp 27 (zon (a := 26) zdk_26) (zsp 28 (zon (a := 27) zdk_27) (zon (a := 28) zdk_28))) (zsp 30 (zon (a := 29) zdk_29) (zsp 31 (zon (a := 30) zdk_30) (zon (a := 31) zdk_31)))) (zsp 35 (zsp 33 (zon (a := 32) zdk_32) (zsp 34 (zon (a := 33) zdk_33) (zon (a := 34) zdk_34))) (zsp 37 (zsp 36 (zon (a := 35) zdk_35) (zon (a := 36) zdk_36)) (zsp 38 (zon (a := 37) zdk_37) (zon (a := 38) zdk_38))))) (zsp 46 (zsp 42 (zsp 40 (zon (a := 39) zdk_39) (zsp 41 (zon (a := 40) zdk_40) (zon (a := 41) zdk_41))) (zsp 44 (zsp 43 (zon (a := 42) zdk_42) (zon (a := 43) zdk_43)) (zsp 45 (zon (a := 44) zdk_44) (zon (a := 45) zdk_45)))) (zsp 49 (zsp 47 (zon (a := 46) zdk_46) (zsp 48 (zon (a := 47) zdk_47) (zon (a := 48) zdk_48))) (zsp 51 (zsp 50 (zon (a := 49) zdk_49) (zon (a := 50) zdk_50)) (zsp 52 (zon (a := 51) zdk_51) (zon (a := 52) zdk_52))))))) (zsp 79 (zsp 66 (zsp 59 (zsp 56 (zsp 54 (zon (a := 53) zdk_53) (zsp 55 (zon (a := 54) zdk_54) (zon (a := 55) zdk_55))) (zsp 57 (zon (a := 56) zdk_56) (zsp 58 (zon (a := 57) zdk_57) (zon (a := 58) zdk_58)))) (zsp 62 (zsp 60 (zon (a := 59) zdk_59) (zsp 61 (zon (a := 60) zdk_60) (zon (a := 61) zdk_61))) (zsp 64 (zsp 63 (zon (a := 62) zdk_62) (zon (a := 63) zdk_63)) (zsp 65 (zon (a := 64) zdk_64) (zon (a := 65) zdk_65))))) (zsp 72 (zsp 69 (zsp 67 (zon (a := 66) zdk_66) (zsp 68 (zon (a := 67) zdk_67) (zon (a := 68) zdk_68))) (zsp 70 (zon (a := 69) zdk_69) (zsp 71 (zon (a := 70) zdk_70) (zon (a := 71) zdk_71)))) (zsp 75 (zsp 73 (zon (a := 72) zdk_72) (zsp 74 (zon (a := 73) zdk_73) (zon (a := 74) zdk_74))) (zsp 77 (zsp 76 (zon (a := 75) zdk_75) (zon (a := 76) zdk_76)) (zsp 78 (zon (a := 77) zdk_77) (zon (a := 78) zdk_78)))))) (zsp 92 (zsp 85 (zsp 82 (zsp 80 (zon (a := 79) zdk_79) (zsp 81 (zon (a := 80) zdk_80) (zon (a := 81) zdk_81))) (zsp 83 (zon (a := 82) zdk_82) (zsp 84 (zon (a := 83) zdk_83) (zon (a := 84) zdk_84)))) (zsp 88 (zsp 86 (zon (a := 85) zdk_85) (zsp 87 (zon (a := 86) zdk_86) (zon (a := 87) zdk_87))) (zsp 90 (zsp 89 (zon (a := 88) zdk_88) (zon (a := 89) zdk_89)) (zsp 91 (zon (a := 90) zdk_90) (zon (a := 91) zdk_91))))) (zsp 99 (zsp 95 (zsp 93 (zon (a := 92) zdk_92) (zsp 94 (zon (a := 93) zdk_93) (zon (a := 94) zdk_94))) (zsp 97 (zsp 96 (zon (a := 95) zdk_95) (zon (a := 96) zdk_96)) (zsp 98 (zon (a := 97) zdk_97) (zon (a := 98) zdk_98)))) (zsp 102 (zsp 100 (zon (a := 99) zdk_99) (zsp 101 (zon (a := 100) zdk_100) (zon (a := 101) zdk_101))) (zsp 104 (zsp 103 (zon (a := 102) zdk_102) (zon (a := 103) zdk_103)) (zsp 105 (zon (a := 104) zdk_104) (zon (a := 105) zdk_105)))))))) (zsp 159 (zsp 132 (zsp 119 (zsp 112 (zsp 109 (zsp 107 (zon (a := 106) zdk_106) (zsp 108 (zon (a := 107) zdk_107) (zon (a := 108) zdk_108))) (zsp 110 (zon (a := 109) zdk_109) (zsp 111 (zon (a := 110) zdk_110) (zon (a := 111) zdk_111)))) (zsp 115 (zsp 113 (zon (a := 112) zdk_112) (zsp 114 (zon (a := 113) zdk_113) (zon (a := 114) zdk_114))) (zsp 117 (zsp 116 (zon (a := 115) zdk_115) (zon (a := 116) zdk_116)) (zsp 118 (zon (a := 117) zdk_117) (zon (a := 118) zdk_118))))) (zsp 125 (zsp 122 (zsp 120 (zon (a := 119) zdk_119) (zsp 121 (zon (a := 120) zdk_120) (zon (a := 121) zdk_121))) (zsp 123 (zon (a := 122) zdk_122) (zsp 124 (zon (a := 123) zdk_123) (zon (a := 124) zdk_124)))) (zsp 128 (zsp 126 (zon (a := 125) zdk_125) (zsp 127 (zon (a := 126) zdk_126) (zon (a := 127) zdk_127))) (zsp 130 (zsp 129 (zon (a := 128) zdk_128) (zon (a := 129) zdk_129)) (zsp 131 (zon (a := 130) zdk_130) (zon (a := 131) zdk_131)))))) (zsp 145 (zsp 138 (zsp 135 (zsp 133 (zon (a := 132) zdk_132) (zsp 134 (zon (a := 133) zdk_133) (zon (a := 134) zdk_134))) (zsp 136 (zon (a := 135) zdk_135) (zsp 137 (zon (a := 136) zdk_136) (zon (a := 137) zdk_137)))) (zsp 141 (zsp 139 (zon (a := 138) zdk_138) (zsp 140 (zon (a := 139) zdk_139) (zon (a := 140) zdk_140))) (zsp 143 (zsp 142 (zon (a := 141) zdk_141) (zon (a := 142) zdk_142)) (zsp 144 (zon (a := 143) zdk_143) (zon (a := 144) zdk_144))))) (zsp 152 (zsp 148 (zsp 146 (zon (a := 145) zdk_145) (zsp 147 (zon (a := 146) zdk_146) (zon (a := 147) zdk_147))) (zsp 150 (zsp 149 (zon (a := 148) zdk_148) (zon (a := 149) zdk_149)) (zsp 151 (zon (a := 150) zdk_150) (zon (a := 151) zdk_151)))) (zsp 155 (zsp 153 (zon (a := 152) zdk_152) (zsp 154 (zon (a := 153) zdk_153) (zon (a := 154) zdk_154))) (zsp 157 (zsp 156 (zon (a := 155) zdk_155) (zon (a := 156) zdk_156)) (zsp 158 (zon (a := 157) zdk_157) (zon (a := 158) zdk_158))))))) (zsp 186 (zsp 172 (zsp 165 (zsp 162 (zsp 160 (zon (a := 159) zdk_159) (zsp 161 (zon (a := 160) zdk_160) (zon (a := 161) zdk_161))) (zsp 163 (zon (a := 162) zdk_162) (zsp 164 (zon (a := 163) zdk_163) (zon (a := 164) zdk_164)))) (zsp 168 (zsp 166 (zon (a := 165) zdk_165) (zsp 167 (zon (a := 166) zdk_166) (zon (a := 167) zdk_167))) (zsp 170 (zsp 169 (zon (a := 168) zdk_168) (zon (a := 169) zdk_169)) (zsp 171 (zon (a := 170) zdk_170) (zon (a := 171) zdk_171))))) (zsp 179 (zsp 175 (zsp 173 (zon (a := 172) zdk_172) (zsp 174 (zon (a := 173) zdk_173) (zon (a := 174) zdk_174))) (zsp 177 (zsp 176 (zon (a := 175) zdk_175) (zon (a := 176) zdk_176)) (zsp 178 (zon (a := 177) zdk_177) (zon (a := 178) zdk_178)))) (zsp 182 (zsp 180 (zon (a := 179) zdk_179) (zsp 181 (zon (a := 180) zdk_180) (zon (a := 181) zdk_181))) (zsp 184 (zsp 183 (zon (a := 182) zdk_182) (zon (a := 183) zdk_183)) (zsp 185 (zon (a := 184) zdk_184) (zon (a := 185) zdk_185)))))) (zsp 199 (zsp 192 (zsp 189 (zsp 187 (zon (a := 186) zdk_186) (zsp 188 (zon (a := 187) zdk_187) (zon (a := 188) zdk_188))) (zsp 190 (zon (a := 189) zdk_189) (zsp 191 (zon (a := 190) zdk_190) (zon (a := 191) zdk_191)))) (zsp 195 (zsp 193 (zon (a := 192) zdk_192) (zsp 194 (zon (a := 193) zdk_193) (zon (a := 194) zdk_194))) (zsp 197 (zsp 196 (zon (a := 195) zdk_195) (zon (a := 196) zdk_196)) (zsp 198 (zon (a := 197) zdk_197) (zon (a := 198) zdk_198))))) (zsp 206 (zsp 202 (zsp 200 (zon (a := 199) zdk_199) (zsp 201 (zon (a := 200) zdk_200) (zon (a := 201) zdk_201))) (zsp 204 (zsp 203 (zon (a := 202) zdk_202) (zon (a := 203) zdk_203)) (zsp 205 (zon (a := 204) zdk_204) (zon (a := 205) zdk_205)))) (zsp 209 (zsp 207 (zon (a := 206) zdk_206) (zsp 208 (zon (a := 207) zdk_207) (zon (a := 208) zdk_208))) (zsp 211 (zsp 210 (zon (a := 209) zdk_209) (zon (a := 210) zdk_210)) (zsp 212 (zon (a := 211) zdk_211) (zon (a := 212) zdk_212)))))))))
