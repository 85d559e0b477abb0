/-! THE CONSTRUCTORS, followed: printed by wip/whole/ctor.py -/
theorem zC_vin {i : Int32} {k n N : Nat} (h1 : i = nI k) (h2 : n = N) (h3 : Nat.blt k N = true) (h4 : Nat.blt N 2147483648 = true) : vp_in i n := by
  subst h1; subst h2
  exact zz_vk h3 h4
/-- the pool as the law begins: what is only read -/
def zS (I : Nat → Nat → Int32) (n1 : Nat) : zz_P := (0, 0, fun a => if a < 2 then 18 else 99, fun a => if a = 0 then 7 else if a = 1 then n1 else 0, I, fun _ _ => none, fun _ _ => 0)
def zT_0 (I : Nat → Nat → Int32) (n1 : Nat) : zz_P := zS I n1
def zT_1 (I : Nat → Nat → Int32) (n1 : Nat) : zz_P := zz_new (zT_0 I n1) 10 17
def zT_2 (I : Nat → Nat → Int32) (n1 : Nat) : zz_P := zz_new (zT_1 I n1) 13 80
def zT_3 (I : Nat → Nat → Int32) (n1 : Nat) : zz_P := zz_pR (zT_2 I n1) 2 0 (some 3)
def zT_4 (I : Nat → Nat → Int32) (n1 : Nat) : zz_P := zz_new (zT_3 I n1) 15 12
def zT_5 (I : Nat → Nat → Int32) (n1 : Nat) : zz_P := zz_pR (zT_4 I n1) 2 2 (some 4)
def zT_6 (I : Nat → Nat → Int32) (n1 : Nat) : zz_P := zz_new (zT_5 I n1) 8 3
def zT_7 (I : Nat → Nat → Int32) (n1 : Nat) : zz_P := zz_new (zT_6 I n1) 14 84
def zT_8 (I : Nat → Nat → Int32) (n1 : Nat) : zz_P := zz_pR (zT_7 I n1) 5 0 (some 6)
def zT_9 (I : Nat → Nat → Int32) (n1 : Nat) : zz_P := zz_new (zT_8 I n1) 14 2
def zT_10 (I : Nat → Nat → Int32) (n1 : Nat) : zz_P := zz_pR (zT_9 I n1) 5 1 (some 7)
def zT_11 (I : Nat → Nat → Int32) (n1 : Nat) : zz_P := zz_pR (zT_10 I n1) 2 4 (some 5)
def zT_12 (I : Nat → Nat → Int32) (n1 : Nat) : zz_P := zz_new (zT_11 I n1) 5 9
def zT_13 (I : Nat → Nat → Int32) (n1 : Nat) : zz_P := zz_pI (zT_12 I n1) 8 1 (Int32.ofInt (-1))
def zT_14 (I : Nat → Nat → Int32) (n1 : Nat) : zz_P := zz_pR (zT_13 I n1) 2 5 (some 8)
def zT_15 (I : Nat → Nat → Int32) (n1 : Nat) : zz_P := zz_new (zT_14 I n1) 6 6
def zT_16 (I : Nat → Nat → Int32) (n1 : Nat) : zz_P := zz_new (zT_15 I n1) 17 12
def zT_17 (I : Nat → Nat → Int32) (n1 : Nat) : zz_P := zz_pR (zT_16 I n1) 9 0 (some 10)
def zT_18 (I : Nat → Nat → Int32) (n1 : Nat) : zz_P := zz_new (zT_17 I n1) 17 2
def zT_19 (I : Nat → Nat → Int32) (n1 : Nat) : zz_P := zz_pR (zT_18 I n1) 9 1 (some 11)
def zT_20 (I : Nat → Nat → Int32) (n1 : Nat) : zz_P := zz_new (zT_19 I n1) 16 2
def zT_21 (I : Nat → Nat → Int32) (n1 : Nat) : zz_P := zz_pR (zT_20 I n1) 9 2 (some 12)
def zT_22 (I : Nat → Nat → Int32) (n1 : Nat) : zz_P := zz_new (zT_21 I n1) 5 9
def zT_23 (I : Nat → Nat → Int32) (n1 : Nat) : zz_P := zz_pI (zT_22 I n1) 13 1 (Int32.ofInt (-1))
def zT_24 (I : Nat → Nat → Int32) (n1 : Nat) : zz_P := zz_pR (zT_23 I n1) 9 3 (some 13)
def zT_25 (I : Nat → Nat → Int32) (n1 : Nat) : zz_P := zz_new (zT_24 I n1) 5 9
def zT_26 (I : Nat → Nat → Int32) (n1 : Nat) : zz_P := zz_pI (zT_25 I n1) 14 1 (Int32.ofInt (-1))
def zT_27 (I : Nat → Nat → Int32) (n1 : Nat) : zz_P := zz_pR (zT_26 I n1) 10 0 (some 14)
def zT_28 (I : Nat → Nat → Int32) (n1 : Nat) : zz_P := zz_new (zT_27 I n1) 5 9
def zT_29 (I : Nat → Nat → Int32) (n1 : Nat) : zz_P := zz_pI (zT_28 I n1) 15 1 (Int32.ofInt (-1))
def zT_30 (I : Nat → Nat → Int32) (n1 : Nat) : zz_P := zz_pR (zT_29 I n1) 10 1 (some 15)
def zT_31 (I : Nat → Nat → Int32) (n1 : Nat) : zz_P := zz_new (zT_30 I n1) 5 9
def zT_32 (I : Nat → Nat → Int32) (n1 : Nat) : zz_P := zz_pI (zT_31 I n1) 16 1 (Int32.ofInt (-1))
def zT_33 (I : Nat → Nat → Int32) (n1 : Nat) : zz_P := zz_pR (zT_32 I n1) 10 2 (some 16)
def zT_34 (I : Nat → Nat → Int32) (n1 : Nat) : zz_P := zz_new (zT_33 I n1) 5 9
def zT_35 (I : Nat → Nat → Int32) (n1 : Nat) : zz_P := zz_pI (zT_34 I n1) 17 1 (Int32.ofInt (-1))
def zT_36 (I : Nat → Nat → Int32) (n1 : Nat) : zz_P := zz_pR (zT_35 I n1) 10 3 (some 17)
def zT_37 (I : Nat → Nat → Int32) (n1 : Nat) : zz_P := zz_new (zT_36 I n1) 5 9
def zT_38 (I : Nat → Nat → Int32) (n1 : Nat) : zz_P := zz_pI (zT_37 I n1) 18 1 (Int32.ofInt (-1))
def zT_39 (I : Nat → Nat → Int32) (n1 : Nat) : zz_P := zz_pR (zT_38 I n1) 10 4 (some 18)
def zT_40 (I : Nat → Nat → Int32) (n1 : Nat) : zz_P := zz_new (zT_39 I n1) 5 9
def zT_41 (I : Nat → Nat → Int32) (n1 : Nat) : zz_P := zz_pI (zT_40 I n1) 19 1 (Int32.ofInt (-1))
def zT_42 (I : Nat → Nat → Int32) (n1 : Nat) : zz_P := zz_pR (zT_41 I n1) 10 5 (some 19)
def zT_43 (I : Nat → Nat → Int32) (n1 : Nat) : zz_P := zz_new (zT_42 I n1) 5 9
def zT_44 (I : Nat → Nat → Int32) (n1 : Nat) : zz_P := zz_pI (zT_43 I n1) 20 1 (Int32.ofInt (-1))
def zT_45 (I : Nat → Nat → Int32) (n1 : Nat) : zz_P := zz_pR (zT_44 I n1) 10 6 (some 20)
def zT_46 (I : Nat → Nat → Int32) (n1 : Nat) : zz_P := zz_new (zT_45 I n1) 5 9
def zT_47 (I : Nat → Nat → Int32) (n1 : Nat) : zz_P := zz_pI (zT_46 I n1) 21 1 (Int32.ofInt (-1))
def zT_48 (I : Nat → Nat → Int32) (n1 : Nat) : zz_P := zz_pR (zT_47 I n1) 10 7 (some 21)
def zT_49 (I : Nat → Nat → Int32) (n1 : Nat) : zz_P := zz_new (zT_48 I n1) 5 9
def zT_50 (I : Nat → Nat → Int32) (n1 : Nat) : zz_P := zz_pI (zT_49 I n1) 22 1 (Int32.ofInt (-1))
def zT_51 (I : Nat → Nat → Int32) (n1 : Nat) : zz_P := zz_pR (zT_50 I n1) 10 8 (some 22)
def zT_52 (I : Nat → Nat → Int32) (n1 : Nat) : zz_P := zz_new (zT_51 I n1) 5 9
def zT_53 (I : Nat → Nat → Int32) (n1 : Nat) : zz_P := zz_pI (zT_52 I n1) 23 1 (Int32.ofInt (-1))
def zT_54 (I : Nat → Nat → Int32) (n1 : Nat) : zz_P := zz_pR (zT_53 I n1) 10 9 (some 23)
def zT_55 (I : Nat → Nat → Int32) (n1 : Nat) : zz_P := zz_new (zT_54 I n1) 5 9
def zT_56 (I : Nat → Nat → Int32) (n1 : Nat) : zz_P := zz_pI (zT_55 I n1) 24 1 (Int32.ofInt (-1))
def zT_57 (I : Nat → Nat → Int32) (n1 : Nat) : zz_P := zz_pR (zT_56 I n1) 10 10 (some 24)
def zT_58 (I : Nat → Nat → Int32) (n1 : Nat) : zz_P := zz_new (zT_57 I n1) 5 9
def zT_59 (I : Nat → Nat → Int32) (n1 : Nat) : zz_P := zz_pI (zT_58 I n1) 25 1 (Int32.ofInt (-1))
def zT_60 (I : Nat → Nat → Int32) (n1 : Nat) : zz_P := zz_pR (zT_59 I n1) 10 11 (some 25)
def zT_61 (I : Nat → Nat → Int32) (n1 : Nat) : zz_P := zz_new (zT_60 I n1) 5 9
def zT_62 (I : Nat → Nat → Int32) (n1 : Nat) : zz_P := zz_pI (zT_61 I n1) 26 1 (Int32.ofInt (-1))
def zT_63 (I : Nat → Nat → Int32) (n1 : Nat) : zz_P := zz_pR (zT_62 I n1) 11 0 (some 26)
def zT_64 (I : Nat → Nat → Int32) (n1 : Nat) : zz_P := zz_new (zT_63 I n1) 5 9
def zT_65 (I : Nat → Nat → Int32) (n1 : Nat) : zz_P := zz_pI (zT_64 I n1) 27 1 (Int32.ofInt (-1))
def zT_66 (I : Nat → Nat → Int32) (n1 : Nat) : zz_P := zz_pR (zT_65 I n1) 11 1 (some 27)
def zT_67 (I : Nat → Nat → Int32) (n1 : Nat) : zz_P := zz_pR (zT_66 I n1) 2 6 (some 9)
def zT_68 (I : Nat → Nat → Int32) (n1 : Nat) : zz_P := zz_new (zT_67 I n1) 1 5
def zT_69 (I : Nat → Nat → Int32) (n1 : Nat) : zz_P := zz_new (zT_68 I n1) 14 40
def zT_70 (I : Nat → Nat → Int32) (n1 : Nat) : zz_P := zz_pR (zT_69 I n1) 28 0 (some 29)
def zT_71 (I : Nat → Nat → Int32) (n1 : Nat) : zz_P := zz_new (zT_70 I n1) 14 40
def zT_72 (I : Nat → Nat → Int32) (n1 : Nat) : zz_P := zz_pR (zT_71 I n1) 28 1 (some 30)
def zT_73 (I : Nat → Nat → Int32) (n1 : Nat) : zz_P := zz_new (zT_72 I n1) 14 144
def zT_74 (I : Nat → Nat → Int32) (n1 : Nat) : zz_P := zz_pR (zT_73 I n1) 28 2 (some 31)
def zT_75 (I : Nat → Nat → Int32) (n1 : Nat) : zz_P := zz_pI (zT_74 I n1) 28 3 (7)
def zT_76 (I : Nat → Nat → Int32) (n1 : Nat) : zz_P := zz_pI (zT_75 I n1) 29 0 (I 0 0)
def zT_77 (I : Nat → Nat → Int32) (n1 : Nat) : zz_P := zz_pI (zT_76 I n1) 29 1 (I 0 1)
def zT_78 (I : Nat → Nat → Int32) (n1 : Nat) : zz_P := zz_pI (zT_77 I n1) 29 2 (I 0 2)
def zT_79 (I : Nat → Nat → Int32) (n1 : Nat) : zz_P := zz_pI (zT_78 I n1) 29 3 (I 0 3)
def zT_80 (I : Nat → Nat → Int32) (n1 : Nat) : zz_P := zz_pI (zT_79 I n1) 29 4 (I 0 4)
def zT_81 (I : Nat → Nat → Int32) (n1 : Nat) : zz_P := zz_pI (zT_80 I n1) 29 5 (I 0 5)
def zT_82 (I : Nat → Nat → Int32) (n1 : Nat) : zz_P := zz_pI (zT_81 I n1) 29 6 (I 0 6)
def zT_83 (I : Nat → Nat → Int32) (n1 : Nat) : zz_P := zz_pI (zT_82 I n1) 28 4 (0)
def zT_84 (I : Nat → Nat → Int32) (n1 : Nat) : zz_P := zz_pR (zT_83 I n1) 2 7 (some 28)
def zT_85 (I : Nat → Nat → Int32) (n1 : Nat) : zz_P := zz_new (zT_84 I n1) 1 5
def zT_86 (I : Nat → Nat → Int32) (n1 : Nat) : zz_P := zz_new (zT_85 I n1) 14 40
def zT_87 (I : Nat → Nat → Int32) (n1 : Nat) : zz_P := zz_pR (zT_86 I n1) 32 0 (some 33)
def zT_88 (I : Nat → Nat → Int32) (n1 : Nat) : zz_P := zz_new (zT_87 I n1) 14 40
def zT_89 (I : Nat → Nat → Int32) (n1 : Nat) : zz_P := zz_pR (zT_88 I n1) 32 1 (some 34)
def zT_90 (I : Nat → Nat → Int32) (n1 : Nat) : zz_P := zz_new (zT_89 I n1) 14 144
def zT_91 (I : Nat → Nat → Int32) (n1 : Nat) : zz_P := zz_pR (zT_90 I n1) 32 2 (some 35)
def zT_92 (I : Nat → Nat → Int32) (n1 : Nat) : zz_P := zz_pI (zT_91 I n1) 32 3 (7)
def zT_93 (I : Nat → Nat → Int32) (n1 : Nat) : zz_P := zz_pI (zT_92 I n1) 33 0 (I 0 0)
def zT_94 (I : Nat → Nat → Int32) (n1 : Nat) : zz_P := zz_pI (zT_93 I n1) 33 1 (I 0 1)
def zT_95 (I : Nat → Nat → Int32) (n1 : Nat) : zz_P := zz_pI (zT_94 I n1) 33 2 (I 0 2)
def zT_96 (I : Nat → Nat → Int32) (n1 : Nat) : zz_P := zz_pI (zT_95 I n1) 33 3 (I 0 3)
def zT_97 (I : Nat → Nat → Int32) (n1 : Nat) : zz_P := zz_pI (zT_96 I n1) 33 4 (I 0 4)
def zT_98 (I : Nat → Nat → Int32) (n1 : Nat) : zz_P := zz_pI (zT_97 I n1) 33 5 (I 0 5)
def zT_99 (I : Nat → Nat → Int32) (n1 : Nat) : zz_P := zz_pI (zT_98 I n1) 33 6 (I 0 6)
def zT_100 (I : Nat → Nat → Int32) (n1 : Nat) : zz_P := zz_pI (zT_99 I n1) 32 4 (0)
def zT_101 (I : Nat → Nat → Int32) (n1 : Nat) : zz_P := zz_pR (zT_100 I n1) 2 8 (some 32)
def zT_102 (I : Nat → Nat → Int32) (n1 : Nat) : zz_P := zz_new (zT_101 I n1) 3 4
def zT_103 (I : Nat → Nat → Int32) (n1 : Nat) : zz_P := zz_pR (zT_102 I n1) 36 0 (some 5)
def zT_104 (I : Nat → Nat → Int32) (n1 : Nat) : zz_P := zz_pR (zT_103 I n1) 2 9 (some 36)
def zT_105 (I : Nat → Nat → Int32) (n1 : Nat) : zz_P := zz_new (zT_104 I n1) 7 8
def zT_106 (I : Nat → Nat → Int32) (n1 : Nat) : zz_P := zz_new (zT_105 I n1) 14 40
def zT_107 (I : Nat → Nat → Int32) (n1 : Nat) : zz_P := zz_pR (zT_106 I n1) 37 0 (some 38)
def zT_108 (I : Nat → Nat → Int32) (n1 : Nat) : zz_P := zz_new (zT_107 I n1) 14 40
def zT_109 (I : Nat → Nat → Int32) (n1 : Nat) : zz_P := zz_pR (zT_108 I n1) 37 1 (some 39)
def zT_110 (I : Nat → Nat → Int32) (n1 : Nat) : zz_P := zz_pR (zT_109 I n1) 2 10 (some 37)
def zT_111 (I : Nat → Nat → Int32) (n1 : Nat) : zz_P := zz_new (zT_110 I n1) 0 1
def zT_112 (I : Nat → Nat → Int32) (n1 : Nat) : zz_P := zz_pR (zT_111 I n1) 2 11 (some 40)
def zT_113 (I : Nat → Nat → Int32) (n1 : Nat) : zz_P := zz_new (zT_112 I n1) 4 16
def zT_114 (I : Nat → Nat → Int32) (n1 : Nat) : zz_P := zz_new (zT_113 I n1) 14 156
def zT_115 (I : Nat → Nat → Int32) (n1 : Nat) : zz_P := zz_pR (zT_114 I n1) 41 1 (some 42)
def zT_116 (I : Nat → Nat → Int32) (n1 : Nat) : zz_P := zz_new (zT_115 I n1) 14 26
def zT_117 (I : Nat → Nat → Int32) (n1 : Nat) : zz_P := zz_pR (zT_116 I n1) 41 2 (some 43)
def zT_118 (I : Nat → Nat → Int32) (n1 : Nat) : zz_P := zz_new (zT_117 I n1) 14 338
def zT_119 (I : Nat → Nat → Int32) (n1 : Nat) : zz_P := zz_pR (zT_118 I n1) 41 3 (some 44)
def zT_120 (I : Nat → Nat → Int32) (n1 : Nat) : zz_P := zz_new (zT_119 I n1) 14 12
def zT_121 (I : Nat → Nat → Int32) (n1 : Nat) : zz_P := zz_pR (zT_120 I n1) 41 4 (some 45)
def zT_122 (I : Nat → Nat → Int32) (n1 : Nat) : zz_P := zz_pR (zT_121 I n1) 41 0 (some 5)
def zT_123 (I : Nat → Nat → Int32) (n1 : Nat) : zz_P := zz_pR (zT_122 I n1) 2 12 (some 41)
def zT_124 (I : Nat → Nat → Int32) (n1 : Nat) : zz_P := zz_new (zT_123 I n1) 9 4
def zT_125 (I : Nat → Nat → Int32) (n1 : Nat) : zz_P := zz_new (zT_124 I n1) 14 12
def zT_126 (I : Nat → Nat → Int32) (n1 : Nat) : zz_P := zz_pR (zT_125 I n1) 46 2 (some 47)
def zT_127 (I : Nat → Nat → Int32) (n1 : Nat) : zz_P := zz_new (zT_126 I n1) 14 0
def zT_128 (I : Nat → Nat → Int32) (n1 : Nat) : zz_P := zz_pR (zT_127 I n1) 46 3 (some 48)
def zT_129 (I : Nat → Nat → Int32) (n1 : Nat) : zz_P := zz_pR (zT_128 I n1) 46 0 (some 5)
def zT_130 (I : Nat → Nat → Int32) (n1 : Nat) : zz_P := zz_pR (zT_129 I n1) 46 1 (some 8)
def zT_131 (I : Nat → Nat → Int32) (n1 : Nat) : zz_P := zz_pR (zT_130 I n1) 2 13 (some 46)
def zT_132 (I : Nat → Nat → Int32) (n1 : Nat) : zz_P := zz_new (zT_131 I n1) 2 3
def zT_133 (I : Nat → Nat → Int32) (n1 : Nat) : zz_P := zz_new (zT_132 I n1) 14 13
def zT_134 (I : Nat → Nat → Int32) (n1 : Nat) : zz_P := zz_pR (zT_133 I n1) 49 1 (some 50)
def zT_135 (I : Nat → Nat → Int32) (n1 : Nat) : zz_P := zz_new (zT_134 I n1) 14 41
def zT_136 (I : Nat → Nat → Int32) (n1 : Nat) : zz_P := zz_pR (zT_135 I n1) 49 2 (some 51)
def zT_137 (I : Nat → Nat → Int32) (n1 : Nat) : zz_P := zz_pR (zT_136 I n1) 49 0 (some 5)
def zT_138 (I : Nat → Nat → Int32) (n1 : Nat) : zz_P := zz_pR (zT_137 I n1) 2 14 (some 49)
def zT_139 (I : Nat → Nat → Int32) (n1 : Nat) : zz_P := zz_new (zT_138 I n1) 11 49
def zT_140 (I : Nat → Nat → Int32) (n1 : Nat) : zz_P := zz_new (zT_139 I n1) 14 18
def zT_141 (I : Nat → Nat → Int32) (n1 : Nat) : zz_P := zz_pR (zT_140 I n1) 52 0 (some 53)
def zT_142 (I : Nat → Nat → Int32) (n1 : Nat) : zz_P := zz_new (zT_141 I n1) 14 84
def zT_143 (I : Nat → Nat → Int32) (n1 : Nat) : zz_P := zz_pR (zT_142 I n1) 52 2 (some 54)
def zT_144 (I : Nat → Nat → Int32) (n1 : Nat) : zz_P := zz_new (zT_143 I n1) 12 80
def zT_145 (I : Nat → Nat → Int32) (n1 : Nat) : zz_P := zz_pR (zT_144 I n1) 52 3 (some 55)
def zT_146 (I : Nat → Nat → Int32) (n1 : Nat) : zz_P := zz_new (zT_145 I n1) 15 20
def zT_147 (I : Nat → Nat → Int32) (n1 : Nat) : zz_P := zz_pR (zT_146 I n1) 52 5 (some 56)
def zT_148 (I : Nat → Nat → Int32) (n1 : Nat) : zz_P := zz_new (zT_147 I n1) 14 84
def zT_149 (I : Nat → Nat → Int32) (n1 : Nat) : zz_P := zz_pR (zT_148 I n1) 52 13 (some 57)
def zT_150 (I : Nat → Nat → Int32) (n1 : Nat) : zz_P := zz_new (zT_149 I n1) 12 40
def zT_151 (I : Nat → Nat → Int32) (n1 : Nat) : zz_P := zz_pR (zT_150 I n1) 52 14 (some 58)
def zT_152 (I : Nat → Nat → Int32) (n1 : Nat) : zz_P := zz_new (zT_151 I n1) 12 40
def zT_153 (I : Nat → Nat → Int32) (n1 : Nat) : zz_P := zz_pR (zT_152 I n1) 52 15 (some 59)
def zT_154 (I : Nat → Nat → Int32) (n1 : Nat) : zz_P := zz_new (zT_153 I n1) 14 6
def zT_155 (I : Nat → Nat → Int32) (n1 : Nat) : zz_P := zz_pR (zT_154 I n1) 52 18 (some 60)
def zT_156 (I : Nat → Nat → Int32) (n1 : Nat) : zz_P := zz_new (zT_155 I n1) 14 216
def zT_157 (I : Nat → Nat → Int32) (n1 : Nat) : zz_P := zz_pR (zT_156 I n1) 52 19 (some 61)
def zT_158 (I : Nat → Nat → Int32) (n1 : Nat) : zz_P := zz_new (zT_157 I n1) 14 18
def zT_159 (I : Nat → Nat → Int32) (n1 : Nat) : zz_P := zz_pR (zT_158 I n1) 52 21 (some 62)
def zT_160 (I : Nat → Nat → Int32) (n1 : Nat) : zz_P := zz_new (zT_159 I n1) 14 18
def zT_161 (I : Nat → Nat → Int32) (n1 : Nat) : zz_P := zz_pR (zT_160 I n1) 52 22 (some 63)
def zT_162 (I : Nat → Nat → Int32) (n1 : Nat) : zz_P := zz_new (zT_161 I n1) 14 160
def zT_163 (I : Nat → Nat → Int32) (n1 : Nat) : zz_P := zz_pR (zT_162 I n1) 52 23 (some 64)
def zT_164 (I : Nat → Nat → Int32) (n1 : Nat) : zz_P := zz_new (zT_163 I n1) 14 12
def zT_165 (I : Nat → Nat → Int32) (n1 : Nat) : zz_P := zz_pR (zT_164 I n1) 52 24 (some 65)
def zT_166 (I : Nat → Nat → Int32) (n1 : Nat) : zz_P := zz_new (zT_165 I n1) 14 12
def zT_167 (I : Nat → Nat → Int32) (n1 : Nat) : zz_P := zz_pR (zT_166 I n1) 52 25 (some 66)
def zT_168 (I : Nat → Nat → Int32) (n1 : Nat) : zz_P := zz_new (zT_167 I n1) 14 2
def zT_169 (I : Nat → Nat → Int32) (n1 : Nat) : zz_P := zz_pR (zT_168 I n1) 52 26 (some 67)
def zT_170 (I : Nat → Nat → Int32) (n1 : Nat) : zz_P := zz_new (zT_169 I n1) 14 13
def zT_171 (I : Nat → Nat → Int32) (n1 : Nat) : zz_P := zz_pR (zT_170 I n1) 52 27 (some 68)
def zT_172 (I : Nat → Nat → Int32) (n1 : Nat) : zz_P := zz_new (zT_171 I n1) 14 2
def zT_173 (I : Nat → Nat → Int32) (n1 : Nat) : zz_P := zz_pR (zT_172 I n1) 52 31 (some 69)
def zT_174 (I : Nat → Nat → Int32) (n1 : Nat) : zz_P := zz_new (zT_173 I n1) 14 12
def zT_175 (I : Nat → Nat → Int32) (n1 : Nat) : zz_P := zz_pR (zT_174 I n1) 52 32 (some 70)
def zT_176 (I : Nat → Nat → Int32) (n1 : Nat) : zz_P := zz_new (zT_175 I n1) 14 12
def zT_177 (I : Nat → Nat → Int32) (n1 : Nat) : zz_P := zz_pR (zT_176 I n1) 52 33 (some 71)
def zT_178 (I : Nat → Nat → Int32) (n1 : Nat) : zz_P := zz_new (zT_177 I n1) 14 2
def zT_179 (I : Nat → Nat → Int32) (n1 : Nat) : zz_P := zz_pR (zT_178 I n1) 52 34 (some 72)
def zT_180 (I : Nat → Nat → Int32) (n1 : Nat) : zz_P := zz_new (zT_179 I n1) 14 12
def zT_181 (I : Nat → Nat → Int32) (n1 : Nat) : zz_P := zz_pR (zT_180 I n1) 52 36 (some 73)
def zT_182 (I : Nat → Nat → Int32) (n1 : Nat) : zz_P := zz_new (zT_181 I n1) 14 507
def zT_183 (I : Nat → Nat → Int32) (n1 : Nat) : zz_P := zz_pR (zT_182 I n1) 52 37 (some 74)
def zT_184 (I : Nat → Nat → Int32) (n1 : Nat) : zz_P := zz_new (zT_183 I n1) 14 12
def zT_185 (I : Nat → Nat → Int32) (n1 : Nat) : zz_P := zz_pR (zT_184 I n1) 52 38 (some 75)
def zT_186 (I : Nat → Nat → Int32) (n1 : Nat) : zz_P := zz_new (zT_185 I n1) 14 12
def zT_187 (I : Nat → Nat → Int32) (n1 : Nat) : zz_P := zz_pR (zT_186 I n1) 52 39 (some 76)
def zT_188 (I : Nat → Nat → Int32) (n1 : Nat) : zz_P := zz_new (zT_187 I n1) 14 4096
def zT_189 (I : Nat → Nat → Int32) (n1 : Nat) : zz_P := zz_pR (zT_188 I n1) 52 40 (some 77)
def zT_190 (I : Nat → Nat → Int32) (n1 : Nat) : zz_P := zz_new (zT_189 I n1) 15 13
def zT_191 (I : Nat → Nat → Int32) (n1 : Nat) : zz_P := zz_pR (zT_190 I n1) 52 41 (some 78)
def zT_192 (I : Nat → Nat → Int32) (n1 : Nat) : zz_P := zz_new (zT_191 I n1) 14 41
def zT_193 (I : Nat → Nat → Int32) (n1 : Nat) : zz_P := zz_pR (zT_192 I n1) 52 42 (some 79)
def zT_194 (I : Nat → Nat → Int32) (n1 : Nat) : zz_P := zz_new (zT_193 I n1) 14 36
def zT_195 (I : Nat → Nat → Int32) (n1 : Nat) : zz_P := zz_pR (zT_194 I n1) 52 46 (some 80)
def zT_196 (I : Nat → Nat → Int32) (n1 : Nat) : zz_P := zz_new (zT_195 I n1) 16 2
def zT_197 (I : Nat → Nat → Int32) (n1 : Nat) : zz_P := zz_pR (zT_196 I n1) 52 47 (some 81)
def zT_198 (I : Nat → Nat → Int32) (n1 : Nat) : zz_P := zz_new (zT_197 I n1) 14 2
def zT_199 (I : Nat → Nat → Int32) (n1 : Nat) : zz_P := zz_pR (zT_198 I n1) 52 48 (some 82)
def zT_200 (I : Nat → Nat → Int32) (n1 : Nat) : zz_P := zz_pI (zT_199 I n1) 53 13 (Int32.ofInt (-1))
def zT_201 (I : Nat → Nat → Int32) (n1 : Nat) : zz_P := zz_new (zT_200 I n1) 15 1
/-- the same as a list of what was done, the last first: (0, kind, length), (1, cell, place, _, 1 + place in the plain rule or 0, value), (2, cell, place, address) -/
def zO1 (I : Nat → Nat → Int32) (S : zz_P) (q : Nat × Nat × Nat × Nat × Nat × Int32) : zz_P := match q.1 with
  | 0 => zz_new S q.2.1 q.2.2.1
  | 1 => zz_pI S q.2.1 q.2.2.1 (match q.2.2.2.2.1 with
    | 0 => q.2.2.2.2.2
    | k + 1 => I 0 k)
  | _ => zz_pR S q.2.1 q.2.2.1 (some q.2.2.2.1)
def zO (I : Nat → Nat → Int32) (n1 : Nat) : List (Nat × Nat × Nat × Nat × Nat × Int32) → zz_P
  | [] => zS I n1
  | q :: l => zO1 I (zO I n1 l) q
theorem zO_s (I : Nat → Nat → Int32) (n1 : Nat) (q : Nat × Nat × Nat × Nat × Nat × Int32) (l : List (Nat × Nat × Nat × Nat × Nat × Int32)) : zO I n1 (q :: l) = zO1 I (zO I n1 l) q := rfl
theorem zO1_c (I : Nat → Nat → Int32) (S : zz_P) (a i : Nat) (v : Int32) : zO1 I S (1, a, i, 0, 0, v) = zz_pI S a i v := rfl
def zo_0 : List (Nat × Nat × Nat × Nat × Nat × Int32) := []
theorem zTo_0 (I : Nat → Nat → Int32) (n1 : Nat) : zT_0 I n1 = zO I n1 zo_0 := rfl
def zo_1 : List (Nat × Nat × Nat × Nat × Nat × Int32) := (0, 10, 17, 0, 0, 0) :: zo_0
theorem zTo_1 (I : Nat → Nat → Int32) (n1 : Nat) : zT_1 I n1 = zO I n1 zo_1 := (congrArg (fun S => zO1 I S (0, 10, 17, 0, 0, 0)) (zTo_0 I n1) : _)
def zo_2 : List (Nat × Nat × Nat × Nat × Nat × Int32) := (0, 13, 80, 0, 0, 0) :: zo_1
theorem zTo_2 (I : Nat → Nat → Int32) (n1 : Nat) : zT_2 I n1 = zO I n1 zo_2 := (congrArg (fun S => zO1 I S (0, 13, 80, 0, 0, 0)) (zTo_1 I n1) : _)
def zo_3 : List (Nat × Nat × Nat × Nat × Nat × Int32) := (2, 2, 0, 3, 0, 0) :: zo_2
theorem zTo_3 (I : Nat → Nat → Int32) (n1 : Nat) : zT_3 I n1 = zO I n1 zo_3 := (congrArg (fun S => zO1 I S (2, 2, 0, 3, 0, 0)) (zTo_2 I n1) : _)
def zo_4 : List (Nat × Nat × Nat × Nat × Nat × Int32) := (0, 15, 12, 0, 0, 0) :: zo_3
theorem zTo_4 (I : Nat → Nat → Int32) (n1 : Nat) : zT_4 I n1 = zO I n1 zo_4 := (congrArg (fun S => zO1 I S (0, 15, 12, 0, 0, 0)) (zTo_3 I n1) : _)
def zo_5 : List (Nat × Nat × Nat × Nat × Nat × Int32) := (2, 2, 2, 4, 0, 0) :: zo_4
theorem zTo_5 (I : Nat → Nat → Int32) (n1 : Nat) : zT_5 I n1 = zO I n1 zo_5 := (congrArg (fun S => zO1 I S (2, 2, 2, 4, 0, 0)) (zTo_4 I n1) : _)
def zo_6 : List (Nat × Nat × Nat × Nat × Nat × Int32) := (0, 8, 3, 0, 0, 0) :: zo_5
theorem zTo_6 (I : Nat → Nat → Int32) (n1 : Nat) : zT_6 I n1 = zO I n1 zo_6 := (congrArg (fun S => zO1 I S (0, 8, 3, 0, 0, 0)) (zTo_5 I n1) : _)
def zo_7 : List (Nat × Nat × Nat × Nat × Nat × Int32) := (0, 14, 84, 0, 0, 0) :: zo_6
theorem zTo_7 (I : Nat → Nat → Int32) (n1 : Nat) : zT_7 I n1 = zO I n1 zo_7 := (congrArg (fun S => zO1 I S (0, 14, 84, 0, 0, 0)) (zTo_6 I n1) : _)
def zo_8 : List (Nat × Nat × Nat × Nat × Nat × Int32) := (2, 5, 0, 6, 0, 0) :: zo_7
theorem zTo_8 (I : Nat → Nat → Int32) (n1 : Nat) : zT_8 I n1 = zO I n1 zo_8 := (congrArg (fun S => zO1 I S (2, 5, 0, 6, 0, 0)) (zTo_7 I n1) : _)
def zo_9 : List (Nat × Nat × Nat × Nat × Nat × Int32) := (0, 14, 2, 0, 0, 0) :: zo_8
theorem zTo_9 (I : Nat → Nat → Int32) (n1 : Nat) : zT_9 I n1 = zO I n1 zo_9 := (congrArg (fun S => zO1 I S (0, 14, 2, 0, 0, 0)) (zTo_8 I n1) : _)
def zo_10 : List (Nat × Nat × Nat × Nat × Nat × Int32) := (2, 5, 1, 7, 0, 0) :: zo_9
theorem zTo_10 (I : Nat → Nat → Int32) (n1 : Nat) : zT_10 I n1 = zO I n1 zo_10 := (congrArg (fun S => zO1 I S (2, 5, 1, 7, 0, 0)) (zTo_9 I n1) : _)
def zo_11 : List (Nat × Nat × Nat × Nat × Nat × Int32) := (2, 2, 4, 5, 0, 0) :: zo_10
theorem zTo_11 (I : Nat → Nat → Int32) (n1 : Nat) : zT_11 I n1 = zO I n1 zo_11 := (congrArg (fun S => zO1 I S (2, 2, 4, 5, 0, 0)) (zTo_10 I n1) : _)
def zo_12 : List (Nat × Nat × Nat × Nat × Nat × Int32) := (0, 5, 9, 0, 0, 0) :: zo_11
theorem zTo_12 (I : Nat → Nat → Int32) (n1 : Nat) : zT_12 I n1 = zO I n1 zo_12 := (congrArg (fun S => zO1 I S (0, 5, 9, 0, 0, 0)) (zTo_11 I n1) : _)
def zo_13 : List (Nat × Nat × Nat × Nat × Nat × Int32) := (1, 8, 1, 0, 0, Int32.ofInt (-1)) :: zo_12
theorem zTo_13 (I : Nat → Nat → Int32) (n1 : Nat) : zT_13 I n1 = zO I n1 zo_13 := Eq.trans (congrArg (fun S => zz_pI S 8 1 (Int32.ofInt (-1))) (zTo_12 I n1)) (zO1_c I (zO I n1 zo_12) 8 1 (Int32.ofInt (-1))).symm
def zo_14 : List (Nat × Nat × Nat × Nat × Nat × Int32) := (2, 2, 5, 8, 0, 0) :: zo_13
theorem zTo_14 (I : Nat → Nat → Int32) (n1 : Nat) : zT_14 I n1 = zO I n1 zo_14 := (congrArg (fun S => zO1 I S (2, 2, 5, 8, 0, 0)) (zTo_13 I n1) : _)
def zo_15 : List (Nat × Nat × Nat × Nat × Nat × Int32) := (0, 6, 6, 0, 0, 0) :: zo_14
theorem zTo_15 (I : Nat → Nat → Int32) (n1 : Nat) : zT_15 I n1 = zO I n1 zo_15 := (congrArg (fun S => zO1 I S (0, 6, 6, 0, 0, 0)) (zTo_14 I n1) : _)
def zo_16 : List (Nat × Nat × Nat × Nat × Nat × Int32) := (0, 17, 12, 0, 0, 0) :: zo_15
theorem zTo_16 (I : Nat → Nat → Int32) (n1 : Nat) : zT_16 I n1 = zO I n1 zo_16 := (congrArg (fun S => zO1 I S (0, 17, 12, 0, 0, 0)) (zTo_15 I n1) : _)
def zo_17 : List (Nat × Nat × Nat × Nat × Nat × Int32) := (2, 9, 0, 10, 0, 0) :: zo_16
theorem zTo_17 (I : Nat → Nat → Int32) (n1 : Nat) : zT_17 I n1 = zO I n1 zo_17 := (congrArg (fun S => zO1 I S (2, 9, 0, 10, 0, 0)) (zTo_16 I n1) : _)
def zo_18 : List (Nat × Nat × Nat × Nat × Nat × Int32) := (0, 17, 2, 0, 0, 0) :: zo_17
theorem zTo_18 (I : Nat → Nat → Int32) (n1 : Nat) : zT_18 I n1 = zO I n1 zo_18 := (congrArg (fun S => zO1 I S (0, 17, 2, 0, 0, 0)) (zTo_17 I n1) : _)
def zo_19 : List (Nat × Nat × Nat × Nat × Nat × Int32) := (2, 9, 1, 11, 0, 0) :: zo_18
theorem zTo_19 (I : Nat → Nat → Int32) (n1 : Nat) : zT_19 I n1 = zO I n1 zo_19 := (congrArg (fun S => zO1 I S (2, 9, 1, 11, 0, 0)) (zTo_18 I n1) : _)
def zo_20 : List (Nat × Nat × Nat × Nat × Nat × Int32) := (0, 16, 2, 0, 0, 0) :: zo_19
theorem zTo_20 (I : Nat → Nat → Int32) (n1 : Nat) : zT_20 I n1 = zO I n1 zo_20 := (congrArg (fun S => zO1 I S (0, 16, 2, 0, 0, 0)) (zTo_19 I n1) : _)
def zo_21 : List (Nat × Nat × Nat × Nat × Nat × Int32) := (2, 9, 2, 12, 0, 0) :: zo_20
theorem zTo_21 (I : Nat → Nat → Int32) (n1 : Nat) : zT_21 I n1 = zO I n1 zo_21 := (congrArg (fun S => zO1 I S (2, 9, 2, 12, 0, 0)) (zTo_20 I n1) : _)
def zo_22 : List (Nat × Nat × Nat × Nat × Nat × Int32) := (0, 5, 9, 0, 0, 0) :: zo_21
theorem zTo_22 (I : Nat → Nat → Int32) (n1 : Nat) : zT_22 I n1 = zO I n1 zo_22 := (congrArg (fun S => zO1 I S (0, 5, 9, 0, 0, 0)) (zTo_21 I n1) : _)
def zo_23 : List (Nat × Nat × Nat × Nat × Nat × Int32) := (1, 13, 1, 0, 0, Int32.ofInt (-1)) :: zo_22
theorem zTo_23 (I : Nat → Nat → Int32) (n1 : Nat) : zT_23 I n1 = zO I n1 zo_23 := Eq.trans (congrArg (fun S => zz_pI S 13 1 (Int32.ofInt (-1))) (zTo_22 I n1)) (zO1_c I (zO I n1 zo_22) 13 1 (Int32.ofInt (-1))).symm
def zo_24 : List (Nat × Nat × Nat × Nat × Nat × Int32) := (2, 9, 3, 13, 0, 0) :: zo_23
theorem zTo_24 (I : Nat → Nat → Int32) (n1 : Nat) : zT_24 I n1 = zO I n1 zo_24 := (congrArg (fun S => zO1 I S (2, 9, 3, 13, 0, 0)) (zTo_23 I n1) : _)
def zo_25 : List (Nat × Nat × Nat × Nat × Nat × Int32) := (0, 5, 9, 0, 0, 0) :: zo_24
theorem zTo_25 (I : Nat → Nat → Int32) (n1 : Nat) : zT_25 I n1 = zO I n1 zo_25 := (congrArg (fun S => zO1 I S (0, 5, 9, 0, 0, 0)) (zTo_24 I n1) : _)
def zo_26 : List (Nat × Nat × Nat × Nat × Nat × Int32) := (1, 14, 1, 0, 0, Int32.ofInt (-1)) :: zo_25
theorem zTo_26 (I : Nat → Nat → Int32) (n1 : Nat) : zT_26 I n1 = zO I n1 zo_26 := Eq.trans (congrArg (fun S => zz_pI S 14 1 (Int32.ofInt (-1))) (zTo_25 I n1)) (zO1_c I (zO I n1 zo_25) 14 1 (Int32.ofInt (-1))).symm
def zo_27 : List (Nat × Nat × Nat × Nat × Nat × Int32) := (2, 10, 0, 14, 0, 0) :: zo_26
theorem zTo_27 (I : Nat → Nat → Int32) (n1 : Nat) : zT_27 I n1 = zO I n1 zo_27 := (congrArg (fun S => zO1 I S (2, 10, 0, 14, 0, 0)) (zTo_26 I n1) : _)
def zo_28 : List (Nat × Nat × Nat × Nat × Nat × Int32) := (0, 5, 9, 0, 0, 0) :: zo_27
theorem zTo_28 (I : Nat → Nat → Int32) (n1 : Nat) : zT_28 I n1 = zO I n1 zo_28 := (congrArg (fun S => zO1 I S (0, 5, 9, 0, 0, 0)) (zTo_27 I n1) : _)
def zo_29 : List (Nat × Nat × Nat × Nat × Nat × Int32) := (1, 15, 1, 0, 0, Int32.ofInt (-1)) :: zo_28
theorem zTo_29 (I : Nat → Nat → Int32) (n1 : Nat) : zT_29 I n1 = zO I n1 zo_29 := Eq.trans (congrArg (fun S => zz_pI S 15 1 (Int32.ofInt (-1))) (zTo_28 I n1)) (zO1_c I (zO I n1 zo_28) 15 1 (Int32.ofInt (-1))).symm
def zo_30 : List (Nat × Nat × Nat × Nat × Nat × Int32) := (2, 10, 1, 15, 0, 0) :: zo_29
theorem zTo_30 (I : Nat → Nat → Int32) (n1 : Nat) : zT_30 I n1 = zO I n1 zo_30 := (congrArg (fun S => zO1 I S (2, 10, 1, 15, 0, 0)) (zTo_29 I n1) : _)
def zo_31 : List (Nat × Nat × Nat × Nat × Nat × Int32) := (0, 5, 9, 0, 0, 0) :: zo_30
theorem zTo_31 (I : Nat → Nat → Int32) (n1 : Nat) : zT_31 I n1 = zO I n1 zo_31 := (congrArg (fun S => zO1 I S (0, 5, 9, 0, 0, 0)) (zTo_30 I n1) : _)
def zo_32 : List (Nat × Nat × Nat × Nat × Nat × Int32) := (1, 16, 1, 0, 0, Int32.ofInt (-1)) :: zo_31
theorem zTo_32 (I : Nat → Nat → Int32) (n1 : Nat) : zT_32 I n1 = zO I n1 zo_32 := Eq.trans (congrArg (fun S => zz_pI S 16 1 (Int32.ofInt (-1))) (zTo_31 I n1)) (zO1_c I (zO I n1 zo_31) 16 1 (Int32.ofInt (-1))).symm
def zo_33 : List (Nat × Nat × Nat × Nat × Nat × Int32) := (2, 10, 2, 16, 0, 0) :: zo_32
theorem zTo_33 (I : Nat → Nat → Int32) (n1 : Nat) : zT_33 I n1 = zO I n1 zo_33 := (congrArg (fun S => zO1 I S (2, 10, 2, 16, 0, 0)) (zTo_32 I n1) : _)
def zo_34 : List (Nat × Nat × Nat × Nat × Nat × Int32) := (0, 5, 9, 0, 0, 0) :: zo_33
theorem zTo_34 (I : Nat → Nat → Int32) (n1 : Nat) : zT_34 I n1 = zO I n1 zo_34 := (congrArg (fun S => zO1 I S (0, 5, 9, 0, 0, 0)) (zTo_33 I n1) : _)
def zo_35 : List (Nat × Nat × Nat × Nat × Nat × Int32) := (1, 17, 1, 0, 0, Int32.ofInt (-1)) :: zo_34
theorem zTo_35 (I : Nat → Nat → Int32) (n1 : Nat) : zT_35 I n1 = zO I n1 zo_35 := Eq.trans (congrArg (fun S => zz_pI S 17 1 (Int32.ofInt (-1))) (zTo_34 I n1)) (zO1_c I (zO I n1 zo_34) 17 1 (Int32.ofInt (-1))).symm
def zo_36 : List (Nat × Nat × Nat × Nat × Nat × Int32) := (2, 10, 3, 17, 0, 0) :: zo_35
theorem zTo_36 (I : Nat → Nat → Int32) (n1 : Nat) : zT_36 I n1 = zO I n1 zo_36 := (congrArg (fun S => zO1 I S (2, 10, 3, 17, 0, 0)) (zTo_35 I n1) : _)
def zo_37 : List (Nat × Nat × Nat × Nat × Nat × Int32) := (0, 5, 9, 0, 0, 0) :: zo_36
theorem zTo_37 (I : Nat → Nat → Int32) (n1 : Nat) : zT_37 I n1 = zO I n1 zo_37 := (congrArg (fun S => zO1 I S (0, 5, 9, 0, 0, 0)) (zTo_36 I n1) : _)
def zo_38 : List (Nat × Nat × Nat × Nat × Nat × Int32) := (1, 18, 1, 0, 0, Int32.ofInt (-1)) :: zo_37
theorem zTo_38 (I : Nat → Nat → Int32) (n1 : Nat) : zT_38 I n1 = zO I n1 zo_38 := Eq.trans (congrArg (fun S => zz_pI S 18 1 (Int32.ofInt (-1))) (zTo_37 I n1)) (zO1_c I (zO I n1 zo_37) 18 1 (Int32.ofInt (-1))).symm
def zo_39 : List (Nat × Nat × Nat × Nat × Nat × Int32) := (2, 10, 4, 18, 0, 0) :: zo_38
theorem zTo_39 (I : Nat → Nat → Int32) (n1 : Nat) : zT_39 I n1 = zO I n1 zo_39 := (congrArg (fun S => zO1 I S (2, 10, 4, 18, 0, 0)) (zTo_38 I n1) : _)
def zo_40 : List (Nat × Nat × Nat × Nat × Nat × Int32) := (0, 5, 9, 0, 0, 0) :: zo_39
theorem zTo_40 (I : Nat → Nat → Int32) (n1 : Nat) : zT_40 I n1 = zO I n1 zo_40 := (congrArg (fun S => zO1 I S (0, 5, 9, 0, 0, 0)) (zTo_39 I n1) : _)
def zo_41 : List (Nat × Nat × Nat × Nat × Nat × Int32) := (1, 19, 1, 0, 0, Int32.ofInt (-1)) :: zo_40
theorem zTo_41 (I : Nat → Nat → Int32) (n1 : Nat) : zT_41 I n1 = zO I n1 zo_41 := Eq.trans (congrArg (fun S => zz_pI S 19 1 (Int32.ofInt (-1))) (zTo_40 I n1)) (zO1_c I (zO I n1 zo_40) 19 1 (Int32.ofInt (-1))).symm
def zo_42 : List (Nat × Nat × Nat × Nat × Nat × Int32) := (2, 10, 5, 19, 0, 0) :: zo_41
theorem zTo_42 (I : Nat → Nat → Int32) (n1 : Nat) : zT_42 I n1 = zO I n1 zo_42 := (congrArg (fun S => zO1 I S (2, 10, 5, 19, 0, 0)) (zTo_41 I n1) : _)
def zo_43 : List (Nat × Nat × Nat × Nat × Nat × Int32) := (0, 5, 9, 0, 0, 0) :: zo_42
theorem zTo_43 (I : Nat → Nat → Int32) (n1 : Nat) : zT_43 I n1 = zO I n1 zo_43 := (congrArg (fun S => zO1 I S (0, 5, 9, 0, 0, 0)) (zTo_42 I n1) : _)
def zo_44 : List (Nat × Nat × Nat × Nat × Nat × Int32) := (1, 20, 1, 0, 0, Int32.ofInt (-1)) :: zo_43
theorem zTo_44 (I : Nat → Nat → Int32) (n1 : Nat) : zT_44 I n1 = zO I n1 zo_44 := Eq.trans (congrArg (fun S => zz_pI S 20 1 (Int32.ofInt (-1))) (zTo_43 I n1)) (zO1_c I (zO I n1 zo_43) 20 1 (Int32.ofInt (-1))).symm
def zo_45 : List (Nat × Nat × Nat × Nat × Nat × Int32) := (2, 10, 6, 20, 0, 0) :: zo_44
theorem zTo_45 (I : Nat → Nat → Int32) (n1 : Nat) : zT_45 I n1 = zO I n1 zo_45 := (congrArg (fun S => zO1 I S (2, 10, 6, 20, 0, 0)) (zTo_44 I n1) : _)
def zo_46 : List (Nat × Nat × Nat × Nat × Nat × Int32) := (0, 5, 9, 0, 0, 0) :: zo_45
theorem zTo_46 (I : Nat → Nat → Int32) (n1 : Nat) : zT_46 I n1 = zO I n1 zo_46 := (congrArg (fun S => zO1 I S (0, 5, 9, 0, 0, 0)) (zTo_45 I n1) : _)
def zo_47 : List (Nat × Nat × Nat × Nat × Nat × Int32) := (1, 21, 1, 0, 0, Int32.ofInt (-1)) :: zo_46
theorem zTo_47 (I : Nat → Nat → Int32) (n1 : Nat) : zT_47 I n1 = zO I n1 zo_47 := Eq.trans (congrArg (fun S => zz_pI S 21 1 (Int32.ofInt (-1))) (zTo_46 I n1)) (zO1_c I (zO I n1 zo_46) 21 1 (Int32.ofInt (-1))).symm
def zo_48 : List (Nat × Nat × Nat × Nat × Nat × Int32) := (2, 10, 7, 21, 0, 0) :: zo_47
theorem zTo_48 (I : Nat → Nat → Int32) (n1 : Nat) : zT_48 I n1 = zO I n1 zo_48 := (congrArg (fun S => zO1 I S (2, 10, 7, 21, 0, 0)) (zTo_47 I n1) : _)
def zo_49 : List (Nat × Nat × Nat × Nat × Nat × Int32) := (0, 5, 9, 0, 0, 0) :: zo_48
theorem zTo_49 (I : Nat → Nat → Int32) (n1 : Nat) : zT_49 I n1 = zO I n1 zo_49 := (congrArg (fun S => zO1 I S (0, 5, 9, 0, 0, 0)) (zTo_48 I n1) : _)
def zo_50 : List (Nat × Nat × Nat × Nat × Nat × Int32) := (1, 22, 1, 0, 0, Int32.ofInt (-1)) :: zo_49
theorem zTo_50 (I : Nat → Nat → Int32) (n1 : Nat) : zT_50 I n1 = zO I n1 zo_50 := Eq.trans (congrArg (fun S => zz_pI S 22 1 (Int32.ofInt (-1))) (zTo_49 I n1)) (zO1_c I (zO I n1 zo_49) 22 1 (Int32.ofInt (-1))).symm
def zo_51 : List (Nat × Nat × Nat × Nat × Nat × Int32) := (2, 10, 8, 22, 0, 0) :: zo_50
theorem zTo_51 (I : Nat → Nat → Int32) (n1 : Nat) : zT_51 I n1 = zO I n1 zo_51 := (congrArg (fun S => zO1 I S (2, 10, 8, 22, 0, 0)) (zTo_50 I n1) : _)
def zo_52 : List (Nat × Nat × Nat × Nat × Nat × Int32) := (0, 5, 9, 0, 0, 0) :: zo_51
theorem zTo_52 (I : Nat → Nat → Int32) (n1 : Nat) : zT_52 I n1 = zO I n1 zo_52 := (congrArg (fun S => zO1 I S (0, 5, 9, 0, 0, 0)) (zTo_51 I n1) : _)
def zo_53 : List (Nat × Nat × Nat × Nat × Nat × Int32) := (1, 23, 1, 0, 0, Int32.ofInt (-1)) :: zo_52
theorem zTo_53 (I : Nat → Nat → Int32) (n1 : Nat) : zT_53 I n1 = zO I n1 zo_53 := Eq.trans (congrArg (fun S => zz_pI S 23 1 (Int32.ofInt (-1))) (zTo_52 I n1)) (zO1_c I (zO I n1 zo_52) 23 1 (Int32.ofInt (-1))).symm
def zo_54 : List (Nat × Nat × Nat × Nat × Nat × Int32) := (2, 10, 9, 23, 0, 0) :: zo_53
theorem zTo_54 (I : Nat → Nat → Int32) (n1 : Nat) : zT_54 I n1 = zO I n1 zo_54 := (congrArg (fun S => zO1 I S (2, 10, 9, 23, 0, 0)) (zTo_53 I n1) : _)
def zo_55 : List (Nat × Nat × Nat × Nat × Nat × Int32) := (0, 5, 9, 0, 0, 0) :: zo_54
theorem zTo_55 (I : Nat → Nat → Int32) (n1 : Nat) : zT_55 I n1 = zO I n1 zo_55 := (congrArg (fun S => zO1 I S (0, 5, 9, 0, 0, 0)) (zTo_54 I n1) : _)
def zo_56 : List (Nat × Nat × Nat × Nat × Nat × Int32) := (1, 24, 1, 0, 0, Int32.ofInt (-1)) :: zo_55
theorem zTo_56 (I : Nat → Nat → Int32) (n1 : Nat) : zT_56 I n1 = zO I n1 zo_56 := Eq.trans (congrArg (fun S => zz_pI S 24 1 (Int32.ofInt (-1))) (zTo_55 I n1)) (zO1_c I (zO I n1 zo_55) 24 1 (Int32.ofInt (-1))).symm
def zo_57 : List (Nat × Nat × Nat × Nat × Nat × Int32) := (2, 10, 10, 24, 0, 0) :: zo_56
theorem zTo_57 (I : Nat → Nat → Int32) (n1 : Nat) : zT_57 I n1 = zO I n1 zo_57 := (congrArg (fun S => zO1 I S (2, 10, 10, 24, 0, 0)) (zTo_56 I n1) : _)
def zo_58 : List (Nat × Nat × Nat × Nat × Nat × Int32) := (0, 5, 9, 0, 0, 0) :: zo_57
theorem zTo_58 (I : Nat → Nat → Int32) (n1 : Nat) : zT_58 I n1 = zO I n1 zo_58 := (congrArg (fun S => zO1 I S (0, 5, 9, 0, 0, 0)) (zTo_57 I n1) : _)
def zo_59 : List (Nat × Nat × Nat × Nat × Nat × Int32) := (1, 25, 1, 0, 0, Int32.ofInt (-1)) :: zo_58
theorem zTo_59 (I : Nat → Nat → Int32) (n1 : Nat) : zT_59 I n1 = zO I n1 zo_59 := Eq.trans (congrArg (fun S => zz_pI S 25 1 (Int32.ofInt (-1))) (zTo_58 I n1)) (zO1_c I (zO I n1 zo_58) 25 1 (Int32.ofInt (-1))).symm
def zo_60 : List (Nat × Nat × Nat × Nat × Nat × Int32) := (2, 10, 11, 25, 0, 0) :: zo_59
theorem zTo_60 (I : Nat → Nat → Int32) (n1 : Nat) : zT_60 I n1 = zO I n1 zo_60 := (congrArg (fun S => zO1 I S (2, 10, 11, 25, 0, 0)) (zTo_59 I n1) : _)
def zo_61 : List (Nat × Nat × Nat × Nat × Nat × Int32) := (0, 5, 9, 0, 0, 0) :: zo_60
theorem zTo_61 (I : Nat → Nat → Int32) (n1 : Nat) : zT_61 I n1 = zO I n1 zo_61 := (congrArg (fun S => zO1 I S (0, 5, 9, 0, 0, 0)) (zTo_60 I n1) : _)
def zo_62 : List (Nat × Nat × Nat × Nat × Nat × Int32) := (1, 26, 1, 0, 0, Int32.ofInt (-1)) :: zo_61
theorem zTo_62 (I : Nat → Nat → Int32) (n1 : Nat) : zT_62 I n1 = zO I n1 zo_62 := Eq.trans (congrArg (fun S => zz_pI S 26 1 (Int32.ofInt (-1))) (zTo_61 I n1)) (zO1_c I (zO I n1 zo_61) 26 1 (Int32.ofInt (-1))).symm
def zo_63 : List (Nat × Nat × Nat × Nat × Nat × Int32) := (2, 11, 0, 26, 0, 0) :: zo_62
theorem zTo_63 (I : Nat → Nat → Int32) (n1 : Nat) : zT_63 I n1 = zO I n1 zo_63 := (congrArg (fun S => zO1 I S (2, 11, 0, 26, 0, 0)) (zTo_62 I n1) : _)
def zo_64 : List (Nat × Nat × Nat × Nat × Nat × Int32) := (0, 5, 9, 0, 0, 0) :: zo_63
theorem zTo_64 (I : Nat → Nat → Int32) (n1 : Nat) : zT_64 I n1 = zO I n1 zo_64 := (congrArg (fun S => zO1 I S (0, 5, 9, 0, 0, 0)) (zTo_63 I n1) : _)
def zo_65 : List (Nat × Nat × Nat × Nat × Nat × Int32) := (1, 27, 1, 0, 0, Int32.ofInt (-1)) :: zo_64
theorem zTo_65 (I : Nat → Nat → Int32) (n1 : Nat) : zT_65 I n1 = zO I n1 zo_65 := Eq.trans (congrArg (fun S => zz_pI S 27 1 (Int32.ofInt (-1))) (zTo_64 I n1)) (zO1_c I (zO I n1 zo_64) 27 1 (Int32.ofInt (-1))).symm
def zo_66 : List (Nat × Nat × Nat × Nat × Nat × Int32) := (2, 11, 1, 27, 0, 0) :: zo_65
theorem zTo_66 (I : Nat → Nat → Int32) (n1 : Nat) : zT_66 I n1 = zO I n1 zo_66 := (congrArg (fun S => zO1 I S (2, 11, 1, 27, 0, 0)) (zTo_65 I n1) : _)
def zo_67 : List (Nat × Nat × Nat × Nat × Nat × Int32) := (2, 2, 6, 9, 0, 0) :: zo_66
theorem zTo_67 (I : Nat → Nat → Int32) (n1 : Nat) : zT_67 I n1 = zO I n1 zo_67 := (congrArg (fun S => zO1 I S (2, 2, 6, 9, 0, 0)) (zTo_66 I n1) : _)
def zo_68 : List (Nat × Nat × Nat × Nat × Nat × Int32) := (0, 1, 5, 0, 0, 0) :: zo_67
theorem zTo_68 (I : Nat → Nat → Int32) (n1 : Nat) : zT_68 I n1 = zO I n1 zo_68 := (congrArg (fun S => zO1 I S (0, 1, 5, 0, 0, 0)) (zTo_67 I n1) : _)
def zo_69 : List (Nat × Nat × Nat × Nat × Nat × Int32) := (0, 14, 40, 0, 0, 0) :: zo_68
theorem zTo_69 (I : Nat → Nat → Int32) (n1 : Nat) : zT_69 I n1 = zO I n1 zo_69 := (congrArg (fun S => zO1 I S (0, 14, 40, 0, 0, 0)) (zTo_68 I n1) : _)
def zo_70 : List (Nat × Nat × Nat × Nat × Nat × Int32) := (2, 28, 0, 29, 0, 0) :: zo_69
theorem zTo_70 (I : Nat → Nat → Int32) (n1 : Nat) : zT_70 I n1 = zO I n1 zo_70 := (congrArg (fun S => zO1 I S (2, 28, 0, 29, 0, 0)) (zTo_69 I n1) : _)
def zo_71 : List (Nat × Nat × Nat × Nat × Nat × Int32) := (0, 14, 40, 0, 0, 0) :: zo_70
theorem zTo_71 (I : Nat → Nat → Int32) (n1 : Nat) : zT_71 I n1 = zO I n1 zo_71 := (congrArg (fun S => zO1 I S (0, 14, 40, 0, 0, 0)) (zTo_70 I n1) : _)
def zo_72 : List (Nat × Nat × Nat × Nat × Nat × Int32) := (2, 28, 1, 30, 0, 0) :: zo_71
theorem zTo_72 (I : Nat → Nat → Int32) (n1 : Nat) : zT_72 I n1 = zO I n1 zo_72 := (congrArg (fun S => zO1 I S (2, 28, 1, 30, 0, 0)) (zTo_71 I n1) : _)
def zo_73 : List (Nat × Nat × Nat × Nat × Nat × Int32) := (0, 14, 144, 0, 0, 0) :: zo_72
theorem zTo_73 (I : Nat → Nat → Int32) (n1 : Nat) : zT_73 I n1 = zO I n1 zo_73 := (congrArg (fun S => zO1 I S (0, 14, 144, 0, 0, 0)) (zTo_72 I n1) : _)
def zo_74 : List (Nat × Nat × Nat × Nat × Nat × Int32) := (2, 28, 2, 31, 0, 0) :: zo_73
theorem zTo_74 (I : Nat → Nat → Int32) (n1 : Nat) : zT_74 I n1 = zO I n1 zo_74 := (congrArg (fun S => zO1 I S (2, 28, 2, 31, 0, 0)) (zTo_73 I n1) : _)
def zo_75 : List (Nat × Nat × Nat × Nat × Nat × Int32) := (1, 28, 3, 0, 0, 7) :: zo_74
theorem zTo_75 (I : Nat → Nat → Int32) (n1 : Nat) : zT_75 I n1 = zO I n1 zo_75 := Eq.trans (congrArg (fun S => zz_pI S 28 3 (7)) (zTo_74 I n1)) (zO1_c I (zO I n1 zo_74) 28 3 (7)).symm
def zo_76 : List (Nat × Nat × Nat × Nat × Nat × Int32) := (1, 29, 0, 0, 1, 0) :: zo_75
theorem zTo_76 (I : Nat → Nat → Int32) (n1 : Nat) : zT_76 I n1 = zO I n1 zo_76 := (congrArg (fun S => zO1 I S (1, 29, 0, 0, 1, 0)) (zTo_75 I n1) : _)
def zo_77 : List (Nat × Nat × Nat × Nat × Nat × Int32) := (1, 29, 1, 0, 2, 0) :: zo_76
theorem zTo_77 (I : Nat → Nat → Int32) (n1 : Nat) : zT_77 I n1 = zO I n1 zo_77 := (congrArg (fun S => zO1 I S (1, 29, 1, 0, 2, 0)) (zTo_76 I n1) : _)
def zo_78 : List (Nat × Nat × Nat × Nat × Nat × Int32) := (1, 29, 2, 0, 3, 0) :: zo_77
theorem zTo_78 (I : Nat → Nat → Int32) (n1 : Nat) : zT_78 I n1 = zO I n1 zo_78 := (congrArg (fun S => zO1 I S (1, 29, 2, 0, 3, 0)) (zTo_77 I n1) : _)
def zo_79 : List (Nat × Nat × Nat × Nat × Nat × Int32) := (1, 29, 3, 0, 4, 0) :: zo_78
theorem zTo_79 (I : Nat → Nat → Int32) (n1 : Nat) : zT_79 I n1 = zO I n1 zo_79 := (congrArg (fun S => zO1 I S (1, 29, 3, 0, 4, 0)) (zTo_78 I n1) : _)
def zo_80 : List (Nat × Nat × Nat × Nat × Nat × Int32) := (1, 29, 4, 0, 5, 0) :: zo_79
theorem zTo_80 (I : Nat → Nat → Int32) (n1 : Nat) : zT_80 I n1 = zO I n1 zo_80 := (congrArg (fun S => zO1 I S (1, 29, 4, 0, 5, 0)) (zTo_79 I n1) : _)
def zo_81 : List (Nat × Nat × Nat × Nat × Nat × Int32) := (1, 29, 5, 0, 6, 0) :: zo_80
theorem zTo_81 (I : Nat → Nat → Int32) (n1 : Nat) : zT_81 I n1 = zO I n1 zo_81 := (congrArg (fun S => zO1 I S (1, 29, 5, 0, 6, 0)) (zTo_80 I n1) : _)
def zo_82 : List (Nat × Nat × Nat × Nat × Nat × Int32) := (1, 29, 6, 0, 7, 0) :: zo_81
theorem zTo_82 (I : Nat → Nat → Int32) (n1 : Nat) : zT_82 I n1 = zO I n1 zo_82 := (congrArg (fun S => zO1 I S (1, 29, 6, 0, 7, 0)) (zTo_81 I n1) : _)
def zo_83 : List (Nat × Nat × Nat × Nat × Nat × Int32) := (1, 28, 4, 0, 0, 0) :: zo_82
theorem zTo_83 (I : Nat → Nat → Int32) (n1 : Nat) : zT_83 I n1 = zO I n1 zo_83 := Eq.trans (congrArg (fun S => zz_pI S 28 4 (0)) (zTo_82 I n1)) (zO1_c I (zO I n1 zo_82) 28 4 (0)).symm
def zo_84 : List (Nat × Nat × Nat × Nat × Nat × Int32) := (2, 2, 7, 28, 0, 0) :: zo_83
theorem zTo_84 (I : Nat → Nat → Int32) (n1 : Nat) : zT_84 I n1 = zO I n1 zo_84 := (congrArg (fun S => zO1 I S (2, 2, 7, 28, 0, 0)) (zTo_83 I n1) : _)
def zo_85 : List (Nat × Nat × Nat × Nat × Nat × Int32) := (0, 1, 5, 0, 0, 0) :: zo_84
theorem zTo_85 (I : Nat → Nat → Int32) (n1 : Nat) : zT_85 I n1 = zO I n1 zo_85 := (congrArg (fun S => zO1 I S (0, 1, 5, 0, 0, 0)) (zTo_84 I n1) : _)
def zo_86 : List (Nat × Nat × Nat × Nat × Nat × Int32) := (0, 14, 40, 0, 0, 0) :: zo_85
theorem zTo_86 (I : Nat → Nat → Int32) (n1 : Nat) : zT_86 I n1 = zO I n1 zo_86 := (congrArg (fun S => zO1 I S (0, 14, 40, 0, 0, 0)) (zTo_85 I n1) : _)
def zo_87 : List (Nat × Nat × Nat × Nat × Nat × Int32) := (2, 32, 0, 33, 0, 0) :: zo_86
theorem zTo_87 (I : Nat → Nat → Int32) (n1 : Nat) : zT_87 I n1 = zO I n1 zo_87 := (congrArg (fun S => zO1 I S (2, 32, 0, 33, 0, 0)) (zTo_86 I n1) : _)
def zo_88 : List (Nat × Nat × Nat × Nat × Nat × Int32) := (0, 14, 40, 0, 0, 0) :: zo_87
theorem zTo_88 (I : Nat → Nat → Int32) (n1 : Nat) : zT_88 I n1 = zO I n1 zo_88 := (congrArg (fun S => zO1 I S (0, 14, 40, 0, 0, 0)) (zTo_87 I n1) : _)
def zo_89 : List (Nat × Nat × Nat × Nat × Nat × Int32) := (2, 32, 1, 34, 0, 0) :: zo_88
theorem zTo_89 (I : Nat → Nat → Int32) (n1 : Nat) : zT_89 I n1 = zO I n1 zo_89 := (congrArg (fun S => zO1 I S (2, 32, 1, 34, 0, 0)) (zTo_88 I n1) : _)
def zo_90 : List (Nat × Nat × Nat × Nat × Nat × Int32) := (0, 14, 144, 0, 0, 0) :: zo_89
theorem zTo_90 (I : Nat → Nat → Int32) (n1 : Nat) : zT_90 I n1 = zO I n1 zo_90 := (congrArg (fun S => zO1 I S (0, 14, 144, 0, 0, 0)) (zTo_89 I n1) : _)
def zo_91 : List (Nat × Nat × Nat × Nat × Nat × Int32) := (2, 32, 2, 35, 0, 0) :: zo_90
theorem zTo_91 (I : Nat → Nat → Int32) (n1 : Nat) : zT_91 I n1 = zO I n1 zo_91 := (congrArg (fun S => zO1 I S (2, 32, 2, 35, 0, 0)) (zTo_90 I n1) : _)
def zo_92 : List (Nat × Nat × Nat × Nat × Nat × Int32) := (1, 32, 3, 0, 0, 7) :: zo_91
theorem zTo_92 (I : Nat → Nat → Int32) (n1 : Nat) : zT_92 I n1 = zO I n1 zo_92 := Eq.trans (congrArg (fun S => zz_pI S 32 3 (7)) (zTo_91 I n1)) (zO1_c I (zO I n1 zo_91) 32 3 (7)).symm
def zo_93 : List (Nat × Nat × Nat × Nat × Nat × Int32) := (1, 33, 0, 0, 1, 0) :: zo_92
theorem zTo_93 (I : Nat → Nat → Int32) (n1 : Nat) : zT_93 I n1 = zO I n1 zo_93 := (congrArg (fun S => zO1 I S (1, 33, 0, 0, 1, 0)) (zTo_92 I n1) : _)
def zo_94 : List (Nat × Nat × Nat × Nat × Nat × Int32) := (1, 33, 1, 0, 2, 0) :: zo_93
theorem zTo_94 (I : Nat → Nat → Int32) (n1 : Nat) : zT_94 I n1 = zO I n1 zo_94 := (congrArg (fun S => zO1 I S (1, 33, 1, 0, 2, 0)) (zTo_93 I n1) : _)
def zo_95 : List (Nat × Nat × Nat × Nat × Nat × Int32) := (1, 33, 2, 0, 3, 0) :: zo_94
theorem zTo_95 (I : Nat → Nat → Int32) (n1 : Nat) : zT_95 I n1 = zO I n1 zo_95 := (congrArg (fun S => zO1 I S (1, 33, 2, 0, 3, 0)) (zTo_94 I n1) : _)
def zo_96 : List (Nat × Nat × Nat × Nat × Nat × Int32) := (1, 33, 3, 0, 4, 0) :: zo_95
theorem zTo_96 (I : Nat → Nat → Int32) (n1 : Nat) : zT_96 I n1 = zO I n1 zo_96 := (congrArg (fun S => zO1 I S (1, 33, 3, 0, 4, 0)) (zTo_95 I n1) : _)
def zo_97 : List (Nat × Nat × Nat × Nat × Nat × Int32) := (1, 33, 4, 0, 5, 0) :: zo_96
theorem zTo_97 (I : Nat → Nat → Int32) (n1 : Nat) : zT_97 I n1 = zO I n1 zo_97 := (congrArg (fun S => zO1 I S (1, 33, 4, 0, 5, 0)) (zTo_96 I n1) : _)
def zo_98 : List (Nat × Nat × Nat × Nat × Nat × Int32) := (1, 33, 5, 0, 6, 0) :: zo_97
theorem zTo_98 (I : Nat → Nat → Int32) (n1 : Nat) : zT_98 I n1 = zO I n1 zo_98 := (congrArg (fun S => zO1 I S (1, 33, 5, 0, 6, 0)) (zTo_97 I n1) : _)
def zo_99 : List (Nat × Nat × Nat × Nat × Nat × Int32) := (1, 33, 6, 0, 7, 0) :: zo_98
theorem zTo_99 (I : Nat → Nat → Int32) (n1 : Nat) : zT_99 I n1 = zO I n1 zo_99 := (congrArg (fun S => zO1 I S (1, 33, 6, 0, 7, 0)) (zTo_98 I n1) : _)
def zo_100 : List (Nat × Nat × Nat × Nat × Nat × Int32) := (1, 32, 4, 0, 0, 0) :: zo_99
theorem zTo_100 (I : Nat → Nat → Int32) (n1 : Nat) : zT_100 I n1 = zO I n1 zo_100 := Eq.trans (congrArg (fun S => zz_pI S 32 4 (0)) (zTo_99 I n1)) (zO1_c I (zO I n1 zo_99) 32 4 (0)).symm
def zo_101 : List (Nat × Nat × Nat × Nat × Nat × Int32) := (2, 2, 8, 32, 0, 0) :: zo_100
theorem zTo_101 (I : Nat → Nat → Int32) (n1 : Nat) : zT_101 I n1 = zO I n1 zo_101 := (congrArg (fun S => zO1 I S (2, 2, 8, 32, 0, 0)) (zTo_100 I n1) : _)
def zo_102 : List (Nat × Nat × Nat × Nat × Nat × Int32) := (0, 3, 4, 0, 0, 0) :: zo_101
theorem zTo_102 (I : Nat → Nat → Int32) (n1 : Nat) : zT_102 I n1 = zO I n1 zo_102 := (congrArg (fun S => zO1 I S (0, 3, 4, 0, 0, 0)) (zTo_101 I n1) : _)
def zo_103 : List (Nat × Nat × Nat × Nat × Nat × Int32) := (2, 36, 0, 5, 0, 0) :: zo_102
theorem zTo_103 (I : Nat → Nat → Int32) (n1 : Nat) : zT_103 I n1 = zO I n1 zo_103 := (congrArg (fun S => zO1 I S (2, 36, 0, 5, 0, 0)) (zTo_102 I n1) : _)
def zo_104 : List (Nat × Nat × Nat × Nat × Nat × Int32) := (2, 2, 9, 36, 0, 0) :: zo_103
theorem zTo_104 (I : Nat → Nat → Int32) (n1 : Nat) : zT_104 I n1 = zO I n1 zo_104 := (congrArg (fun S => zO1 I S (2, 2, 9, 36, 0, 0)) (zTo_103 I n1) : _)
def zo_105 : List (Nat × Nat × Nat × Nat × Nat × Int32) := (0, 7, 8, 0, 0, 0) :: zo_104
theorem zTo_105 (I : Nat → Nat → Int32) (n1 : Nat) : zT_105 I n1 = zO I n1 zo_105 := (congrArg (fun S => zO1 I S (0, 7, 8, 0, 0, 0)) (zTo_104 I n1) : _)
def zo_106 : List (Nat × Nat × Nat × Nat × Nat × Int32) := (0, 14, 40, 0, 0, 0) :: zo_105
theorem zTo_106 (I : Nat → Nat → Int32) (n1 : Nat) : zT_106 I n1 = zO I n1 zo_106 := (congrArg (fun S => zO1 I S (0, 14, 40, 0, 0, 0)) (zTo_105 I n1) : _)
def zo_107 : List (Nat × Nat × Nat × Nat × Nat × Int32) := (2, 37, 0, 38, 0, 0) :: zo_106
theorem zTo_107 (I : Nat → Nat → Int32) (n1 : Nat) : zT_107 I n1 = zO I n1 zo_107 := (congrArg (fun S => zO1 I S (2, 37, 0, 38, 0, 0)) (zTo_106 I n1) : _)
def zo_108 : List (Nat × Nat × Nat × Nat × Nat × Int32) := (0, 14, 40, 0, 0, 0) :: zo_107
theorem zTo_108 (I : Nat → Nat → Int32) (n1 : Nat) : zT_108 I n1 = zO I n1 zo_108 := (congrArg (fun S => zO1 I S (0, 14, 40, 0, 0, 0)) (zTo_107 I n1) : _)
def zo_109 : List (Nat × Nat × Nat × Nat × Nat × Int32) := (2, 37, 1, 39, 0, 0) :: zo_108
theorem zTo_109 (I : Nat → Nat → Int32) (n1 : Nat) : zT_109 I n1 = zO I n1 zo_109 := (congrArg (fun S => zO1 I S (2, 37, 1, 39, 0, 0)) (zTo_108 I n1) : _)
def zo_110 : List (Nat × Nat × Nat × Nat × Nat × Int32) := (2, 2, 10, 37, 0, 0) :: zo_109
theorem zTo_110 (I : Nat → Nat → Int32) (n1 : Nat) : zT_110 I n1 = zO I n1 zo_110 := (congrArg (fun S => zO1 I S (2, 2, 10, 37, 0, 0)) (zTo_109 I n1) : _)
def zo_111 : List (Nat × Nat × Nat × Nat × Nat × Int32) := (0, 0, 1, 0, 0, 0) :: zo_110
theorem zTo_111 (I : Nat → Nat → Int32) (n1 : Nat) : zT_111 I n1 = zO I n1 zo_111 := (congrArg (fun S => zO1 I S (0, 0, 1, 0, 0, 0)) (zTo_110 I n1) : _)
def zo_112 : List (Nat × Nat × Nat × Nat × Nat × Int32) := (2, 2, 11, 40, 0, 0) :: zo_111
theorem zTo_112 (I : Nat → Nat → Int32) (n1 : Nat) : zT_112 I n1 = zO I n1 zo_112 := (congrArg (fun S => zO1 I S (2, 2, 11, 40, 0, 0)) (zTo_111 I n1) : _)
def zo_113 : List (Nat × Nat × Nat × Nat × Nat × Int32) := (0, 4, 16, 0, 0, 0) :: zo_112
theorem zTo_113 (I : Nat → Nat → Int32) (n1 : Nat) : zT_113 I n1 = zO I n1 zo_113 := (congrArg (fun S => zO1 I S (0, 4, 16, 0, 0, 0)) (zTo_112 I n1) : _)
def zo_114 : List (Nat × Nat × Nat × Nat × Nat × Int32) := (0, 14, 156, 0, 0, 0) :: zo_113
theorem zTo_114 (I : Nat → Nat → Int32) (n1 : Nat) : zT_114 I n1 = zO I n1 zo_114 := (congrArg (fun S => zO1 I S (0, 14, 156, 0, 0, 0)) (zTo_113 I n1) : _)
def zo_115 : List (Nat × Nat × Nat × Nat × Nat × Int32) := (2, 41, 1, 42, 0, 0) :: zo_114
theorem zTo_115 (I : Nat → Nat → Int32) (n1 : Nat) : zT_115 I n1 = zO I n1 zo_115 := (congrArg (fun S => zO1 I S (2, 41, 1, 42, 0, 0)) (zTo_114 I n1) : _)
def zo_116 : List (Nat × Nat × Nat × Nat × Nat × Int32) := (0, 14, 26, 0, 0, 0) :: zo_115
theorem zTo_116 (I : Nat → Nat → Int32) (n1 : Nat) : zT_116 I n1 = zO I n1 zo_116 := (congrArg (fun S => zO1 I S (0, 14, 26, 0, 0, 0)) (zTo_115 I n1) : _)
def zo_117 : List (Nat × Nat × Nat × Nat × Nat × Int32) := (2, 41, 2, 43, 0, 0) :: zo_116
theorem zTo_117 (I : Nat → Nat → Int32) (n1 : Nat) : zT_117 I n1 = zO I n1 zo_117 := (congrArg (fun S => zO1 I S (2, 41, 2, 43, 0, 0)) (zTo_116 I n1) : _)
def zo_118 : List (Nat × Nat × Nat × Nat × Nat × Int32) := (0, 14, 338, 0, 0, 0) :: zo_117
theorem zTo_118 (I : Nat → Nat → Int32) (n1 : Nat) : zT_118 I n1 = zO I n1 zo_118 := (congrArg (fun S => zO1 I S (0, 14, 338, 0, 0, 0)) (zTo_117 I n1) : _)
def zo_119 : List (Nat × Nat × Nat × Nat × Nat × Int32) := (2, 41, 3, 44, 0, 0) :: zo_118
theorem zTo_119 (I : Nat → Nat → Int32) (n1 : Nat) : zT_119 I n1 = zO I n1 zo_119 := (congrArg (fun S => zO1 I S (2, 41, 3, 44, 0, 0)) (zTo_118 I n1) : _)
def zo_120 : List (Nat × Nat × Nat × Nat × Nat × Int32) := (0, 14, 12, 0, 0, 0) :: zo_119
theorem zTo_120 (I : Nat → Nat → Int32) (n1 : Nat) : zT_120 I n1 = zO I n1 zo_120 := (congrArg (fun S => zO1 I S (0, 14, 12, 0, 0, 0)) (zTo_119 I n1) : _)
def zo_121 : List (Nat × Nat × Nat × Nat × Nat × Int32) := (2, 41, 4, 45, 0, 0) :: zo_120
theorem zTo_121 (I : Nat → Nat → Int32) (n1 : Nat) : zT_121 I n1 = zO I n1 zo_121 := (congrArg (fun S => zO1 I S (2, 41, 4, 45, 0, 0)) (zTo_120 I n1) : _)
def zo_122 : List (Nat × Nat × Nat × Nat × Nat × Int32) := (2, 41, 0, 5, 0, 0) :: zo_121
theorem zTo_122 (I : Nat → Nat → Int32) (n1 : Nat) : zT_122 I n1 = zO I n1 zo_122 := (congrArg (fun S => zO1 I S (2, 41, 0, 5, 0, 0)) (zTo_121 I n1) : _)
def zo_123 : List (Nat × Nat × Nat × Nat × Nat × Int32) := (2, 2, 12, 41, 0, 0) :: zo_122
theorem zTo_123 (I : Nat → Nat → Int32) (n1 : Nat) : zT_123 I n1 = zO I n1 zo_123 := (congrArg (fun S => zO1 I S (2, 2, 12, 41, 0, 0)) (zTo_122 I n1) : _)
def zo_124 : List (Nat × Nat × Nat × Nat × Nat × Int32) := (0, 9, 4, 0, 0, 0) :: zo_123
theorem zTo_124 (I : Nat → Nat → Int32) (n1 : Nat) : zT_124 I n1 = zO I n1 zo_124 := (congrArg (fun S => zO1 I S (0, 9, 4, 0, 0, 0)) (zTo_123 I n1) : _)
def zo_125 : List (Nat × Nat × Nat × Nat × Nat × Int32) := (0, 14, 12, 0, 0, 0) :: zo_124
theorem zTo_125 (I : Nat → Nat → Int32) (n1 : Nat) : zT_125 I n1 = zO I n1 zo_125 := (congrArg (fun S => zO1 I S (0, 14, 12, 0, 0, 0)) (zTo_124 I n1) : _)
def zo_126 : List (Nat × Nat × Nat × Nat × Nat × Int32) := (2, 46, 2, 47, 0, 0) :: zo_125
theorem zTo_126 (I : Nat → Nat → Int32) (n1 : Nat) : zT_126 I n1 = zO I n1 zo_126 := (congrArg (fun S => zO1 I S (2, 46, 2, 47, 0, 0)) (zTo_125 I n1) : _)
def zo_127 : List (Nat × Nat × Nat × Nat × Nat × Int32) := (0, 14, 0, 0, 0, 0) :: zo_126
theorem zTo_127 (I : Nat → Nat → Int32) (n1 : Nat) : zT_127 I n1 = zO I n1 zo_127 := (congrArg (fun S => zO1 I S (0, 14, 0, 0, 0, 0)) (zTo_126 I n1) : _)
def zo_128 : List (Nat × Nat × Nat × Nat × Nat × Int32) := (2, 46, 3, 48, 0, 0) :: zo_127
theorem zTo_128 (I : Nat → Nat → Int32) (n1 : Nat) : zT_128 I n1 = zO I n1 zo_128 := (congrArg (fun S => zO1 I S (2, 46, 3, 48, 0, 0)) (zTo_127 I n1) : _)
def zo_129 : List (Nat × Nat × Nat × Nat × Nat × Int32) := (2, 46, 0, 5, 0, 0) :: zo_128
theorem zTo_129 (I : Nat → Nat → Int32) (n1 : Nat) : zT_129 I n1 = zO I n1 zo_129 := (congrArg (fun S => zO1 I S (2, 46, 0, 5, 0, 0)) (zTo_128 I n1) : _)
def zo_130 : List (Nat × Nat × Nat × Nat × Nat × Int32) := (2, 46, 1, 8, 0, 0) :: zo_129
theorem zTo_130 (I : Nat → Nat → Int32) (n1 : Nat) : zT_130 I n1 = zO I n1 zo_130 := (congrArg (fun S => zO1 I S (2, 46, 1, 8, 0, 0)) (zTo_129 I n1) : _)
def zo_131 : List (Nat × Nat × Nat × Nat × Nat × Int32) := (2, 2, 13, 46, 0, 0) :: zo_130
theorem zTo_131 (I : Nat → Nat → Int32) (n1 : Nat) : zT_131 I n1 = zO I n1 zo_131 := (congrArg (fun S => zO1 I S (2, 2, 13, 46, 0, 0)) (zTo_130 I n1) : _)
def zo_132 : List (Nat × Nat × Nat × Nat × Nat × Int32) := (0, 2, 3, 0, 0, 0) :: zo_131
theorem zTo_132 (I : Nat → Nat → Int32) (n1 : Nat) : zT_132 I n1 = zO I n1 zo_132 := (congrArg (fun S => zO1 I S (0, 2, 3, 0, 0, 0)) (zTo_131 I n1) : _)
def zo_133 : List (Nat × Nat × Nat × Nat × Nat × Int32) := (0, 14, 13, 0, 0, 0) :: zo_132
theorem zTo_133 (I : Nat → Nat → Int32) (n1 : Nat) : zT_133 I n1 = zO I n1 zo_133 := (congrArg (fun S => zO1 I S (0, 14, 13, 0, 0, 0)) (zTo_132 I n1) : _)
def zo_134 : List (Nat × Nat × Nat × Nat × Nat × Int32) := (2, 49, 1, 50, 0, 0) :: zo_133
theorem zTo_134 (I : Nat → Nat → Int32) (n1 : Nat) : zT_134 I n1 = zO I n1 zo_134 := (congrArg (fun S => zO1 I S (2, 49, 1, 50, 0, 0)) (zTo_133 I n1) : _)
def zo_135 : List (Nat × Nat × Nat × Nat × Nat × Int32) := (0, 14, 41, 0, 0, 0) :: zo_134
theorem zTo_135 (I : Nat → Nat → Int32) (n1 : Nat) : zT_135 I n1 = zO I n1 zo_135 := (congrArg (fun S => zO1 I S (0, 14, 41, 0, 0, 0)) (zTo_134 I n1) : _)
def zo_136 : List (Nat × Nat × Nat × Nat × Nat × Int32) := (2, 49, 2, 51, 0, 0) :: zo_135
theorem zTo_136 (I : Nat → Nat → Int32) (n1 : Nat) : zT_136 I n1 = zO I n1 zo_136 := (congrArg (fun S => zO1 I S (2, 49, 2, 51, 0, 0)) (zTo_135 I n1) : _)
def zo_137 : List (Nat × Nat × Nat × Nat × Nat × Int32) := (2, 49, 0, 5, 0, 0) :: zo_136
theorem zTo_137 (I : Nat → Nat → Int32) (n1 : Nat) : zT_137 I n1 = zO I n1 zo_137 := (congrArg (fun S => zO1 I S (2, 49, 0, 5, 0, 0)) (zTo_136 I n1) : _)
def zo_138 : List (Nat × Nat × Nat × Nat × Nat × Int32) := (2, 2, 14, 49, 0, 0) :: zo_137
theorem zTo_138 (I : Nat → Nat → Int32) (n1 : Nat) : zT_138 I n1 = zO I n1 zo_138 := (congrArg (fun S => zO1 I S (2, 2, 14, 49, 0, 0)) (zTo_137 I n1) : _)
def zo_139 : List (Nat × Nat × Nat × Nat × Nat × Int32) := (0, 11, 49, 0, 0, 0) :: zo_138
theorem zTo_139 (I : Nat → Nat → Int32) (n1 : Nat) : zT_139 I n1 = zO I n1 zo_139 := (congrArg (fun S => zO1 I S (0, 11, 49, 0, 0, 0)) (zTo_138 I n1) : _)
def zo_140 : List (Nat × Nat × Nat × Nat × Nat × Int32) := (0, 14, 18, 0, 0, 0) :: zo_139
theorem zTo_140 (I : Nat → Nat → Int32) (n1 : Nat) : zT_140 I n1 = zO I n1 zo_140 := (congrArg (fun S => zO1 I S (0, 14, 18, 0, 0, 0)) (zTo_139 I n1) : _)
def zo_141 : List (Nat × Nat × Nat × Nat × Nat × Int32) := (2, 52, 0, 53, 0, 0) :: zo_140
theorem zTo_141 (I : Nat → Nat → Int32) (n1 : Nat) : zT_141 I n1 = zO I n1 zo_141 := (congrArg (fun S => zO1 I S (2, 52, 0, 53, 0, 0)) (zTo_140 I n1) : _)
def zo_142 : List (Nat × Nat × Nat × Nat × Nat × Int32) := (0, 14, 84, 0, 0, 0) :: zo_141
theorem zTo_142 (I : Nat → Nat → Int32) (n1 : Nat) : zT_142 I n1 = zO I n1 zo_142 := (congrArg (fun S => zO1 I S (0, 14, 84, 0, 0, 0)) (zTo_141 I n1) : _)
def zo_143 : List (Nat × Nat × Nat × Nat × Nat × Int32) := (2, 52, 2, 54, 0, 0) :: zo_142
theorem zTo_143 (I : Nat → Nat → Int32) (n1 : Nat) : zT_143 I n1 = zO I n1 zo_143 := (congrArg (fun S => zO1 I S (2, 52, 2, 54, 0, 0)) (zTo_142 I n1) : _)
def zo_144 : List (Nat × Nat × Nat × Nat × Nat × Int32) := (0, 12, 80, 0, 0, 0) :: zo_143
theorem zTo_144 (I : Nat → Nat → Int32) (n1 : Nat) : zT_144 I n1 = zO I n1 zo_144 := (congrArg (fun S => zO1 I S (0, 12, 80, 0, 0, 0)) (zTo_143 I n1) : _)
def zo_145 : List (Nat × Nat × Nat × Nat × Nat × Int32) := (2, 52, 3, 55, 0, 0) :: zo_144
theorem zTo_145 (I : Nat → Nat → Int32) (n1 : Nat) : zT_145 I n1 = zO I n1 zo_145 := (congrArg (fun S => zO1 I S (2, 52, 3, 55, 0, 0)) (zTo_144 I n1) : _)
def zo_146 : List (Nat × Nat × Nat × Nat × Nat × Int32) := (0, 15, 20, 0, 0, 0) :: zo_145
theorem zTo_146 (I : Nat → Nat → Int32) (n1 : Nat) : zT_146 I n1 = zO I n1 zo_146 := (congrArg (fun S => zO1 I S (0, 15, 20, 0, 0, 0)) (zTo_145 I n1) : _)
def zo_147 : List (Nat × Nat × Nat × Nat × Nat × Int32) := (2, 52, 5, 56, 0, 0) :: zo_146
theorem zTo_147 (I : Nat → Nat → Int32) (n1 : Nat) : zT_147 I n1 = zO I n1 zo_147 := (congrArg (fun S => zO1 I S (2, 52, 5, 56, 0, 0)) (zTo_146 I n1) : _)
def zo_148 : List (Nat × Nat × Nat × Nat × Nat × Int32) := (0, 14, 84, 0, 0, 0) :: zo_147
theorem zTo_148 (I : Nat → Nat → Int32) (n1 : Nat) : zT_148 I n1 = zO I n1 zo_148 := (congrArg (fun S => zO1 I S (0, 14, 84, 0, 0, 0)) (zTo_147 I n1) : _)
def zo_149 : List (Nat × Nat × Nat × Nat × Nat × Int32) := (2, 52, 13, 57, 0, 0) :: zo_148
theorem zTo_149 (I : Nat → Nat → Int32) (n1 : Nat) : zT_149 I n1 = zO I n1 zo_149 := (congrArg (fun S => zO1 I S (2, 52, 13, 57, 0, 0)) (zTo_148 I n1) : _)
def zo_150 : List (Nat × Nat × Nat × Nat × Nat × Int32) := (0, 12, 40, 0, 0, 0) :: zo_149
theorem zTo_150 (I : Nat → Nat → Int32) (n1 : Nat) : zT_150 I n1 = zO I n1 zo_150 := (congrArg (fun S => zO1 I S (0, 12, 40, 0, 0, 0)) (zTo_149 I n1) : _)
def zo_151 : List (Nat × Nat × Nat × Nat × Nat × Int32) := (2, 52, 14, 58, 0, 0) :: zo_150
theorem zTo_151 (I : Nat → Nat → Int32) (n1 : Nat) : zT_151 I n1 = zO I n1 zo_151 := (congrArg (fun S => zO1 I S (2, 52, 14, 58, 0, 0)) (zTo_150 I n1) : _)
def zo_152 : List (Nat × Nat × Nat × Nat × Nat × Int32) := (0, 12, 40, 0, 0, 0) :: zo_151
theorem zTo_152 (I : Nat → Nat → Int32) (n1 : Nat) : zT_152 I n1 = zO I n1 zo_152 := (congrArg (fun S => zO1 I S (0, 12, 40, 0, 0, 0)) (zTo_151 I n1) : _)
def zo_153 : List (Nat × Nat × Nat × Nat × Nat × Int32) := (2, 52, 15, 59, 0, 0) :: zo_152
theorem zTo_153 (I : Nat → Nat → Int32) (n1 : Nat) : zT_153 I n1 = zO I n1 zo_153 := (congrArg (fun S => zO1 I S (2, 52, 15, 59, 0, 0)) (zTo_152 I n1) : _)
def zo_154 : List (Nat × Nat × Nat × Nat × Nat × Int32) := (0, 14, 6, 0, 0, 0) :: zo_153
theorem zTo_154 (I : Nat → Nat → Int32) (n1 : Nat) : zT_154 I n1 = zO I n1 zo_154 := (congrArg (fun S => zO1 I S (0, 14, 6, 0, 0, 0)) (zTo_153 I n1) : _)
def zo_155 : List (Nat × Nat × Nat × Nat × Nat × Int32) := (2, 52, 18, 60, 0, 0) :: zo_154
theorem zTo_155 (I : Nat → Nat → Int32) (n1 : Nat) : zT_155 I n1 = zO I n1 zo_155 := (congrArg (fun S => zO1 I S (2, 52, 18, 60, 0, 0)) (zTo_154 I n1) : _)
def zo_156 : List (Nat × Nat × Nat × Nat × Nat × Int32) := (0, 14, 216, 0, 0, 0) :: zo_155
theorem zTo_156 (I : Nat → Nat → Int32) (n1 : Nat) : zT_156 I n1 = zO I n1 zo_156 := (congrArg (fun S => zO1 I S (0, 14, 216, 0, 0, 0)) (zTo_155 I n1) : _)
def zo_157 : List (Nat × Nat × Nat × Nat × Nat × Int32) := (2, 52, 19, 61, 0, 0) :: zo_156
theorem zTo_157 (I : Nat → Nat → Int32) (n1 : Nat) : zT_157 I n1 = zO I n1 zo_157 := (congrArg (fun S => zO1 I S (2, 52, 19, 61, 0, 0)) (zTo_156 I n1) : _)
def zo_158 : List (Nat × Nat × Nat × Nat × Nat × Int32) := (0, 14, 18, 0, 0, 0) :: zo_157
theorem zTo_158 (I : Nat → Nat → Int32) (n1 : Nat) : zT_158 I n1 = zO I n1 zo_158 := (congrArg (fun S => zO1 I S (0, 14, 18, 0, 0, 0)) (zTo_157 I n1) : _)
def zo_159 : List (Nat × Nat × Nat × Nat × Nat × Int32) := (2, 52, 21, 62, 0, 0) :: zo_158
theorem zTo_159 (I : Nat → Nat → Int32) (n1 : Nat) : zT_159 I n1 = zO I n1 zo_159 := (congrArg (fun S => zO1 I S (2, 52, 21, 62, 0, 0)) (zTo_158 I n1) : _)
def zo_160 : List (Nat × Nat × Nat × Nat × Nat × Int32) := (0, 14, 18, 0, 0, 0) :: zo_159
theorem zTo_160 (I : Nat → Nat → Int32) (n1 : Nat) : zT_160 I n1 = zO I n1 zo_160 := (congrArg (fun S => zO1 I S (0, 14, 18, 0, 0, 0)) (zTo_159 I n1) : _)
def zo_161 : List (Nat × Nat × Nat × Nat × Nat × Int32) := (2, 52, 22, 63, 0, 0) :: zo_160
theorem zTo_161 (I : Nat → Nat → Int32) (n1 : Nat) : zT_161 I n1 = zO I n1 zo_161 := (congrArg (fun S => zO1 I S (2, 52, 22, 63, 0, 0)) (zTo_160 I n1) : _)
def zo_162 : List (Nat × Nat × Nat × Nat × Nat × Int32) := (0, 14, 160, 0, 0, 0) :: zo_161
theorem zTo_162 (I : Nat → Nat → Int32) (n1 : Nat) : zT_162 I n1 = zO I n1 zo_162 := (congrArg (fun S => zO1 I S (0, 14, 160, 0, 0, 0)) (zTo_161 I n1) : _)
def zo_163 : List (Nat × Nat × Nat × Nat × Nat × Int32) := (2, 52, 23, 64, 0, 0) :: zo_162
theorem zTo_163 (I : Nat → Nat → Int32) (n1 : Nat) : zT_163 I n1 = zO I n1 zo_163 := (congrArg (fun S => zO1 I S (2, 52, 23, 64, 0, 0)) (zTo_162 I n1) : _)
def zo_164 : List (Nat × Nat × Nat × Nat × Nat × Int32) := (0, 14, 12, 0, 0, 0) :: zo_163
theorem zTo_164 (I : Nat → Nat → Int32) (n1 : Nat) : zT_164 I n1 = zO I n1 zo_164 := (congrArg (fun S => zO1 I S (0, 14, 12, 0, 0, 0)) (zTo_163 I n1) : _)
def zo_165 : List (Nat × Nat × Nat × Nat × Nat × Int32) := (2, 52, 24, 65, 0, 0) :: zo_164
theorem zTo_165 (I : Nat → Nat → Int32) (n1 : Nat) : zT_165 I n1 = zO I n1 zo_165 := (congrArg (fun S => zO1 I S (2, 52, 24, 65, 0, 0)) (zTo_164 I n1) : _)
def zo_166 : List (Nat × Nat × Nat × Nat × Nat × Int32) := (0, 14, 12, 0, 0, 0) :: zo_165
theorem zTo_166 (I : Nat → Nat → Int32) (n1 : Nat) : zT_166 I n1 = zO I n1 zo_166 := (congrArg (fun S => zO1 I S (0, 14, 12, 0, 0, 0)) (zTo_165 I n1) : _)
def zo_167 : List (Nat × Nat × Nat × Nat × Nat × Int32) := (2, 52, 25, 66, 0, 0) :: zo_166
theorem zTo_167 (I : Nat → Nat → Int32) (n1 : Nat) : zT_167 I n1 = zO I n1 zo_167 := (congrArg (fun S => zO1 I S (2, 52, 25, 66, 0, 0)) (zTo_166 I n1) : _)
def zo_168 : List (Nat × Nat × Nat × Nat × Nat × Int32) := (0, 14, 2, 0, 0, 0) :: zo_167
theorem zTo_168 (I : Nat → Nat → Int32) (n1 : Nat) : zT_168 I n1 = zO I n1 zo_168 := (congrArg (fun S => zO1 I S (0, 14, 2, 0, 0, 0)) (zTo_167 I n1) : _)
def zo_169 : List (Nat × Nat × Nat × Nat × Nat × Int32) := (2, 52, 26, 67, 0, 0) :: zo_168
theorem zTo_169 (I : Nat → Nat → Int32) (n1 : Nat) : zT_169 I n1 = zO I n1 zo_169 := (congrArg (fun S => zO1 I S (2, 52, 26, 67, 0, 0)) (zTo_168 I n1) : _)
def zo_170 : List (Nat × Nat × Nat × Nat × Nat × Int32) := (0, 14, 13, 0, 0, 0) :: zo_169
theorem zTo_170 (I : Nat → Nat → Int32) (n1 : Nat) : zT_170 I n1 = zO I n1 zo_170 := (congrArg (fun S => zO1 I S (0, 14, 13, 0, 0, 0)) (zTo_169 I n1) : _)
def zo_171 : List (Nat × Nat × Nat × Nat × Nat × Int32) := (2, 52, 27, 68, 0, 0) :: zo_170
theorem zTo_171 (I : Nat → Nat → Int32) (n1 : Nat) : zT_171 I n1 = zO I n1 zo_171 := (congrArg (fun S => zO1 I S (2, 52, 27, 68, 0, 0)) (zTo_170 I n1) : _)
def zo_172 : List (Nat × Nat × Nat × Nat × Nat × Int32) := (0, 14, 2, 0, 0, 0) :: zo_171
theorem zTo_172 (I : Nat → Nat → Int32) (n1 : Nat) : zT_172 I n1 = zO I n1 zo_172 := (congrArg (fun S => zO1 I S (0, 14, 2, 0, 0, 0)) (zTo_171 I n1) : _)
def zo_173 : List (Nat × Nat × Nat × Nat × Nat × Int32) := (2, 52, 31, 69, 0, 0) :: zo_172
theorem zTo_173 (I : Nat → Nat → Int32) (n1 : Nat) : zT_173 I n1 = zO I n1 zo_173 := (congrArg (fun S => zO1 I S (2, 52, 31, 69, 0, 0)) (zTo_172 I n1) : _)
def zo_174 : List (Nat × Nat × Nat × Nat × Nat × Int32) := (0, 14, 12, 0, 0, 0) :: zo_173
theorem zTo_174 (I : Nat → Nat → Int32) (n1 : Nat) : zT_174 I n1 = zO I n1 zo_174 := (congrArg (fun S => zO1 I S (0, 14, 12, 0, 0, 0)) (zTo_173 I n1) : _)
def zo_175 : List (Nat × Nat × Nat × Nat × Nat × Int32) := (2, 52, 32, 70, 0, 0) :: zo_174
theorem zTo_175 (I : Nat → Nat → Int32) (n1 : Nat) : zT_175 I n1 = zO I n1 zo_175 := (congrArg (fun S => zO1 I S (2, 52, 32, 70, 0, 0)) (zTo_174 I n1) : _)
def zo_176 : List (Nat × Nat × Nat × Nat × Nat × Int32) := (0, 14, 12, 0, 0, 0) :: zo_175
theorem zTo_176 (I : Nat → Nat → Int32) (n1 : Nat) : zT_176 I n1 = zO I n1 zo_176 := (congrArg (fun S => zO1 I S (0, 14, 12, 0, 0, 0)) (zTo_175 I n1) : _)
def zo_177 : List (Nat × Nat × Nat × Nat × Nat × Int32) := (2, 52, 33, 71, 0, 0) :: zo_176
theorem zTo_177 (I : Nat → Nat → Int32) (n1 : Nat) : zT_177 I n1 = zO I n1 zo_177 := (congrArg (fun S => zO1 I S (2, 52, 33, 71, 0, 0)) (zTo_176 I n1) : _)
def zo_178 : List (Nat × Nat × Nat × Nat × Nat × Int32) := (0, 14, 2, 0, 0, 0) :: zo_177
theorem zTo_178 (I : Nat → Nat → Int32) (n1 : Nat) : zT_178 I n1 = zO I n1 zo_178 := (congrArg (fun S => zO1 I S (0, 14, 2, 0, 0, 0)) (zTo_177 I n1) : _)
def zo_179 : List (Nat × Nat × Nat × Nat × Nat × Int32) := (2, 52, 34, 72, 0, 0) :: zo_178
theorem zTo_179 (I : Nat → Nat → Int32) (n1 : Nat) : zT_179 I n1 = zO I n1 zo_179 := (congrArg (fun S => zO1 I S (2, 52, 34, 72, 0, 0)) (zTo_178 I n1) : _)
def zo_180 : List (Nat × Nat × Nat × Nat × Nat × Int32) := (0, 14, 12, 0, 0, 0) :: zo_179
theorem zTo_180 (I : Nat → Nat → Int32) (n1 : Nat) : zT_180 I n1 = zO I n1 zo_180 := (congrArg (fun S => zO1 I S (0, 14, 12, 0, 0, 0)) (zTo_179 I n1) : _)
def zo_181 : List (Nat × Nat × Nat × Nat × Nat × Int32) := (2, 52, 36, 73, 0, 0) :: zo_180
theorem zTo_181 (I : Nat → Nat → Int32) (n1 : Nat) : zT_181 I n1 = zO I n1 zo_181 := (congrArg (fun S => zO1 I S (2, 52, 36, 73, 0, 0)) (zTo_180 I n1) : _)
def zo_182 : List (Nat × Nat × Nat × Nat × Nat × Int32) := (0, 14, 507, 0, 0, 0) :: zo_181
theorem zTo_182 (I : Nat → Nat → Int32) (n1 : Nat) : zT_182 I n1 = zO I n1 zo_182 := (congrArg (fun S => zO1 I S (0, 14, 507, 0, 0, 0)) (zTo_181 I n1) : _)
def zo_183 : List (Nat × Nat × Nat × Nat × Nat × Int32) := (2, 52, 37, 74, 0, 0) :: zo_182
theorem zTo_183 (I : Nat → Nat → Int32) (n1 : Nat) : zT_183 I n1 = zO I n1 zo_183 := (congrArg (fun S => zO1 I S (2, 52, 37, 74, 0, 0)) (zTo_182 I n1) : _)
def zo_184 : List (Nat × Nat × Nat × Nat × Nat × Int32) := (0, 14, 12, 0, 0, 0) :: zo_183
theorem zTo_184 (I : Nat → Nat → Int32) (n1 : Nat) : zT_184 I n1 = zO I n1 zo_184 := (congrArg (fun S => zO1 I S (0, 14, 12, 0, 0, 0)) (zTo_183 I n1) : _)
def zo_185 : List (Nat × Nat × Nat × Nat × Nat × Int32) := (2, 52, 38, 75, 0, 0) :: zo_184
theorem zTo_185 (I : Nat → Nat → Int32) (n1 : Nat) : zT_185 I n1 = zO I n1 zo_185 := (congrArg (fun S => zO1 I S (2, 52, 38, 75, 0, 0)) (zTo_184 I n1) : _)
def zo_186 : List (Nat × Nat × Nat × Nat × Nat × Int32) := (0, 14, 12, 0, 0, 0) :: zo_185
theorem zTo_186 (I : Nat → Nat → Int32) (n1 : Nat) : zT_186 I n1 = zO I n1 zo_186 := (congrArg (fun S => zO1 I S (0, 14, 12, 0, 0, 0)) (zTo_185 I n1) : _)
def zo_187 : List (Nat × Nat × Nat × Nat × Nat × Int32) := (2, 52, 39, 76, 0, 0) :: zo_186
theorem zTo_187 (I : Nat → Nat → Int32) (n1 : Nat) : zT_187 I n1 = zO I n1 zo_187 := (congrArg (fun S => zO1 I S (2, 52, 39, 76, 0, 0)) (zTo_186 I n1) : _)
def zo_188 : List (Nat × Nat × Nat × Nat × Nat × Int32) := (0, 14, 4096, 0, 0, 0) :: zo_187
theorem zTo_188 (I : Nat → Nat → Int32) (n1 : Nat) : zT_188 I n1 = zO I n1 zo_188 := (congrArg (fun S => zO1 I S (0, 14, 4096, 0, 0, 0)) (zTo_187 I n1) : _)
def zo_189 : List (Nat × Nat × Nat × Nat × Nat × Int32) := (2, 52, 40, 77, 0, 0) :: zo_188
theorem zTo_189 (I : Nat → Nat → Int32) (n1 : Nat) : zT_189 I n1 = zO I n1 zo_189 := (congrArg (fun S => zO1 I S (2, 52, 40, 77, 0, 0)) (zTo_188 I n1) : _)
def zo_190 : List (Nat × Nat × Nat × Nat × Nat × Int32) := (0, 15, 13, 0, 0, 0) :: zo_189
theorem zTo_190 (I : Nat → Nat → Int32) (n1 : Nat) : zT_190 I n1 = zO I n1 zo_190 := (congrArg (fun S => zO1 I S (0, 15, 13, 0, 0, 0)) (zTo_189 I n1) : _)
def zo_191 : List (Nat × Nat × Nat × Nat × Nat × Int32) := (2, 52, 41, 78, 0, 0) :: zo_190
theorem zTo_191 (I : Nat → Nat → Int32) (n1 : Nat) : zT_191 I n1 = zO I n1 zo_191 := (congrArg (fun S => zO1 I S (2, 52, 41, 78, 0, 0)) (zTo_190 I n1) : _)
def zo_192 : List (Nat × Nat × Nat × Nat × Nat × Int32) := (0, 14, 41, 0, 0, 0) :: zo_191
theorem zTo_192 (I : Nat → Nat → Int32) (n1 : Nat) : zT_192 I n1 = zO I n1 zo_192 := (congrArg (fun S => zO1 I S (0, 14, 41, 0, 0, 0)) (zTo_191 I n1) : _)
def zo_193 : List (Nat × Nat × Nat × Nat × Nat × Int32) := (2, 52, 42, 79, 0, 0) :: zo_192
theorem zTo_193 (I : Nat → Nat → Int32) (n1 : Nat) : zT_193 I n1 = zO I n1 zo_193 := (congrArg (fun S => zO1 I S (2, 52, 42, 79, 0, 0)) (zTo_192 I n1) : _)
def zo_194 : List (Nat × Nat × Nat × Nat × Nat × Int32) := (0, 14, 36, 0, 0, 0) :: zo_193
theorem zTo_194 (I : Nat → Nat → Int32) (n1 : Nat) : zT_194 I n1 = zO I n1 zo_194 := (congrArg (fun S => zO1 I S (0, 14, 36, 0, 0, 0)) (zTo_193 I n1) : _)
def zo_195 : List (Nat × Nat × Nat × Nat × Nat × Int32) := (2, 52, 46, 80, 0, 0) :: zo_194
theorem zTo_195 (I : Nat → Nat → Int32) (n1 : Nat) : zT_195 I n1 = zO I n1 zo_195 := (congrArg (fun S => zO1 I S (2, 52, 46, 80, 0, 0)) (zTo_194 I n1) : _)
def zo_196 : List (Nat × Nat × Nat × Nat × Nat × Int32) := (0, 16, 2, 0, 0, 0) :: zo_195
theorem zTo_196 (I : Nat → Nat → Int32) (n1 : Nat) : zT_196 I n1 = zO I n1 zo_196 := (congrArg (fun S => zO1 I S (0, 16, 2, 0, 0, 0)) (zTo_195 I n1) : _)
def zo_197 : List (Nat × Nat × Nat × Nat × Nat × Int32) := (2, 52, 47, 81, 0, 0) :: zo_196
theorem zTo_197 (I : Nat → Nat → Int32) (n1 : Nat) : zT_197 I n1 = zO I n1 zo_197 := (congrArg (fun S => zO1 I S (2, 52, 47, 81, 0, 0)) (zTo_196 I n1) : _)
def zo_198 : List (Nat × Nat × Nat × Nat × Nat × Int32) := (0, 14, 2, 0, 0, 0) :: zo_197
theorem zTo_198 (I : Nat → Nat → Int32) (n1 : Nat) : zT_198 I n1 = zO I n1 zo_198 := (congrArg (fun S => zO1 I S (0, 14, 2, 0, 0, 0)) (zTo_197 I n1) : _)
def zo_199 : List (Nat × Nat × Nat × Nat × Nat × Int32) := (2, 52, 48, 82, 0, 0) :: zo_198
theorem zTo_199 (I : Nat → Nat → Int32) (n1 : Nat) : zT_199 I n1 = zO I n1 zo_199 := (congrArg (fun S => zO1 I S (2, 52, 48, 82, 0, 0)) (zTo_198 I n1) : _)
def zo_200 : List (Nat × Nat × Nat × Nat × Nat × Int32) := (1, 53, 13, 0, 0, Int32.ofInt (-1)) :: zo_199
theorem zTo_200 (I : Nat → Nat → Int32) (n1 : Nat) : zT_200 I n1 = zO I n1 zo_200 := Eq.trans (congrArg (fun S => zz_pI S 53 13 (Int32.ofInt (-1))) (zTo_199 I n1)) (zO1_c I (zO I n1 zo_199) 53 13 (Int32.ofInt (-1))).symm
def zo_201 : List (Nat × Nat × Nat × Nat × Nat × Int32) := (0, 15, 1, 0, 0, 0) :: zo_200
theorem zTo_201 (I : Nat → Nat → Int32) (n1 : Nat) : zT_201 I n1 = zO I n1 zo_201 := (congrArg (fun S => zO1 I S (0, 15, 1, 0, 0, 0)) (zTo_200 I n1) : _)
set_option maxHeartbeats 4000000 in
theorem zC_0 (I : Nat → Nat → Int32) (n1 : Nat) : zz_run 299 112 0 [some (.ref 5)] [] (zT_6 I n1) none (zT_10 I n1) := by
  refine zs_112_0 ?_
  repeat' first | refine And.intro rfl ?_ | refine And.intro (Or.inl rfl) ?_ | refine And.intro (Or.inr rfl) ?_ | refine And.intro (Nat.le_of_ble_eq_true rfl) ?_ | refine And.intro (And.intro rfl rfl) ?_ | exact rfl | refine And.intro trivial ?_ | refine And.intro (of_decide_eq_false rfl) ?_ | refine And.intro (of_decide_eq_true rfl) ?_
set_option maxHeartbeats 4000000 in
theorem zC_1 (I : Nat → Nat → Int32) (n1 : Nat) : zz_run 299 77 0 [some (.ref 8)] [] (zT_12 I n1) none (zT_13 I n1) := by
  refine zs_77_0 ?_
  repeat' first | refine And.intro rfl ?_ | refine And.intro (Or.inl rfl) ?_ | refine And.intro (Or.inr rfl) ?_ | refine And.intro (Nat.le_of_ble_eq_true rfl) ?_ | refine And.intro (And.intro rfl rfl) ?_ | exact rfl | refine And.intro trivial ?_ | refine And.intro (of_decide_eq_false rfl) ?_ | refine And.intro (of_decide_eq_true rfl) ?_
set_option maxHeartbeats 4000000 in
theorem zC_2 (I : Nat → Nat → Int32) (n1 : Nat) : zz_run 298 77 0 [some (.ref 13)] [] (zT_22 I n1) none (zT_23 I n1) := by
  refine zs_77_0 ?_
  repeat' first | refine And.intro rfl ?_ | refine And.intro (Or.inl rfl) ?_ | refine And.intro (Or.inr rfl) ?_ | refine And.intro (Nat.le_of_ble_eq_true rfl) ?_ | refine And.intro (And.intro rfl rfl) ?_ | exact rfl | refine And.intro trivial ?_ | refine And.intro (of_decide_eq_false rfl) ?_ | refine And.intro (of_decide_eq_true rfl) ?_
set_option maxHeartbeats 4000000 in
theorem zC_3 (I : Nat → Nat → Int32) (n1 : Nat) : zz_run 298 77 0 [some (.ref 14)] [] (zT_25 I n1) none (zT_26 I n1) := by
  refine zs_77_0 ?_
  repeat' first | refine And.intro rfl ?_ | refine And.intro (Or.inl rfl) ?_ | refine And.intro (Or.inr rfl) ?_ | refine And.intro (Nat.le_of_ble_eq_true rfl) ?_ | refine And.intro (And.intro rfl rfl) ?_ | exact rfl | refine And.intro trivial ?_ | refine And.intro (of_decide_eq_false rfl) ?_ | refine And.intro (of_decide_eq_true rfl) ?_
set_option maxHeartbeats 4000000 in
theorem zC_4 (I : Nat → Nat → Int32) (n1 : Nat) : zz_run 298 77 0 [some (.ref 15)] [] (zT_28 I n1) none (zT_29 I n1) := by
  refine zs_77_0 ?_
  repeat' first | refine And.intro rfl ?_ | refine And.intro (Or.inl rfl) ?_ | refine And.intro (Or.inr rfl) ?_ | refine And.intro (Nat.le_of_ble_eq_true rfl) ?_ | refine And.intro (And.intro rfl rfl) ?_ | exact rfl | refine And.intro trivial ?_ | refine And.intro (of_decide_eq_false rfl) ?_ | refine And.intro (of_decide_eq_true rfl) ?_
set_option maxHeartbeats 4000000 in
theorem zC_5 (I : Nat → Nat → Int32) (n1 : Nat) : zz_run 298 77 0 [some (.ref 16)] [] (zT_31 I n1) none (zT_32 I n1) := by
  refine zs_77_0 ?_
  repeat' first | refine And.intro rfl ?_ | refine And.intro (Or.inl rfl) ?_ | refine And.intro (Or.inr rfl) ?_ | refine And.intro (Nat.le_of_ble_eq_true rfl) ?_ | refine And.intro (And.intro rfl rfl) ?_ | exact rfl | refine And.intro trivial ?_ | refine And.intro (of_decide_eq_false rfl) ?_ | refine And.intro (of_decide_eq_true rfl) ?_
set_option maxHeartbeats 4000000 in
theorem zC_6 (I : Nat → Nat → Int32) (n1 : Nat) : zz_run 298 77 0 [some (.ref 17)] [] (zT_34 I n1) none (zT_35 I n1) := by
  refine zs_77_0 ?_
  repeat' first | refine And.intro rfl ?_ | refine And.intro (Or.inl rfl) ?_ | refine And.intro (Or.inr rfl) ?_ | refine And.intro (Nat.le_of_ble_eq_true rfl) ?_ | refine And.intro (And.intro rfl rfl) ?_ | exact rfl | refine And.intro trivial ?_ | refine And.intro (of_decide_eq_false rfl) ?_ | refine And.intro (of_decide_eq_true rfl) ?_
set_option maxHeartbeats 4000000 in
theorem zC_7 (I : Nat → Nat → Int32) (n1 : Nat) : zz_run 298 77 0 [some (.ref 18)] [] (zT_37 I n1) none (zT_38 I n1) := by
  refine zs_77_0 ?_
  repeat' first | refine And.intro rfl ?_ | refine And.intro (Or.inl rfl) ?_ | refine And.intro (Or.inr rfl) ?_ | refine And.intro (Nat.le_of_ble_eq_true rfl) ?_ | refine And.intro (And.intro rfl rfl) ?_ | exact rfl | refine And.intro trivial ?_ | refine And.intro (of_decide_eq_false rfl) ?_ | refine And.intro (of_decide_eq_true rfl) ?_
set_option maxHeartbeats 4000000 in
theorem zC_8 (I : Nat → Nat → Int32) (n1 : Nat) : zz_run 298 77 0 [some (.ref 19)] [] (zT_40 I n1) none (zT_41 I n1) := by
  refine zs_77_0 ?_
  repeat' first | refine And.intro rfl ?_ | refine And.intro (Or.inl rfl) ?_ | refine And.intro (Or.inr rfl) ?_ | refine And.intro (Nat.le_of_ble_eq_true rfl) ?_ | refine And.intro (And.intro rfl rfl) ?_ | exact rfl | refine And.intro trivial ?_ | refine And.intro (of_decide_eq_false rfl) ?_ | refine And.intro (of_decide_eq_true rfl) ?_
set_option maxHeartbeats 4000000 in
theorem zC_9 (I : Nat → Nat → Int32) (n1 : Nat) : zz_run 298 77 0 [some (.ref 20)] [] (zT_43 I n1) none (zT_44 I n1) := by
  refine zs_77_0 ?_
  repeat' first | refine And.intro rfl ?_ | refine And.intro (Or.inl rfl) ?_ | refine And.intro (Or.inr rfl) ?_ | refine And.intro (Nat.le_of_ble_eq_true rfl) ?_ | refine And.intro (And.intro rfl rfl) ?_ | exact rfl | refine And.intro trivial ?_ | refine And.intro (of_decide_eq_false rfl) ?_ | refine And.intro (of_decide_eq_true rfl) ?_
set_option maxHeartbeats 4000000 in
theorem zC_10 (I : Nat → Nat → Int32) (n1 : Nat) : zz_run 298 77 0 [some (.ref 21)] [] (zT_46 I n1) none (zT_47 I n1) := by
  refine zs_77_0 ?_
  repeat' first | refine And.intro rfl ?_ | refine And.intro (Or.inl rfl) ?_ | refine And.intro (Or.inr rfl) ?_ | refine And.intro (Nat.le_of_ble_eq_true rfl) ?_ | refine And.intro (And.intro rfl rfl) ?_ | exact rfl | refine And.intro trivial ?_ | refine And.intro (of_decide_eq_false rfl) ?_ | refine And.intro (of_decide_eq_true rfl) ?_
set_option maxHeartbeats 4000000 in
theorem zC_11 (I : Nat → Nat → Int32) (n1 : Nat) : zz_run 298 77 0 [some (.ref 22)] [] (zT_49 I n1) none (zT_50 I n1) := by
  refine zs_77_0 ?_
  repeat' first | refine And.intro rfl ?_ | refine And.intro (Or.inl rfl) ?_ | refine And.intro (Or.inr rfl) ?_ | refine And.intro (Nat.le_of_ble_eq_true rfl) ?_ | refine And.intro (And.intro rfl rfl) ?_ | exact rfl | refine And.intro trivial ?_ | refine And.intro (of_decide_eq_false rfl) ?_ | refine And.intro (of_decide_eq_true rfl) ?_
set_option maxHeartbeats 4000000 in
theorem zC_12 (I : Nat → Nat → Int32) (n1 : Nat) : zz_run 298 77 0 [some (.ref 23)] [] (zT_52 I n1) none (zT_53 I n1) := by
  refine zs_77_0 ?_
  repeat' first | refine And.intro rfl ?_ | refine And.intro (Or.inl rfl) ?_ | refine And.intro (Or.inr rfl) ?_ | refine And.intro (Nat.le_of_ble_eq_true rfl) ?_ | refine And.intro (And.intro rfl rfl) ?_ | exact rfl | refine And.intro trivial ?_ | refine And.intro (of_decide_eq_false rfl) ?_ | refine And.intro (of_decide_eq_true rfl) ?_
set_option maxHeartbeats 4000000 in
theorem zC_13 (I : Nat → Nat → Int32) (n1 : Nat) : zz_run 298 77 0 [some (.ref 24)] [] (zT_55 I n1) none (zT_56 I n1) := by
  refine zs_77_0 ?_
  repeat' first | refine And.intro rfl ?_ | refine And.intro (Or.inl rfl) ?_ | refine And.intro (Or.inr rfl) ?_ | refine And.intro (Nat.le_of_ble_eq_true rfl) ?_ | refine And.intro (And.intro rfl rfl) ?_ | exact rfl | refine And.intro trivial ?_ | refine And.intro (of_decide_eq_false rfl) ?_ | refine And.intro (of_decide_eq_true rfl) ?_
set_option maxHeartbeats 4000000 in
theorem zC_14 (I : Nat → Nat → Int32) (n1 : Nat) : zz_run 298 77 0 [some (.ref 25)] [] (zT_58 I n1) none (zT_59 I n1) := by
  refine zs_77_0 ?_
  repeat' first | refine And.intro rfl ?_ | refine And.intro (Or.inl rfl) ?_ | refine And.intro (Or.inr rfl) ?_ | refine And.intro (Nat.le_of_ble_eq_true rfl) ?_ | refine And.intro (And.intro rfl rfl) ?_ | exact rfl | refine And.intro trivial ?_ | refine And.intro (of_decide_eq_false rfl) ?_ | refine And.intro (of_decide_eq_true rfl) ?_
set_option maxHeartbeats 4000000 in
theorem zC_15 (I : Nat → Nat → Int32) (n1 : Nat) : zz_run 298 77 0 [some (.ref 26)] [] (zT_61 I n1) none (zT_62 I n1) := by
  refine zs_77_0 ?_
  repeat' first | refine And.intro rfl ?_ | refine And.intro (Or.inl rfl) ?_ | refine And.intro (Or.inr rfl) ?_ | refine And.intro (Nat.le_of_ble_eq_true rfl) ?_ | refine And.intro (And.intro rfl rfl) ?_ | exact rfl | refine And.intro trivial ?_ | refine And.intro (of_decide_eq_false rfl) ?_ | refine And.intro (of_decide_eq_true rfl) ?_
set_option maxHeartbeats 4000000 in
theorem zC_16 (I : Nat → Nat → Int32) (n1 : Nat) : zz_run 298 77 0 [some (.ref 27)] [] (zT_64 I n1) none (zT_65 I n1) := by
  refine zs_77_0 ?_
  repeat' first | refine And.intro rfl ?_ | refine And.intro (Or.inl rfl) ?_ | refine And.intro (Or.inr rfl) ?_ | refine And.intro (Nat.le_of_ble_eq_true rfl) ?_ | refine And.intro (And.intro rfl rfl) ?_ | exact rfl | refine And.intro trivial ?_ | refine And.intro (of_decide_eq_false rfl) ?_ | refine And.intro (of_decide_eq_true rfl) ?_
set_option maxHeartbeats 4000000 in
theorem zC_17 (I : Nat → Nat → Int32) (n1 : Nat) : zz_run 299 85 0 [some (.ref 9), none] [] (zT_15 I n1) none (zT_66 I n1) := by
  refine zs_85_0 ?_
  repeat' first | refine And.intro rfl ?_ | refine And.intro (Or.inl rfl) ?_ | refine And.intro (Or.inr rfl) ?_ | refine And.intro (Nat.le_of_ble_eq_true rfl) ?_ | refine And.intro (And.intro rfl rfl) ?_ | exact rfl | refine And.intro trivial ?_ | refine And.intro (of_decide_eq_false rfl) ?_ | refine And.intro (of_decide_eq_true rfl) ?_
  refine Exists.intro _ (Exists.intro _ (And.intro (zC_2 I n1) ?_))
  repeat' first | refine And.intro rfl ?_ | refine And.intro (Or.inl rfl) ?_ | refine And.intro (Or.inr rfl) ?_ | refine And.intro (Nat.le_of_ble_eq_true rfl) ?_ | refine And.intro (And.intro rfl rfl) ?_ | exact rfl | refine And.intro trivial ?_ | refine And.intro (of_decide_eq_false rfl) ?_ | refine And.intro (of_decide_eq_true rfl) ?_
  refine zs_85_41 ?_
  repeat' first | refine And.intro rfl ?_ | refine And.intro (Or.inl rfl) ?_ | refine And.intro (Or.inr rfl) ?_ | refine And.intro (Nat.le_of_ble_eq_true rfl) ?_ | refine And.intro (And.intro rfl rfl) ?_ | exact rfl | refine And.intro trivial ?_ | refine And.intro (of_decide_eq_false rfl) ?_ | refine And.intro (of_decide_eq_true rfl) ?_
  refine And.intro (fun c => absurd (show nI 12 ≤ nI 0 from c) (by decide)) (fun _ => ?_)
  repeat' first | refine And.intro rfl ?_ | refine And.intro (Or.inl rfl) ?_ | refine And.intro (Or.inr rfl) ?_ | refine And.intro (Nat.le_of_ble_eq_true rfl) ?_ | refine And.intro (And.intro rfl rfl) ?_ | exact rfl | refine And.intro trivial ?_ | refine And.intro (of_decide_eq_false rfl) ?_ | refine And.intro (of_decide_eq_true rfl) ?_
  refine Exists.intro _ (Exists.intro _ (And.intro (zC_3 I n1) ?_))
  repeat' first | refine And.intro rfl ?_ | refine And.intro (Or.inl rfl) ?_ | refine And.intro (Or.inr rfl) ?_ | refine And.intro (Nat.le_of_ble_eq_true rfl) ?_ | refine And.intro (And.intro rfl rfl) ?_ | exact rfl | refine And.intro trivial ?_ | refine And.intro (of_decide_eq_false rfl) ?_ | refine And.intro (of_decide_eq_true rfl) ?_
  first | refine ⟨zC_vin (k := 0) (N := 12) (by decide) rfl rfl rfl, ?_⟩ | skip
  all_goals (repeat' first | refine And.intro rfl ?_ | refine And.intro (Or.inl rfl) ?_ | refine And.intro (Or.inr rfl) ?_ | refine And.intro (Nat.le_of_ble_eq_true rfl) ?_ | refine And.intro (And.intro rfl rfl) ?_ | exact rfl | refine And.intro trivial ?_ | refine And.intro (of_decide_eq_false rfl) ?_ | refine And.intro (of_decide_eq_true rfl) ?_)
  refine zs_85_41 ?_
  repeat' first | refine And.intro rfl ?_ | refine And.intro (Or.inl rfl) ?_ | refine And.intro (Or.inr rfl) ?_ | refine And.intro (Nat.le_of_ble_eq_true rfl) ?_ | refine And.intro (And.intro rfl rfl) ?_ | exact rfl | refine And.intro trivial ?_ | refine And.intro (of_decide_eq_false rfl) ?_ | refine And.intro (of_decide_eq_true rfl) ?_
  refine And.intro (fun c => absurd (show nI 12 ≤ nI 1 from c) (by decide)) (fun _ => ?_)
  repeat' first | refine And.intro rfl ?_ | refine And.intro (Or.inl rfl) ?_ | refine And.intro (Or.inr rfl) ?_ | refine And.intro (Nat.le_of_ble_eq_true rfl) ?_ | refine And.intro (And.intro rfl rfl) ?_ | exact rfl | refine And.intro trivial ?_ | refine And.intro (of_decide_eq_false rfl) ?_ | refine And.intro (of_decide_eq_true rfl) ?_
  refine Exists.intro _ (Exists.intro _ (And.intro (zC_4 I n1) ?_))
  repeat' first | refine And.intro rfl ?_ | refine And.intro (Or.inl rfl) ?_ | refine And.intro (Or.inr rfl) ?_ | refine And.intro (Nat.le_of_ble_eq_true rfl) ?_ | refine And.intro (And.intro rfl rfl) ?_ | exact rfl | refine And.intro trivial ?_ | refine And.intro (of_decide_eq_false rfl) ?_ | refine And.intro (of_decide_eq_true rfl) ?_
  first | refine ⟨zC_vin (k := 1) (N := 12) (by decide) rfl rfl rfl, ?_⟩ | skip
  all_goals (repeat' first | refine And.intro rfl ?_ | refine And.intro (Or.inl rfl) ?_ | refine And.intro (Or.inr rfl) ?_ | refine And.intro (Nat.le_of_ble_eq_true rfl) ?_ | refine And.intro (And.intro rfl rfl) ?_ | exact rfl | refine And.intro trivial ?_ | refine And.intro (of_decide_eq_false rfl) ?_ | refine And.intro (of_decide_eq_true rfl) ?_)
  refine zs_85_41 ?_
  repeat' first | refine And.intro rfl ?_ | refine And.intro (Or.inl rfl) ?_ | refine And.intro (Or.inr rfl) ?_ | refine And.intro (Nat.le_of_ble_eq_true rfl) ?_ | refine And.intro (And.intro rfl rfl) ?_ | exact rfl | refine And.intro trivial ?_ | refine And.intro (of_decide_eq_false rfl) ?_ | refine And.intro (of_decide_eq_true rfl) ?_
  refine And.intro (fun c => absurd (show nI 12 ≤ nI 2 from c) (by decide)) (fun _ => ?_)
  repeat' first | refine And.intro rfl ?_ | refine And.intro (Or.inl rfl) ?_ | refine And.intro (Or.inr rfl) ?_ | refine And.intro (Nat.le_of_ble_eq_true rfl) ?_ | refine And.intro (And.intro rfl rfl) ?_ | exact rfl | refine And.intro trivial ?_ | refine And.intro (of_decide_eq_false rfl) ?_ | refine And.intro (of_decide_eq_true rfl) ?_
  refine Exists.intro _ (Exists.intro _ (And.intro (zC_5 I n1) ?_))
  repeat' first | refine And.intro rfl ?_ | refine And.intro (Or.inl rfl) ?_ | refine And.intro (Or.inr rfl) ?_ | refine And.intro (Nat.le_of_ble_eq_true rfl) ?_ | refine And.intro (And.intro rfl rfl) ?_ | exact rfl | refine And.intro trivial ?_ | refine And.intro (of_decide_eq_false rfl) ?_ | refine And.intro (of_decide_eq_true rfl) ?_
  first | refine ⟨zC_vin (k := 2) (N := 12) (by decide) rfl rfl rfl, ?_⟩ | skip
  all_goals (repeat' first | refine And.intro rfl ?_ | refine And.intro (Or.inl rfl) ?_ | refine And.intro (Or.inr rfl) ?_ | refine And.intro (Nat.le_of_ble_eq_true rfl) ?_ | refine And.intro (And.intro rfl rfl) ?_ | exact rfl | refine And.intro trivial ?_ | refine And.intro (of_decide_eq_false rfl) ?_ | refine And.intro (of_decide_eq_true rfl) ?_)
  refine zs_85_41 ?_
  repeat' first | refine And.intro rfl ?_ | refine And.intro (Or.inl rfl) ?_ | refine And.intro (Or.inr rfl) ?_ | refine And.intro (Nat.le_of_ble_eq_true rfl) ?_ | refine And.intro (And.intro rfl rfl) ?_ | exact rfl | refine And.intro trivial ?_ | refine And.intro (of_decide_eq_false rfl) ?_ | refine And.intro (of_decide_eq_true rfl) ?_
  refine And.intro (fun c => absurd (show nI 12 ≤ nI 3 from c) (by decide)) (fun _ => ?_)
  repeat' first | refine And.intro rfl ?_ | refine And.intro (Or.inl rfl) ?_ | refine And.intro (Or.inr rfl) ?_ | refine And.intro (Nat.le_of_ble_eq_true rfl) ?_ | refine And.intro (And.intro rfl rfl) ?_ | exact rfl | refine And.intro trivial ?_ | refine And.intro (of_decide_eq_false rfl) ?_ | refine And.intro (of_decide_eq_true rfl) ?_
  refine Exists.intro _ (Exists.intro _ (And.intro (zC_6 I n1) ?_))
  repeat' first | refine And.intro rfl ?_ | refine And.intro (Or.inl rfl) ?_ | refine And.intro (Or.inr rfl) ?_ | refine And.intro (Nat.le_of_ble_eq_true rfl) ?_ | refine And.intro (And.intro rfl rfl) ?_ | exact rfl | refine And.intro trivial ?_ | refine And.intro (of_decide_eq_false rfl) ?_ | refine And.intro (of_decide_eq_true rfl) ?_
  first | refine ⟨zC_vin (k := 3) (N := 12) (by decide) rfl rfl rfl, ?_⟩ | skip
  all_goals (repeat' first | refine And.intro rfl ?_ | refine And.intro (Or.inl rfl) ?_ | refine And.intro (Or.inr rfl) ?_ | refine And.intro (Nat.le_of_ble_eq_true rfl) ?_ | refine And.intro (And.intro rfl rfl) ?_ | exact rfl | refine And.intro trivial ?_ | refine And.intro (of_decide_eq_false rfl) ?_ | refine And.intro (of_decide_eq_true rfl) ?_)
  refine zs_85_41 ?_
  repeat' first | refine And.intro rfl ?_ | refine And.intro (Or.inl rfl) ?_ | refine And.intro (Or.inr rfl) ?_ | refine And.intro (Nat.le_of_ble_eq_true rfl) ?_ | refine And.intro (And.intro rfl rfl) ?_ | exact rfl | refine And.intro trivial ?_ | refine And.intro (of_decide_eq_false rfl) ?_ | refine And.intro (of_decide_eq_true rfl) ?_
  refine And.intro (fun c => absurd (show nI 12 ≤ nI 4 from c) (by decide)) (fun _ => ?_)
  repeat' first | refine And.intro rfl ?_ | refine And.intro (Or.inl rfl) ?_ | refine And.intro (Or.inr rfl) ?_ | refine And.intro (Nat.le_of_ble_eq_true rfl) ?_ | refine And.intro (And.intro rfl rfl) ?_ | exact rfl | refine And.intro trivial ?_ | refine And.intro (of_decide_eq_false rfl) ?_ | refine And.intro (of_decide_eq_true rfl) ?_
  refine Exists.intro _ (Exists.intro _ (And.intro (zC_7 I n1) ?_))
  repeat' first | refine And.intro rfl ?_ | refine And.intro (Or.inl rfl) ?_ | refine And.intro (Or.inr rfl) ?_ | refine And.intro (Nat.le_of_ble_eq_true rfl) ?_ | refine And.intro (And.intro rfl rfl) ?_ | exact rfl | refine And.intro trivial ?_ | refine And.intro (of_decide_eq_false rfl) ?_ | refine And.intro (of_decide_eq_true rfl) ?_
  first | refine ⟨zC_vin (k := 4) (N := 12) (by decide) rfl rfl rfl, ?_⟩ | skip
  all_goals (repeat' first | refine And.intro rfl ?_ | refine And.intro (Or.inl rfl) ?_ | refine And.intro (Or.inr rfl) ?_ | refine And.intro (Nat.le_of_ble_eq_true rfl) ?_ | refine And.intro (And.intro rfl rfl) ?_ | exact rfl | refine And.intro trivial ?_ | refine And.intro (of_decide_eq_false rfl) ?_ | refine And.intro (of_decide_eq_true rfl) ?_)
  refine zs_85_41 ?_
  repeat' first | refine And.intro rfl ?_ | refine And.intro (Or.inl rfl) ?_ | refine And.intro (Or.inr rfl) ?_ | refine And.intro (Nat.le_of_ble_eq_true rfl) ?_ | refine And.intro (And.intro rfl rfl) ?_ | exact rfl | refine And.intro trivial ?_ | refine And.intro (of_decide_eq_false rfl) ?_ | refine And.intro (of_decide_eq_true rfl) ?_
  refine And.intro (fun c => absurd (show nI 12 ≤ nI 5 from c) (by decide)) (fun _ => ?_)
  repeat' first | refine And.intro rfl ?_ | refine And.intro (Or.inl rfl) ?_ | refine And.intro (Or.inr rfl) ?_ | refine And.intro (Nat.le_of_ble_eq_true rfl) ?_ | refine And.intro (And.intro rfl rfl) ?_ | exact rfl | refine And.intro trivial ?_ | refine And.intro (of_decide_eq_false rfl) ?_ | refine And.intro (of_decide_eq_true rfl) ?_
  refine Exists.intro _ (Exists.intro _ (And.intro (zC_8 I n1) ?_))
  repeat' first | refine And.intro rfl ?_ | refine And.intro (Or.inl rfl) ?_ | refine And.intro (Or.inr rfl) ?_ | refine And.intro (Nat.le_of_ble_eq_true rfl) ?_ | refine And.intro (And.intro rfl rfl) ?_ | exact rfl | refine And.intro trivial ?_ | refine And.intro (of_decide_eq_false rfl) ?_ | refine And.intro (of_decide_eq_true rfl) ?_
  first | refine ⟨zC_vin (k := 5) (N := 12) (by decide) rfl rfl rfl, ?_⟩ | skip
  all_goals (repeat' first | refine And.intro rfl ?_ | refine And.intro (Or.inl rfl) ?_ | refine And.intro (Or.inr rfl) ?_ | refine And.intro (Nat.le_of_ble_eq_true rfl) ?_ | refine And.intro (And.intro rfl rfl) ?_ | exact rfl | refine And.intro trivial ?_ | refine And.intro (of_decide_eq_false rfl) ?_ | refine And.intro (of_decide_eq_true rfl) ?_)
  refine zs_85_41 ?_
  repeat' first | refine And.intro rfl ?_ | refine And.intro (Or.inl rfl) ?_ | refine And.intro (Or.inr rfl) ?_ | refine And.intro (Nat.le_of_ble_eq_true rfl) ?_ | refine And.intro (And.intro rfl rfl) ?_ | exact rfl | refine And.intro trivial ?_ | refine And.intro (of_decide_eq_false rfl) ?_ | refine And.intro (of_decide_eq_true rfl) ?_
  refine And.intro (fun c => absurd (show nI 12 ≤ nI 6 from c) (by decide)) (fun _ => ?_)
  repeat' first | refine And.intro rfl ?_ | refine And.intro (Or.inl rfl) ?_ | refine And.intro (Or.inr rfl) ?_ | refine And.intro (Nat.le_of_ble_eq_true rfl) ?_ | refine And.intro (And.intro rfl rfl) ?_ | exact rfl | refine And.intro trivial ?_ | refine And.intro (of_decide_eq_false rfl) ?_ | refine And.intro (of_decide_eq_true rfl) ?_
  refine Exists.intro _ (Exists.intro _ (And.intro (zC_9 I n1) ?_))
  repeat' first | refine And.intro rfl ?_ | refine And.intro (Or.inl rfl) ?_ | refine And.intro (Or.inr rfl) ?_ | refine And.intro (Nat.le_of_ble_eq_true rfl) ?_ | refine And.intro (And.intro rfl rfl) ?_ | exact rfl | refine And.intro trivial ?_ | refine And.intro (of_decide_eq_false rfl) ?_ | refine And.intro (of_decide_eq_true rfl) ?_
  first | refine ⟨zC_vin (k := 6) (N := 12) (by decide) rfl rfl rfl, ?_⟩ | skip
  all_goals (repeat' first | refine And.intro rfl ?_ | refine And.intro (Or.inl rfl) ?_ | refine And.intro (Or.inr rfl) ?_ | refine And.intro (Nat.le_of_ble_eq_true rfl) ?_ | refine And.intro (And.intro rfl rfl) ?_ | exact rfl | refine And.intro trivial ?_ | refine And.intro (of_decide_eq_false rfl) ?_ | refine And.intro (of_decide_eq_true rfl) ?_)
  refine zs_85_41 ?_
  repeat' first | refine And.intro rfl ?_ | refine And.intro (Or.inl rfl) ?_ | refine And.intro (Or.inr rfl) ?_ | refine And.intro (Nat.le_of_ble_eq_true rfl) ?_ | refine And.intro (And.intro rfl rfl) ?_ | exact rfl | refine And.intro trivial ?_ | refine And.intro (of_decide_eq_false rfl) ?_ | refine And.intro (of_decide_eq_true rfl) ?_
  refine And.intro (fun c => absurd (show nI 12 ≤ nI 7 from c) (by decide)) (fun _ => ?_)
  repeat' first | refine And.intro rfl ?_ | refine And.intro (Or.inl rfl) ?_ | refine And.intro (Or.inr rfl) ?_ | refine And.intro (Nat.le_of_ble_eq_true rfl) ?_ | refine And.intro (And.intro rfl rfl) ?_ | exact rfl | refine And.intro trivial ?_ | refine And.intro (of_decide_eq_false rfl) ?_ | refine And.intro (of_decide_eq_true rfl) ?_
  refine Exists.intro _ (Exists.intro _ (And.intro (zC_10 I n1) ?_))
  repeat' first | refine And.intro rfl ?_ | refine And.intro (Or.inl rfl) ?_ | refine And.intro (Or.inr rfl) ?_ | refine And.intro (Nat.le_of_ble_eq_true rfl) ?_ | refine And.intro (And.intro rfl rfl) ?_ | exact rfl | refine And.intro trivial ?_ | refine And.intro (of_decide_eq_false rfl) ?_ | refine And.intro (of_decide_eq_true rfl) ?_
  first | refine ⟨zC_vin (k := 7) (N := 12) (by decide) rfl rfl rfl, ?_⟩ | skip
  all_goals (repeat' first | refine And.intro rfl ?_ | refine And.intro (Or.inl rfl) ?_ | refine And.intro (Or.inr rfl) ?_ | refine And.intro (Nat.le_of_ble_eq_true rfl) ?_ | refine And.intro (And.intro rfl rfl) ?_ | exact rfl | refine And.intro trivial ?_ | refine And.intro (of_decide_eq_false rfl) ?_ | refine And.intro (of_decide_eq_true rfl) ?_)
  refine zs_85_41 ?_
  repeat' first | refine And.intro rfl ?_ | refine And.intro (Or.inl rfl) ?_ | refine And.intro (Or.inr rfl) ?_ | refine And.intro (Nat.le_of_ble_eq_true rfl) ?_ | refine And.intro (And.intro rfl rfl) ?_ | exact rfl | refine And.intro trivial ?_ | refine And.intro (of_decide_eq_false rfl) ?_ | refine And.intro (of_decide_eq_true rfl) ?_
  refine And.intro (fun c => absurd (show nI 12 ≤ nI 8 from c) (by decide)) (fun _ => ?_)
  repeat' first | refine And.intro rfl ?_ | refine And.intro (Or.inl rfl) ?_ | refine And.intro (Or.inr rfl) ?_ | refine And.intro (Nat.le_of_ble_eq_true rfl) ?_ | refine And.intro (And.intro rfl rfl) ?_ | exact rfl | refine And.intro trivial ?_ | refine And.intro (of_decide_eq_false rfl) ?_ | refine And.intro (of_decide_eq_true rfl) ?_
  refine Exists.intro _ (Exists.intro _ (And.intro (zC_11 I n1) ?_))
  repeat' first | refine And.intro rfl ?_ | refine And.intro (Or.inl rfl) ?_ | refine And.intro (Or.inr rfl) ?_ | refine And.intro (Nat.le_of_ble_eq_true rfl) ?_ | refine And.intro (And.intro rfl rfl) ?_ | exact rfl | refine And.intro trivial ?_ | refine And.intro (of_decide_eq_false rfl) ?_ | refine And.intro (of_decide_eq_true rfl) ?_
  first | refine ⟨zC_vin (k := 8) (N := 12) (by decide) rfl rfl rfl, ?_⟩ | skip
  all_goals (repeat' first | refine And.intro rfl ?_ | refine And.intro (Or.inl rfl) ?_ | refine And.intro (Or.inr rfl) ?_ | refine And.intro (Nat.le_of_ble_eq_true rfl) ?_ | refine And.intro (And.intro rfl rfl) ?_ | exact rfl | refine And.intro trivial ?_ | refine And.intro (of_decide_eq_false rfl) ?_ | refine And.intro (of_decide_eq_true rfl) ?_)
  refine zs_85_41 ?_
  repeat' first | refine And.intro rfl ?_ | refine And.intro (Or.inl rfl) ?_ | refine And.intro (Or.inr rfl) ?_ | refine And.intro (Nat.le_of_ble_eq_true rfl) ?_ | refine And.intro (And.intro rfl rfl) ?_ | exact rfl | refine And.intro trivial ?_ | refine And.intro (of_decide_eq_false rfl) ?_ | refine And.intro (of_decide_eq_true rfl) ?_
  refine And.intro (fun c => absurd (show nI 12 ≤ nI 9 from c) (by decide)) (fun _ => ?_)
  repeat' first | refine And.intro rfl ?_ | refine And.intro (Or.inl rfl) ?_ | refine And.intro (Or.inr rfl) ?_ | refine And.intro (Nat.le_of_ble_eq_true rfl) ?_ | refine And.intro (And.intro rfl rfl) ?_ | exact rfl | refine And.intro trivial ?_ | refine And.intro (of_decide_eq_false rfl) ?_ | refine And.intro (of_decide_eq_true rfl) ?_
  refine Exists.intro _ (Exists.intro _ (And.intro (zC_12 I n1) ?_))
  repeat' first | refine And.intro rfl ?_ | refine And.intro (Or.inl rfl) ?_ | refine And.intro (Or.inr rfl) ?_ | refine And.intro (Nat.le_of_ble_eq_true rfl) ?_ | refine And.intro (And.intro rfl rfl) ?_ | exact rfl | refine And.intro trivial ?_ | refine And.intro (of_decide_eq_false rfl) ?_ | refine And.intro (of_decide_eq_true rfl) ?_
  first | refine ⟨zC_vin (k := 9) (N := 12) (by decide) rfl rfl rfl, ?_⟩ | skip
  all_goals (repeat' first | refine And.intro rfl ?_ | refine And.intro (Or.inl rfl) ?_ | refine And.intro (Or.inr rfl) ?_ | refine And.intro (Nat.le_of_ble_eq_true rfl) ?_ | refine And.intro (And.intro rfl rfl) ?_ | exact rfl | refine And.intro trivial ?_ | refine And.intro (of_decide_eq_false rfl) ?_ | refine And.intro (of_decide_eq_true rfl) ?_)
  refine zs_85_41 ?_
  repeat' first | refine And.intro rfl ?_ | refine And.intro (Or.inl rfl) ?_ | refine And.intro (Or.inr rfl) ?_ | refine And.intro (Nat.le_of_ble_eq_true rfl) ?_ | refine And.intro (And.intro rfl rfl) ?_ | exact rfl | refine And.intro trivial ?_ | refine And.intro (of_decide_eq_false rfl) ?_ | refine And.intro (of_decide_eq_true rfl) ?_
  refine And.intro (fun c => absurd (show nI 12 ≤ nI 10 from c) (by decide)) (fun _ => ?_)
  repeat' first | refine And.intro rfl ?_ | refine And.intro (Or.inl rfl) ?_ | refine And.intro (Or.inr rfl) ?_ | refine And.intro (Nat.le_of_ble_eq_true rfl) ?_ | refine And.intro (And.intro rfl rfl) ?_ | exact rfl | refine And.intro trivial ?_ | refine And.intro (of_decide_eq_false rfl) ?_ | refine And.intro (of_decide_eq_true rfl) ?_
  refine Exists.intro _ (Exists.intro _ (And.intro (zC_13 I n1) ?_))
  repeat' first | refine And.intro rfl ?_ | refine And.intro (Or.inl rfl) ?_ | refine And.intro (Or.inr rfl) ?_ | refine And.intro (Nat.le_of_ble_eq_true rfl) ?_ | refine And.intro (And.intro rfl rfl) ?_ | exact rfl | refine And.intro trivial ?_ | refine And.intro (of_decide_eq_false rfl) ?_ | refine And.intro (of_decide_eq_true rfl) ?_
  first | refine ⟨zC_vin (k := 10) (N := 12) (by decide) rfl rfl rfl, ?_⟩ | skip
  all_goals (repeat' first | refine And.intro rfl ?_ | refine And.intro (Or.inl rfl) ?_ | refine And.intro (Or.inr rfl) ?_ | refine And.intro (Nat.le_of_ble_eq_true rfl) ?_ | refine And.intro (And.intro rfl rfl) ?_ | exact rfl | refine And.intro trivial ?_ | refine And.intro (of_decide_eq_false rfl) ?_ | refine And.intro (of_decide_eq_true rfl) ?_)
  refine zs_85_41 ?_
  repeat' first | refine And.intro rfl ?_ | refine And.intro (Or.inl rfl) ?_ | refine And.intro (Or.inr rfl) ?_ | refine And.intro (Nat.le_of_ble_eq_true rfl) ?_ | refine And.intro (And.intro rfl rfl) ?_ | exact rfl | refine And.intro trivial ?_ | refine And.intro (of_decide_eq_false rfl) ?_ | refine And.intro (of_decide_eq_true rfl) ?_
  refine And.intro (fun c => absurd (show nI 12 ≤ nI 11 from c) (by decide)) (fun _ => ?_)
  repeat' first | refine And.intro rfl ?_ | refine And.intro (Or.inl rfl) ?_ | refine And.intro (Or.inr rfl) ?_ | refine And.intro (Nat.le_of_ble_eq_true rfl) ?_ | refine And.intro (And.intro rfl rfl) ?_ | exact rfl | refine And.intro trivial ?_ | refine And.intro (of_decide_eq_false rfl) ?_ | refine And.intro (of_decide_eq_true rfl) ?_
  refine Exists.intro _ (Exists.intro _ (And.intro (zC_14 I n1) ?_))
  repeat' first | refine And.intro rfl ?_ | refine And.intro (Or.inl rfl) ?_ | refine And.intro (Or.inr rfl) ?_ | refine And.intro (Nat.le_of_ble_eq_true rfl) ?_ | refine And.intro (And.intro rfl rfl) ?_ | exact rfl | refine And.intro trivial ?_ | refine And.intro (of_decide_eq_false rfl) ?_ | refine And.intro (of_decide_eq_true rfl) ?_
  first | refine ⟨zC_vin (k := 11) (N := 12) (by decide) rfl rfl rfl, ?_⟩ | skip
  all_goals (repeat' first | refine And.intro rfl ?_ | refine And.intro (Or.inl rfl) ?_ | refine And.intro (Or.inr rfl) ?_ | refine And.intro (Nat.le_of_ble_eq_true rfl) ?_ | refine And.intro (And.intro rfl rfl) ?_ | exact rfl | refine And.intro trivial ?_ | refine And.intro (of_decide_eq_false rfl) ?_ | refine And.intro (of_decide_eq_true rfl) ?_)
  refine zs_85_41 ?_
  repeat' first | refine And.intro rfl ?_ | refine And.intro (Or.inl rfl) ?_ | refine And.intro (Or.inr rfl) ?_ | refine And.intro (Nat.le_of_ble_eq_true rfl) ?_ | refine And.intro (And.intro rfl rfl) ?_ | exact rfl | refine And.intro trivial ?_ | refine And.intro (of_decide_eq_false rfl) ?_ | refine And.intro (of_decide_eq_true rfl) ?_
  refine And.intro (fun _ => ?_) (fun c => absurd (show nI 12 ≤ nI 12 by decide) c)
  refine zs_85_66 ?_
  repeat' first | refine And.intro rfl ?_ | refine And.intro (Or.inl rfl) ?_ | refine And.intro (Or.inr rfl) ?_ | refine And.intro (Nat.le_of_ble_eq_true rfl) ?_ | refine And.intro (And.intro rfl rfl) ?_ | exact rfl | refine And.intro trivial ?_ | refine And.intro (of_decide_eq_false rfl) ?_ | refine And.intro (of_decide_eq_true rfl) ?_
  refine zs_85_68 ?_
  repeat' first | refine And.intro rfl ?_ | refine And.intro (Or.inl rfl) ?_ | refine And.intro (Or.inr rfl) ?_ | refine And.intro (Nat.le_of_ble_eq_true rfl) ?_ | refine And.intro (And.intro rfl rfl) ?_ | exact rfl | refine And.intro trivial ?_ | refine And.intro (of_decide_eq_false rfl) ?_ | refine And.intro (of_decide_eq_true rfl) ?_
  refine And.intro (fun c => absurd (show nI 2 ≤ nI 0 from c) (by decide)) (fun _ => ?_)
  repeat' first | refine And.intro rfl ?_ | refine And.intro (Or.inl rfl) ?_ | refine And.intro (Or.inr rfl) ?_ | refine And.intro (Nat.le_of_ble_eq_true rfl) ?_ | refine And.intro (And.intro rfl rfl) ?_ | exact rfl | refine And.intro trivial ?_ | refine And.intro (of_decide_eq_false rfl) ?_ | refine And.intro (of_decide_eq_true rfl) ?_
  refine Exists.intro _ (Exists.intro _ (And.intro (zC_15 I n1) ?_))
  repeat' first | refine And.intro rfl ?_ | refine And.intro (Or.inl rfl) ?_ | refine And.intro (Or.inr rfl) ?_ | refine And.intro (Nat.le_of_ble_eq_true rfl) ?_ | refine And.intro (And.intro rfl rfl) ?_ | exact rfl | refine And.intro trivial ?_ | refine And.intro (of_decide_eq_false rfl) ?_ | refine And.intro (of_decide_eq_true rfl) ?_
  first | refine ⟨zC_vin (k := 0) (N := 2) (by decide) rfl rfl rfl, ?_⟩ | skip
  all_goals (repeat' first | refine And.intro rfl ?_ | refine And.intro (Or.inl rfl) ?_ | refine And.intro (Or.inr rfl) ?_ | refine And.intro (Nat.le_of_ble_eq_true rfl) ?_ | refine And.intro (And.intro rfl rfl) ?_ | exact rfl | refine And.intro trivial ?_ | refine And.intro (of_decide_eq_false rfl) ?_ | refine And.intro (of_decide_eq_true rfl) ?_)
  refine zs_85_68 ?_
  repeat' first | refine And.intro rfl ?_ | refine And.intro (Or.inl rfl) ?_ | refine And.intro (Or.inr rfl) ?_ | refine And.intro (Nat.le_of_ble_eq_true rfl) ?_ | refine And.intro (And.intro rfl rfl) ?_ | exact rfl | refine And.intro trivial ?_ | refine And.intro (of_decide_eq_false rfl) ?_ | refine And.intro (of_decide_eq_true rfl) ?_
  refine And.intro (fun c => absurd (show nI 2 ≤ nI 1 from c) (by decide)) (fun _ => ?_)
  repeat' first | refine And.intro rfl ?_ | refine And.intro (Or.inl rfl) ?_ | refine And.intro (Or.inr rfl) ?_ | refine And.intro (Nat.le_of_ble_eq_true rfl) ?_ | refine And.intro (And.intro rfl rfl) ?_ | exact rfl | refine And.intro trivial ?_ | refine And.intro (of_decide_eq_false rfl) ?_ | refine And.intro (of_decide_eq_true rfl) ?_
  refine Exists.intro _ (Exists.intro _ (And.intro (zC_16 I n1) ?_))
  repeat' first | refine And.intro rfl ?_ | refine And.intro (Or.inl rfl) ?_ | refine And.intro (Or.inr rfl) ?_ | refine And.intro (Nat.le_of_ble_eq_true rfl) ?_ | refine And.intro (And.intro rfl rfl) ?_ | exact rfl | refine And.intro trivial ?_ | refine And.intro (of_decide_eq_false rfl) ?_ | refine And.intro (of_decide_eq_true rfl) ?_
  first | refine ⟨zC_vin (k := 1) (N := 2) (by decide) rfl rfl rfl, ?_⟩ | skip
  all_goals (repeat' first | refine And.intro rfl ?_ | refine And.intro (Or.inl rfl) ?_ | refine And.intro (Or.inr rfl) ?_ | refine And.intro (Nat.le_of_ble_eq_true rfl) ?_ | refine And.intro (And.intro rfl rfl) ?_ | exact rfl | refine And.intro trivial ?_ | refine And.intro (of_decide_eq_false rfl) ?_ | refine And.intro (of_decide_eq_true rfl) ?_)
  refine zs_85_68 ?_
  repeat' first | refine And.intro rfl ?_ | refine And.intro (Or.inl rfl) ?_ | refine And.intro (Or.inr rfl) ?_ | refine And.intro (Nat.le_of_ble_eq_true rfl) ?_ | refine And.intro (And.intro rfl rfl) ?_ | exact rfl | refine And.intro trivial ?_ | refine And.intro (of_decide_eq_false rfl) ?_ | refine And.intro (of_decide_eq_true rfl) ?_
  refine And.intro (fun _ => ?_) (fun c => absurd (show nI 2 ≤ nI 2 by decide) c)
  refine zs_85_92 ?_
  repeat' first | refine And.intro rfl ?_ | refine And.intro (Or.inl rfl) ?_ | refine And.intro (Or.inr rfl) ?_ | refine And.intro (Nat.le_of_ble_eq_true rfl) ?_ | refine And.intro (And.intro rfl rfl) ?_ | exact rfl | refine And.intro trivial ?_ | refine And.intro (of_decide_eq_false rfl) ?_ | refine And.intro (of_decide_eq_true rfl) ?_
set_option maxHeartbeats 4000000 in
theorem zC_18 (I : Nat → Nat → Int32) (n1 : Nat) : zz_run 296 310 0 [some (.int (nI 7)), some (.int (nI 40))] [] (zT_74 I n1) (some (.int (nI 7))) (zT_74 I n1) := by
  refine zs_310_0 ?_
  repeat' first | refine And.intro rfl ?_ | refine And.intro (Or.inl rfl) ?_ | refine And.intro (Or.inr rfl) ?_ | refine And.intro (Nat.le_of_ble_eq_true rfl) ?_ | refine And.intro (And.intro rfl rfl) ?_ | exact rfl | refine And.intro trivial ?_ | refine And.intro (of_decide_eq_false rfl) ?_ | refine And.intro (of_decide_eq_true rfl) ?_
  refine And.intro (fun c => absurd (show nI 40 < nI 7 from c) (by decide)) (fun _ => ?_)
  repeat' first | refine And.intro rfl ?_ | refine And.intro (Or.inl rfl) ?_ | refine And.intro (Or.inr rfl) ?_ | refine And.intro (Nat.le_of_ble_eq_true rfl) ?_ | refine And.intro (And.intro rfl rfl) ?_ | exact rfl | refine And.intro trivial ?_ | refine And.intro (of_decide_eq_false rfl) ?_ | refine And.intro (of_decide_eq_true rfl) ?_
  refine zs_310_10 ?_
  repeat' first | refine And.intro rfl ?_ | refine And.intro (Or.inl rfl) ?_ | refine And.intro (Or.inr rfl) ?_ | refine And.intro (Nat.le_of_ble_eq_true rfl) ?_ | refine And.intro (And.intro rfl rfl) ?_ | exact rfl | refine And.intro trivial ?_ | refine And.intro (of_decide_eq_false rfl) ?_ | refine And.intro (of_decide_eq_true rfl) ?_
set_option maxHeartbeats 4000000 in
theorem zC_19 (I : Nat → Nat → Int32) (n1 : Nat) : zz_run 296 310 0 [some (.int (nI 7)), some (.int (nI 7))] [] (zT_74 I n1) (some (.int (nI 7))) (zT_74 I n1) := by
  refine zs_310_0 ?_
  repeat' first | refine And.intro rfl ?_ | refine And.intro (Or.inl rfl) ?_ | refine And.intro (Or.inr rfl) ?_ | refine And.intro (Nat.le_of_ble_eq_true rfl) ?_ | refine And.intro (And.intro rfl rfl) ?_ | exact rfl | refine And.intro trivial ?_ | refine And.intro (of_decide_eq_false rfl) ?_ | refine And.intro (of_decide_eq_true rfl) ?_
  refine And.intro (fun c => absurd (show nI 7 < nI 7 from c) (by decide)) (fun _ => ?_)
  repeat' first | refine And.intro rfl ?_ | refine And.intro (Or.inl rfl) ?_ | refine And.intro (Or.inr rfl) ?_ | refine And.intro (Nat.le_of_ble_eq_true rfl) ?_ | refine And.intro (And.intro rfl rfl) ?_ | exact rfl | refine And.intro trivial ?_ | refine And.intro (of_decide_eq_false rfl) ?_ | refine And.intro (of_decide_eq_true rfl) ?_
  refine zs_310_10 ?_
  repeat' first | refine And.intro rfl ?_ | refine And.intro (Or.inl rfl) ?_ | refine And.intro (Or.inr rfl) ?_ | refine And.intro (Nat.le_of_ble_eq_true rfl) ?_ | refine And.intro (And.intro rfl rfl) ?_ | exact rfl | refine And.intro trivial ?_ | refine And.intro (of_decide_eq_false rfl) ?_ | refine And.intro (of_decide_eq_true rfl) ?_
set_option maxHeartbeats 4000000 in
theorem zC_20 (I : Nat → Nat → Int32) (n1 : Nat) : zz_run 297 7 0 [some (.ref 28), some (.ref 0), some (.int (nI 7)), none] [] (zT_74 I n1) none (zT_83 I n1) := by
  refine zs_7_0 ?_
  repeat' first | refine And.intro rfl ?_ | refine And.intro (Or.inl rfl) ?_ | refine And.intro (Or.inr rfl) ?_ | refine And.intro (Nat.le_of_ble_eq_true rfl) ?_ | refine And.intro (And.intro rfl rfl) ?_ | exact rfl | refine And.intro trivial ?_ | refine And.intro (of_decide_eq_false rfl) ?_ | refine And.intro (of_decide_eq_true rfl) ?_
  refine Exists.intro _ (Exists.intro _ (And.intro (zC_18 I n1) ?_))
  repeat' first | refine And.intro rfl ?_ | refine And.intro (Or.inl rfl) ?_ | refine And.intro (Or.inr rfl) ?_ | refine And.intro (Nat.le_of_ble_eq_true rfl) ?_ | refine And.intro (And.intro rfl rfl) ?_ | exact rfl | refine And.intro trivial ?_ | refine And.intro (of_decide_eq_false rfl) ?_ | refine And.intro (of_decide_eq_true rfl) ?_
  refine Exists.intro _ (Exists.intro _ (And.intro (zC_19 I n1) ?_))
  repeat' first | refine And.intro rfl ?_ | refine And.intro (Or.inl rfl) ?_ | refine And.intro (Or.inr rfl) ?_ | refine And.intro (Nat.le_of_ble_eq_true rfl) ?_ | refine And.intro (And.intro rfl rfl) ?_ | exact rfl | refine And.intro trivial ?_ | refine And.intro (of_decide_eq_false rfl) ?_ | refine And.intro (of_decide_eq_true rfl) ?_
  refine zs_7_20 ?_
  repeat' first | refine And.intro rfl ?_ | refine And.intro (Or.inl rfl) ?_ | refine And.intro (Or.inr rfl) ?_ | refine And.intro (Nat.le_of_ble_eq_true rfl) ?_ | refine And.intro (And.intro rfl rfl) ?_ | exact rfl | refine And.intro trivial ?_ | refine And.intro (of_decide_eq_false rfl) ?_ | refine And.intro (of_decide_eq_true rfl) ?_
  refine And.intro (fun c => absurd (show nI 7 ≤ nI 0 from c) (by decide)) (fun _ => ?_)
  repeat' first | refine And.intro rfl ?_ | refine And.intro (Or.inl rfl) ?_ | refine And.intro (Or.inr rfl) ?_ | refine And.intro (Nat.le_of_ble_eq_true rfl) ?_ | refine And.intro (And.intro rfl rfl) ?_ | exact rfl | refine And.intro trivial ?_ | refine And.intro (of_decide_eq_false rfl) ?_ | refine And.intro (of_decide_eq_true rfl) ?_
  first | refine ⟨zC_vin (k := 0) (N := 7) (by decide) rfl rfl rfl, ?_⟩ | skip
  all_goals (repeat' first | refine And.intro rfl ?_ | refine And.intro (Or.inl rfl) ?_ | refine And.intro (Or.inr rfl) ?_ | refine And.intro (Nat.le_of_ble_eq_true rfl) ?_ | refine And.intro (And.intro rfl rfl) ?_ | exact rfl | refine And.intro trivial ?_ | refine And.intro (of_decide_eq_false rfl) ?_ | refine And.intro (of_decide_eq_true rfl) ?_)
  first | refine ⟨zC_vin (k := 0) (N := 40) (by decide) rfl rfl rfl, ?_⟩ | skip
  all_goals (repeat' first | refine And.intro rfl ?_ | refine And.intro (Or.inl rfl) ?_ | refine And.intro (Or.inr rfl) ?_ | refine And.intro (Nat.le_of_ble_eq_true rfl) ?_ | refine And.intro (And.intro rfl rfl) ?_ | exact rfl | refine And.intro trivial ?_ | refine And.intro (of_decide_eq_false rfl) ?_ | refine And.intro (of_decide_eq_true rfl) ?_)
  refine zs_7_20 ?_
  repeat' first | refine And.intro rfl ?_ | refine And.intro (Or.inl rfl) ?_ | refine And.intro (Or.inr rfl) ?_ | refine And.intro (Nat.le_of_ble_eq_true rfl) ?_ | refine And.intro (And.intro rfl rfl) ?_ | exact rfl | refine And.intro trivial ?_ | refine And.intro (of_decide_eq_false rfl) ?_ | refine And.intro (of_decide_eq_true rfl) ?_
  refine And.intro (fun c => absurd (show nI 7 ≤ nI 1 from c) (by decide)) (fun _ => ?_)
  repeat' first | refine And.intro rfl ?_ | refine And.intro (Or.inl rfl) ?_ | refine And.intro (Or.inr rfl) ?_ | refine And.intro (Nat.le_of_ble_eq_true rfl) ?_ | refine And.intro (And.intro rfl rfl) ?_ | exact rfl | refine And.intro trivial ?_ | refine And.intro (of_decide_eq_false rfl) ?_ | refine And.intro (of_decide_eq_true rfl) ?_
  first | refine ⟨zC_vin (k := 1) (N := 7) (by decide) rfl rfl rfl, ?_⟩ | skip
  all_goals (repeat' first | refine And.intro rfl ?_ | refine And.intro (Or.inl rfl) ?_ | refine And.intro (Or.inr rfl) ?_ | refine And.intro (Nat.le_of_ble_eq_true rfl) ?_ | refine And.intro (And.intro rfl rfl) ?_ | exact rfl | refine And.intro trivial ?_ | refine And.intro (of_decide_eq_false rfl) ?_ | refine And.intro (of_decide_eq_true rfl) ?_)
  first | refine ⟨zC_vin (k := 1) (N := 40) (by decide) rfl rfl rfl, ?_⟩ | skip
  all_goals (repeat' first | refine And.intro rfl ?_ | refine And.intro (Or.inl rfl) ?_ | refine And.intro (Or.inr rfl) ?_ | refine And.intro (Nat.le_of_ble_eq_true rfl) ?_ | refine And.intro (And.intro rfl rfl) ?_ | exact rfl | refine And.intro trivial ?_ | refine And.intro (of_decide_eq_false rfl) ?_ | refine And.intro (of_decide_eq_true rfl) ?_)
  refine zs_7_20 ?_
  repeat' first | refine And.intro rfl ?_ | refine And.intro (Or.inl rfl) ?_ | refine And.intro (Or.inr rfl) ?_ | refine And.intro (Nat.le_of_ble_eq_true rfl) ?_ | refine And.intro (And.intro rfl rfl) ?_ | exact rfl | refine And.intro trivial ?_ | refine And.intro (of_decide_eq_false rfl) ?_ | refine And.intro (of_decide_eq_true rfl) ?_
  refine And.intro (fun c => absurd (show nI 7 ≤ nI 2 from c) (by decide)) (fun _ => ?_)
  repeat' first | refine And.intro rfl ?_ | refine And.intro (Or.inl rfl) ?_ | refine And.intro (Or.inr rfl) ?_ | refine And.intro (Nat.le_of_ble_eq_true rfl) ?_ | refine And.intro (And.intro rfl rfl) ?_ | exact rfl | refine And.intro trivial ?_ | refine And.intro (of_decide_eq_false rfl) ?_ | refine And.intro (of_decide_eq_true rfl) ?_
  first | refine ⟨zC_vin (k := 2) (N := 7) (by decide) rfl rfl rfl, ?_⟩ | skip
  all_goals (repeat' first | refine And.intro rfl ?_ | refine And.intro (Or.inl rfl) ?_ | refine And.intro (Or.inr rfl) ?_ | refine And.intro (Nat.le_of_ble_eq_true rfl) ?_ | refine And.intro (And.intro rfl rfl) ?_ | exact rfl | refine And.intro trivial ?_ | refine And.intro (of_decide_eq_false rfl) ?_ | refine And.intro (of_decide_eq_true rfl) ?_)
  first | refine ⟨zC_vin (k := 2) (N := 40) (by decide) rfl rfl rfl, ?_⟩ | skip
  all_goals (repeat' first | refine And.intro rfl ?_ | refine And.intro (Or.inl rfl) ?_ | refine And.intro (Or.inr rfl) ?_ | refine And.intro (Nat.le_of_ble_eq_true rfl) ?_ | refine And.intro (And.intro rfl rfl) ?_ | exact rfl | refine And.intro trivial ?_ | refine And.intro (of_decide_eq_false rfl) ?_ | refine And.intro (of_decide_eq_true rfl) ?_)
  refine zs_7_20 ?_
  repeat' first | refine And.intro rfl ?_ | refine And.intro (Or.inl rfl) ?_ | refine And.intro (Or.inr rfl) ?_ | refine And.intro (Nat.le_of_ble_eq_true rfl) ?_ | refine And.intro (And.intro rfl rfl) ?_ | exact rfl | refine And.intro trivial ?_ | refine And.intro (of_decide_eq_false rfl) ?_ | refine And.intro (of_decide_eq_true rfl) ?_
  refine And.intro (fun c => absurd (show nI 7 ≤ nI 3 from c) (by decide)) (fun _ => ?_)
  repeat' first | refine And.intro rfl ?_ | refine And.intro (Or.inl rfl) ?_ | refine And.intro (Or.inr rfl) ?_ | refine And.intro (Nat.le_of_ble_eq_true rfl) ?_ | refine And.intro (And.intro rfl rfl) ?_ | exact rfl | refine And.intro trivial ?_ | refine And.intro (of_decide_eq_false rfl) ?_ | refine And.intro (of_decide_eq_true rfl) ?_
  first | refine ⟨zC_vin (k := 3) (N := 7) (by decide) rfl rfl rfl, ?_⟩ | skip
  all_goals (repeat' first | refine And.intro rfl ?_ | refine And.intro (Or.inl rfl) ?_ | refine And.intro (Or.inr rfl) ?_ | refine And.intro (Nat.le_of_ble_eq_true rfl) ?_ | refine And.intro (And.intro rfl rfl) ?_ | exact rfl | refine And.intro trivial ?_ | refine And.intro (of_decide_eq_false rfl) ?_ | refine And.intro (of_decide_eq_true rfl) ?_)
  first | refine ⟨zC_vin (k := 3) (N := 40) (by decide) rfl rfl rfl, ?_⟩ | skip
  all_goals (repeat' first | refine And.intro rfl ?_ | refine And.intro (Or.inl rfl) ?_ | refine And.intro (Or.inr rfl) ?_ | refine And.intro (Nat.le_of_ble_eq_true rfl) ?_ | refine And.intro (And.intro rfl rfl) ?_ | exact rfl | refine And.intro trivial ?_ | refine And.intro (of_decide_eq_false rfl) ?_ | refine And.intro (of_decide_eq_true rfl) ?_)
  refine zs_7_20 ?_
  repeat' first | refine And.intro rfl ?_ | refine And.intro (Or.inl rfl) ?_ | refine And.intro (Or.inr rfl) ?_ | refine And.intro (Nat.le_of_ble_eq_true rfl) ?_ | refine And.intro (And.intro rfl rfl) ?_ | exact rfl | refine And.intro trivial ?_ | refine And.intro (of_decide_eq_false rfl) ?_ | refine And.intro (of_decide_eq_true rfl) ?_
  refine And.intro (fun c => absurd (show nI 7 ≤ nI 4 from c) (by decide)) (fun _ => ?_)
  repeat' first | refine And.intro rfl ?_ | refine And.intro (Or.inl rfl) ?_ | refine And.intro (Or.inr rfl) ?_ | refine And.intro (Nat.le_of_ble_eq_true rfl) ?_ | refine And.intro (And.intro rfl rfl) ?_ | exact rfl | refine And.intro trivial ?_ | refine And.intro (of_decide_eq_false rfl) ?_ | refine And.intro (of_decide_eq_true rfl) ?_
  first | refine ⟨zC_vin (k := 4) (N := 7) (by decide) rfl rfl rfl, ?_⟩ | skip
  all_goals (repeat' first | refine And.intro rfl ?_ | refine And.intro (Or.inl rfl) ?_ | refine And.intro (Or.inr rfl) ?_ | refine And.intro (Nat.le_of_ble_eq_true rfl) ?_ | refine And.intro (And.intro rfl rfl) ?_ | exact rfl | refine And.intro trivial ?_ | refine And.intro (of_decide_eq_false rfl) ?_ | refine And.intro (of_decide_eq_true rfl) ?_)
  first | refine ⟨zC_vin (k := 4) (N := 40) (by decide) rfl rfl rfl, ?_⟩ | skip
  all_goals (repeat' first | refine And.intro rfl ?_ | refine And.intro (Or.inl rfl) ?_ | refine And.intro (Or.inr rfl) ?_ | refine And.intro (Nat.le_of_ble_eq_true rfl) ?_ | refine And.intro (And.intro rfl rfl) ?_ | exact rfl | refine And.intro trivial ?_ | refine And.intro (of_decide_eq_false rfl) ?_ | refine And.intro (of_decide_eq_true rfl) ?_)
  refine zs_7_20 ?_
  repeat' first | refine And.intro rfl ?_ | refine And.intro (Or.inl rfl) ?_ | refine And.intro (Or.inr rfl) ?_ | refine And.intro (Nat.le_of_ble_eq_true rfl) ?_ | refine And.intro (And.intro rfl rfl) ?_ | exact rfl | refine And.intro trivial ?_ | refine And.intro (of_decide_eq_false rfl) ?_ | refine And.intro (of_decide_eq_true rfl) ?_
  refine And.intro (fun c => absurd (show nI 7 ≤ nI 5 from c) (by decide)) (fun _ => ?_)
  repeat' first | refine And.intro rfl ?_ | refine And.intro (Or.inl rfl) ?_ | refine And.intro (Or.inr rfl) ?_ | refine And.intro (Nat.le_of_ble_eq_true rfl) ?_ | refine And.intro (And.intro rfl rfl) ?_ | exact rfl | refine And.intro trivial ?_ | refine And.intro (of_decide_eq_false rfl) ?_ | refine And.intro (of_decide_eq_true rfl) ?_
  first | refine ⟨zC_vin (k := 5) (N := 7) (by decide) rfl rfl rfl, ?_⟩ | skip
  all_goals (repeat' first | refine And.intro rfl ?_ | refine And.intro (Or.inl rfl) ?_ | refine And.intro (Or.inr rfl) ?_ | refine And.intro (Nat.le_of_ble_eq_true rfl) ?_ | refine And.intro (And.intro rfl rfl) ?_ | exact rfl | refine And.intro trivial ?_ | refine And.intro (of_decide_eq_false rfl) ?_ | refine And.intro (of_decide_eq_true rfl) ?_)
  first | refine ⟨zC_vin (k := 5) (N := 40) (by decide) rfl rfl rfl, ?_⟩ | skip
  all_goals (repeat' first | refine And.intro rfl ?_ | refine And.intro (Or.inl rfl) ?_ | refine And.intro (Or.inr rfl) ?_ | refine And.intro (Nat.le_of_ble_eq_true rfl) ?_ | refine And.intro (And.intro rfl rfl) ?_ | exact rfl | refine And.intro trivial ?_ | refine And.intro (of_decide_eq_false rfl) ?_ | refine And.intro (of_decide_eq_true rfl) ?_)
  refine zs_7_20 ?_
  repeat' first | refine And.intro rfl ?_ | refine And.intro (Or.inl rfl) ?_ | refine And.intro (Or.inr rfl) ?_ | refine And.intro (Nat.le_of_ble_eq_true rfl) ?_ | refine And.intro (And.intro rfl rfl) ?_ | exact rfl | refine And.intro trivial ?_ | refine And.intro (of_decide_eq_false rfl) ?_ | refine And.intro (of_decide_eq_true rfl) ?_
  refine And.intro (fun c => absurd (show nI 7 ≤ nI 6 from c) (by decide)) (fun _ => ?_)
  repeat' first | refine And.intro rfl ?_ | refine And.intro (Or.inl rfl) ?_ | refine And.intro (Or.inr rfl) ?_ | refine And.intro (Nat.le_of_ble_eq_true rfl) ?_ | refine And.intro (And.intro rfl rfl) ?_ | exact rfl | refine And.intro trivial ?_ | refine And.intro (of_decide_eq_false rfl) ?_ | refine And.intro (of_decide_eq_true rfl) ?_
  first | refine ⟨zC_vin (k := 6) (N := 7) (by decide) rfl rfl rfl, ?_⟩ | skip
  all_goals (repeat' first | refine And.intro rfl ?_ | refine And.intro (Or.inl rfl) ?_ | refine And.intro (Or.inr rfl) ?_ | refine And.intro (Nat.le_of_ble_eq_true rfl) ?_ | refine And.intro (And.intro rfl rfl) ?_ | exact rfl | refine And.intro trivial ?_ | refine And.intro (of_decide_eq_false rfl) ?_ | refine And.intro (of_decide_eq_true rfl) ?_)
  first | refine ⟨zC_vin (k := 6) (N := 40) (by decide) rfl rfl rfl, ?_⟩ | skip
  all_goals (repeat' first | refine And.intro rfl ?_ | refine And.intro (Or.inl rfl) ?_ | refine And.intro (Or.inr rfl) ?_ | refine And.intro (Nat.le_of_ble_eq_true rfl) ?_ | refine And.intro (And.intro rfl rfl) ?_ | exact rfl | refine And.intro trivial ?_ | refine And.intro (of_decide_eq_false rfl) ?_ | refine And.intro (of_decide_eq_true rfl) ?_)
  refine zs_7_20 ?_
  repeat' first | refine And.intro rfl ?_ | refine And.intro (Or.inl rfl) ?_ | refine And.intro (Or.inr rfl) ?_ | refine And.intro (Nat.le_of_ble_eq_true rfl) ?_ | refine And.intro (And.intro rfl rfl) ?_ | exact rfl | refine And.intro trivial ?_ | refine And.intro (of_decide_eq_false rfl) ?_ | refine And.intro (of_decide_eq_true rfl) ?_
  refine And.intro (fun _ => ?_) (fun c => absurd (show nI 7 ≤ nI 7 by decide) c)
  refine zs_7_43 ?_
  repeat' first | refine And.intro rfl ?_ | refine And.intro (Or.inl rfl) ?_ | refine And.intro (Or.inr rfl) ?_ | refine And.intro (Nat.le_of_ble_eq_true rfl) ?_ | refine And.intro (And.intro rfl rfl) ?_ | exact rfl | refine And.intro trivial ?_ | refine And.intro (of_decide_eq_false rfl) ?_ | refine And.intro (of_decide_eq_true rfl) ?_
set_option maxHeartbeats 4000000 in
theorem zC_21 (I : Nat → Nat → Int32) (n1 : Nat) : zz_run 298 5 0 [some (.ref 28)] [] (zT_74 I n1) none (zT_83 I n1) := by
  refine zs_5_0 ?_
  repeat' first | refine And.intro rfl ?_ | refine And.intro (Or.inl rfl) ?_ | refine And.intro (Or.inr rfl) ?_ | refine And.intro (Nat.le_of_ble_eq_true rfl) ?_ | refine And.intro (And.intro rfl rfl) ?_ | exact rfl | refine And.intro trivial ?_ | refine And.intro (of_decide_eq_false rfl) ?_ | refine And.intro (of_decide_eq_true rfl) ?_
  refine Exists.intro _ (Exists.intro _ (And.intro (zC_20 I n1) ?_))
  repeat' first | refine And.intro rfl ?_ | refine And.intro (Or.inl rfl) ?_ | refine And.intro (Or.inr rfl) ?_ | refine And.intro (Nat.le_of_ble_eq_true rfl) ?_ | refine And.intro (And.intro rfl rfl) ?_ | exact rfl | refine And.intro trivial ?_ | refine And.intro (of_decide_eq_false rfl) ?_ | refine And.intro (of_decide_eq_true rfl) ?_
set_option maxHeartbeats 4000000 in
theorem zC_22 (I : Nat → Nat → Int32) (n1 : Nat) : zz_run 299 4 0 [some (.ref 28)] [] (zT_68 I n1) none (zT_83 I n1) := by
  refine zs_4_0 ?_
  repeat' first | refine And.intro rfl ?_ | refine And.intro (Or.inl rfl) ?_ | refine And.intro (Or.inr rfl) ?_ | refine And.intro (Nat.le_of_ble_eq_true rfl) ?_ | refine And.intro (And.intro rfl rfl) ?_ | exact rfl | refine And.intro trivial ?_ | refine And.intro (of_decide_eq_false rfl) ?_ | refine And.intro (of_decide_eq_true rfl) ?_
  refine Exists.intro _ (Exists.intro _ (And.intro (zC_21 I n1) ?_))
  repeat' first | refine And.intro rfl ?_ | refine And.intro (Or.inl rfl) ?_ | refine And.intro (Or.inr rfl) ?_ | refine And.intro (Nat.le_of_ble_eq_true rfl) ?_ | refine And.intro (And.intro rfl rfl) ?_ | exact rfl | refine And.intro trivial ?_ | refine And.intro (of_decide_eq_false rfl) ?_ | refine And.intro (of_decide_eq_true rfl) ?_
set_option maxHeartbeats 4000000 in
theorem zC_23 (I : Nat → Nat → Int32) (n1 : Nat) : zz_run 296 310 0 [some (.int (nI 7)), some (.int (nI 40))] [] (zT_91 I n1) (some (.int (nI 7))) (zT_91 I n1) := by
  refine zs_310_0 ?_
  repeat' first | refine And.intro rfl ?_ | refine And.intro (Or.inl rfl) ?_ | refine And.intro (Or.inr rfl) ?_ | refine And.intro (Nat.le_of_ble_eq_true rfl) ?_ | refine And.intro (And.intro rfl rfl) ?_ | exact rfl | refine And.intro trivial ?_ | refine And.intro (of_decide_eq_false rfl) ?_ | refine And.intro (of_decide_eq_true rfl) ?_
  refine And.intro (fun c => absurd (show nI 40 < nI 7 from c) (by decide)) (fun _ => ?_)
  repeat' first | refine And.intro rfl ?_ | refine And.intro (Or.inl rfl) ?_ | refine And.intro (Or.inr rfl) ?_ | refine And.intro (Nat.le_of_ble_eq_true rfl) ?_ | refine And.intro (And.intro rfl rfl) ?_ | exact rfl | refine And.intro trivial ?_ | refine And.intro (of_decide_eq_false rfl) ?_ | refine And.intro (of_decide_eq_true rfl) ?_
  refine zs_310_10 ?_
  repeat' first | refine And.intro rfl ?_ | refine And.intro (Or.inl rfl) ?_ | refine And.intro (Or.inr rfl) ?_ | refine And.intro (Nat.le_of_ble_eq_true rfl) ?_ | refine And.intro (And.intro rfl rfl) ?_ | exact rfl | refine And.intro trivial ?_ | refine And.intro (of_decide_eq_false rfl) ?_ | refine And.intro (of_decide_eq_true rfl) ?_
set_option maxHeartbeats 4000000 in
theorem zC_24 (I : Nat → Nat → Int32) (n1 : Nat) : zz_run 296 310 0 [some (.int (nI 7)), some (.int (nI 7))] [] (zT_91 I n1) (some (.int (nI 7))) (zT_91 I n1) := by
  refine zs_310_0 ?_
  repeat' first | refine And.intro rfl ?_ | refine And.intro (Or.inl rfl) ?_ | refine And.intro (Or.inr rfl) ?_ | refine And.intro (Nat.le_of_ble_eq_true rfl) ?_ | refine And.intro (And.intro rfl rfl) ?_ | exact rfl | refine And.intro trivial ?_ | refine And.intro (of_decide_eq_false rfl) ?_ | refine And.intro (of_decide_eq_true rfl) ?_
  refine And.intro (fun c => absurd (show nI 7 < nI 7 from c) (by decide)) (fun _ => ?_)
  repeat' first | refine And.intro rfl ?_ | refine And.intro (Or.inl rfl) ?_ | refine And.intro (Or.inr rfl) ?_ | refine And.intro (Nat.le_of_ble_eq_true rfl) ?_ | refine And.intro (And.intro rfl rfl) ?_ | exact rfl | refine And.intro trivial ?_ | refine And.intro (of_decide_eq_false rfl) ?_ | refine And.intro (of_decide_eq_true rfl) ?_
  refine zs_310_10 ?_
  repeat' first | refine And.intro rfl ?_ | refine And.intro (Or.inl rfl) ?_ | refine And.intro (Or.inr rfl) ?_ | refine And.intro (Nat.le_of_ble_eq_true rfl) ?_ | refine And.intro (And.intro rfl rfl) ?_ | exact rfl | refine And.intro trivial ?_ | refine And.intro (of_decide_eq_false rfl) ?_ | refine And.intro (of_decide_eq_true rfl) ?_
set_option maxHeartbeats 4000000 in
theorem zC_25 (I : Nat → Nat → Int32) (n1 : Nat) : zz_run 297 7 0 [some (.ref 32), some (.ref 0), some (.int (nI 7)), none] [] (zT_91 I n1) none (zT_100 I n1) := by
  refine zs_7_0 ?_
  repeat' first | refine And.intro rfl ?_ | refine And.intro (Or.inl rfl) ?_ | refine And.intro (Or.inr rfl) ?_ | refine And.intro (Nat.le_of_ble_eq_true rfl) ?_ | refine And.intro (And.intro rfl rfl) ?_ | exact rfl | refine And.intro trivial ?_ | refine And.intro (of_decide_eq_false rfl) ?_ | refine And.intro (of_decide_eq_true rfl) ?_
  refine Exists.intro _ (Exists.intro _ (And.intro (zC_23 I n1) ?_))
  repeat' first | refine And.intro rfl ?_ | refine And.intro (Or.inl rfl) ?_ | refine And.intro (Or.inr rfl) ?_ | refine And.intro (Nat.le_of_ble_eq_true rfl) ?_ | refine And.intro (And.intro rfl rfl) ?_ | exact rfl | refine And.intro trivial ?_ | refine And.intro (of_decide_eq_false rfl) ?_ | refine And.intro (of_decide_eq_true rfl) ?_
  refine Exists.intro _ (Exists.intro _ (And.intro (zC_24 I n1) ?_))
  repeat' first | refine And.intro rfl ?_ | refine And.intro (Or.inl rfl) ?_ | refine And.intro (Or.inr rfl) ?_ | refine And.intro (Nat.le_of_ble_eq_true rfl) ?_ | refine And.intro (And.intro rfl rfl) ?_ | exact rfl | refine And.intro trivial ?_ | refine And.intro (of_decide_eq_false rfl) ?_ | refine And.intro (of_decide_eq_true rfl) ?_
  refine zs_7_20 ?_
  repeat' first | refine And.intro rfl ?_ | refine And.intro (Or.inl rfl) ?_ | refine And.intro (Or.inr rfl) ?_ | refine And.intro (Nat.le_of_ble_eq_true rfl) ?_ | refine And.intro (And.intro rfl rfl) ?_ | exact rfl | refine And.intro trivial ?_ | refine And.intro (of_decide_eq_false rfl) ?_ | refine And.intro (of_decide_eq_true rfl) ?_
  refine And.intro (fun c => absurd (show nI 7 ≤ nI 0 from c) (by decide)) (fun _ => ?_)
  repeat' first | refine And.intro rfl ?_ | refine And.intro (Or.inl rfl) ?_ | refine And.intro (Or.inr rfl) ?_ | refine And.intro (Nat.le_of_ble_eq_true rfl) ?_ | refine And.intro (And.intro rfl rfl) ?_ | exact rfl | refine And.intro trivial ?_ | refine And.intro (of_decide_eq_false rfl) ?_ | refine And.intro (of_decide_eq_true rfl) ?_
  first | refine ⟨zC_vin (k := 0) (N := 7) (by decide) rfl rfl rfl, ?_⟩ | skip
  all_goals (repeat' first | refine And.intro rfl ?_ | refine And.intro (Or.inl rfl) ?_ | refine And.intro (Or.inr rfl) ?_ | refine And.intro (Nat.le_of_ble_eq_true rfl) ?_ | refine And.intro (And.intro rfl rfl) ?_ | exact rfl | refine And.intro trivial ?_ | refine And.intro (of_decide_eq_false rfl) ?_ | refine And.intro (of_decide_eq_true rfl) ?_)
  first | refine ⟨zC_vin (k := 0) (N := 40) (by decide) rfl rfl rfl, ?_⟩ | skip
  all_goals (repeat' first | refine And.intro rfl ?_ | refine And.intro (Or.inl rfl) ?_ | refine And.intro (Or.inr rfl) ?_ | refine And.intro (Nat.le_of_ble_eq_true rfl) ?_ | refine And.intro (And.intro rfl rfl) ?_ | exact rfl | refine And.intro trivial ?_ | refine And.intro (of_decide_eq_false rfl) ?_ | refine And.intro (of_decide_eq_true rfl) ?_)
  refine zs_7_20 ?_
  repeat' first | refine And.intro rfl ?_ | refine And.intro (Or.inl rfl) ?_ | refine And.intro (Or.inr rfl) ?_ | refine And.intro (Nat.le_of_ble_eq_true rfl) ?_ | refine And.intro (And.intro rfl rfl) ?_ | exact rfl | refine And.intro trivial ?_ | refine And.intro (of_decide_eq_false rfl) ?_ | refine And.intro (of_decide_eq_true rfl) ?_
  refine And.intro (fun c => absurd (show nI 7 ≤ nI 1 from c) (by decide)) (fun _ => ?_)
  repeat' first | refine And.intro rfl ?_ | refine And.intro (Or.inl rfl) ?_ | refine And.intro (Or.inr rfl) ?_ | refine And.intro (Nat.le_of_ble_eq_true rfl) ?_ | refine And.intro (And.intro rfl rfl) ?_ | exact rfl | refine And.intro trivial ?_ | refine And.intro (of_decide_eq_false rfl) ?_ | refine And.intro (of_decide_eq_true rfl) ?_
  first | refine ⟨zC_vin (k := 1) (N := 7) (by decide) rfl rfl rfl, ?_⟩ | skip
  all_goals (repeat' first | refine And.intro rfl ?_ | refine And.intro (Or.inl rfl) ?_ | refine And.intro (Or.inr rfl) ?_ | refine And.intro (Nat.le_of_ble_eq_true rfl) ?_ | refine And.intro (And.intro rfl rfl) ?_ | exact rfl | refine And.intro trivial ?_ | refine And.intro (of_decide_eq_false rfl) ?_ | refine And.intro (of_decide_eq_true rfl) ?_)
  first | refine ⟨zC_vin (k := 1) (N := 40) (by decide) rfl rfl rfl, ?_⟩ | skip
  all_goals (repeat' first | refine And.intro rfl ?_ | refine And.intro (Or.inl rfl) ?_ | refine And.intro (Or.inr rfl) ?_ | refine And.intro (Nat.le_of_ble_eq_true rfl) ?_ | refine And.intro (And.intro rfl rfl) ?_ | exact rfl | refine And.intro trivial ?_ | refine And.intro (of_decide_eq_false rfl) ?_ | refine And.intro (of_decide_eq_true rfl) ?_)
  refine zs_7_20 ?_
  repeat' first | refine And.intro rfl ?_ | refine And.intro (Or.inl rfl) ?_ | refine And.intro (Or.inr rfl) ?_ | refine And.intro (Nat.le_of_ble_eq_true rfl) ?_ | refine And.intro (And.intro rfl rfl) ?_ | exact rfl | refine And.intro trivial ?_ | refine And.intro (of_decide_eq_false rfl) ?_ | refine And.intro (of_decide_eq_true rfl) ?_
  refine And.intro (fun c => absurd (show nI 7 ≤ nI 2 from c) (by decide)) (fun _ => ?_)
  repeat' first | refine And.intro rfl ?_ | refine And.intro (Or.inl rfl) ?_ | refine And.intro (Or.inr rfl) ?_ | refine And.intro (Nat.le_of_ble_eq_true rfl) ?_ | refine And.intro (And.intro rfl rfl) ?_ | exact rfl | refine And.intro trivial ?_ | refine And.intro (of_decide_eq_false rfl) ?_ | refine And.intro (of_decide_eq_true rfl) ?_
  first | refine ⟨zC_vin (k := 2) (N := 7) (by decide) rfl rfl rfl, ?_⟩ | skip
  all_goals (repeat' first | refine And.intro rfl ?_ | refine And.intro (Or.inl rfl) ?_ | refine And.intro (Or.inr rfl) ?_ | refine And.intro (Nat.le_of_ble_eq_true rfl) ?_ | refine And.intro (And.intro rfl rfl) ?_ | exact rfl | refine And.intro trivial ?_ | refine And.intro (of_decide_eq_false rfl) ?_ | refine And.intro (of_decide_eq_true rfl) ?_)
  first | refine ⟨zC_vin (k := 2) (N := 40) (by decide) rfl rfl rfl, ?_⟩ | skip
  all_goals (repeat' first | refine And.intro rfl ?_ | refine And.intro (Or.inl rfl) ?_ | refine And.intro (Or.inr rfl) ?_ | refine And.intro (Nat.le_of_ble_eq_true rfl) ?_ | refine And.intro (And.intro rfl rfl) ?_ | exact rfl | refine And.intro trivial ?_ | refine And.intro (of_decide_eq_false rfl) ?_ | refine And.intro (of_decide_eq_true rfl) ?_)
  refine zs_7_20 ?_
  repeat' first | refine And.intro rfl ?_ | refine And.intro (Or.inl rfl) ?_ | refine And.intro (Or.inr rfl) ?_ | refine And.intro (Nat.le_of_ble_eq_true rfl) ?_ | refine And.intro (And.intro rfl rfl) ?_ | exact rfl | refine And.intro trivial ?_ | refine And.intro (of_decide_eq_false rfl) ?_ | refine And.intro (of_decide_eq_true rfl) ?_
  refine And.intro (fun c => absurd (show nI 7 ≤ nI 3 from c) (by decide)) (fun _ => ?_)
  repeat' first | refine And.intro rfl ?_ | refine And.intro (Or.inl rfl) ?_ | refine And.intro (Or.inr rfl) ?_ | refine And.intro (Nat.le_of_ble_eq_true rfl) ?_ | refine And.intro (And.intro rfl rfl) ?_ | exact rfl | refine And.intro trivial ?_ | refine And.intro (of_decide_eq_false rfl) ?_ | refine And.intro (of_decide_eq_true rfl) ?_
  first | refine ⟨zC_vin (k := 3) (N := 7) (by decide) rfl rfl rfl, ?_⟩ | skip
  all_goals (repeat' first | refine And.intro rfl ?_ | refine And.intro (Or.inl rfl) ?_ | refine And.intro (Or.inr rfl) ?_ | refine And.intro (Nat.le_of_ble_eq_true rfl) ?_ | refine And.intro (And.intro rfl rfl) ?_ | exact rfl | refine And.intro trivial ?_ | refine And.intro (of_decide_eq_false rfl) ?_ | refine And.intro (of_decide_eq_true rfl) ?_)
  first | refine ⟨zC_vin (k := 3) (N := 40) (by decide) rfl rfl rfl, ?_⟩ | skip
  all_goals (repeat' first | refine And.intro rfl ?_ | refine And.intro (Or.inl rfl) ?_ | refine And.intro (Or.inr rfl) ?_ | refine And.intro (Nat.le_of_ble_eq_true rfl) ?_ | refine And.intro (And.intro rfl rfl) ?_ | exact rfl | refine And.intro trivial ?_ | refine And.intro (of_decide_eq_false rfl) ?_ | refine And.intro (of_decide_eq_true rfl) ?_)
  refine zs_7_20 ?_
  repeat' first | refine And.intro rfl ?_ | refine And.intro (Or.inl rfl) ?_ | refine And.intro (Or.inr rfl) ?_ | refine And.intro (Nat.le_of_ble_eq_true rfl) ?_ | refine And.intro (And.intro rfl rfl) ?_ | exact rfl | refine And.intro trivial ?_ | refine And.intro (of_decide_eq_false rfl) ?_ | refine And.intro (of_decide_eq_true rfl) ?_
  refine And.intro (fun c => absurd (show nI 7 ≤ nI 4 from c) (by decide)) (fun _ => ?_)
  repeat' first | refine And.intro rfl ?_ | refine And.intro (Or.inl rfl) ?_ | refine And.intro (Or.inr rfl) ?_ | refine And.intro (Nat.le_of_ble_eq_true rfl) ?_ | refine And.intro (And.intro rfl rfl) ?_ | exact rfl | refine And.intro trivial ?_ | refine And.intro (of_decide_eq_false rfl) ?_ | refine And.intro (of_decide_eq_true rfl) ?_
  first | refine ⟨zC_vin (k := 4) (N := 7) (by decide) rfl rfl rfl, ?_⟩ | skip
  all_goals (repeat' first | refine And.intro rfl ?_ | refine And.intro (Or.inl rfl) ?_ | refine And.intro (Or.inr rfl) ?_ | refine And.intro (Nat.le_of_ble_eq_true rfl) ?_ | refine And.intro (And.intro rfl rfl) ?_ | exact rfl | refine And.intro trivial ?_ | refine And.intro (of_decide_eq_false rfl) ?_ | refine And.intro (of_decide_eq_true rfl) ?_)
  first | refine ⟨zC_vin (k := 4) (N := 40) (by decide) rfl rfl rfl, ?_⟩ | skip
  all_goals (repeat' first | refine And.intro rfl ?_ | refine And.intro (Or.inl rfl) ?_ | refine And.intro (Or.inr rfl) ?_ | refine And.intro (Nat.le_of_ble_eq_true rfl) ?_ | refine And.intro (And.intro rfl rfl) ?_ | exact rfl | refine And.intro trivial ?_ | refine And.intro (of_decide_eq_false rfl) ?_ | refine And.intro (of_decide_eq_true rfl) ?_)
  refine zs_7_20 ?_
  repeat' first | refine And.intro rfl ?_ | refine And.intro (Or.inl rfl) ?_ | refine And.intro (Or.inr rfl) ?_ | refine And.intro (Nat.le_of_ble_eq_true rfl) ?_ | refine And.intro (And.intro rfl rfl) ?_ | exact rfl | refine And.intro trivial ?_ | refine And.intro (of_decide_eq_false rfl) ?_ | refine And.intro (of_decide_eq_true rfl) ?_
  refine And.intro (fun c => absurd (show nI 7 ≤ nI 5 from c) (by decide)) (fun _ => ?_)
  repeat' first | refine And.intro rfl ?_ | refine And.intro (Or.inl rfl) ?_ | refine And.intro (Or.inr rfl) ?_ | refine And.intro (Nat.le_of_ble_eq_true rfl) ?_ | refine And.intro (And.intro rfl rfl) ?_ | exact rfl | refine And.intro trivial ?_ | refine And.intro (of_decide_eq_false rfl) ?_ | refine And.intro (of_decide_eq_true rfl) ?_
  first | refine ⟨zC_vin (k := 5) (N := 7) (by decide) rfl rfl rfl, ?_⟩ | skip
  all_goals (repeat' first | refine And.intro rfl ?_ | refine And.intro (Or.inl rfl) ?_ | refine And.intro (Or.inr rfl) ?_ | refine And.intro (Nat.le_of_ble_eq_true rfl) ?_ | refine And.intro (And.intro rfl rfl) ?_ | exact rfl | refine And.intro trivial ?_ | refine And.intro (of_decide_eq_false rfl) ?_ | refine And.intro (of_decide_eq_true rfl) ?_)
  first | refine ⟨zC_vin (k := 5) (N := 40) (by decide) rfl rfl rfl, ?_⟩ | skip
  all_goals (repeat' first | refine And.intro rfl ?_ | refine And.intro (Or.inl rfl) ?_ | refine And.intro (Or.inr rfl) ?_ | refine And.intro (Nat.le_of_ble_eq_true rfl) ?_ | refine And.intro (And.intro rfl rfl) ?_ | exact rfl | refine And.intro trivial ?_ | refine And.intro (of_decide_eq_false rfl) ?_ | refine And.intro (of_decide_eq_true rfl) ?_)
  refine zs_7_20 ?_
  repeat' first | refine And.intro rfl ?_ | refine And.intro (Or.inl rfl) ?_ | refine And.intro (Or.inr rfl) ?_ | refine And.intro (Nat.le_of_ble_eq_true rfl) ?_ | refine And.intro (And.intro rfl rfl) ?_ | exact rfl | refine And.intro trivial ?_ | refine And.intro (of_decide_eq_false rfl) ?_ | refine And.intro (of_decide_eq_true rfl) ?_
  refine And.intro (fun c => absurd (show nI 7 ≤ nI 6 from c) (by decide)) (fun _ => ?_)
  repeat' first | refine And.intro rfl ?_ | refine And.intro (Or.inl rfl) ?_ | refine And.intro (Or.inr rfl) ?_ | refine And.intro (Nat.le_of_ble_eq_true rfl) ?_ | refine And.intro (And.intro rfl rfl) ?_ | exact rfl | refine And.intro trivial ?_ | refine And.intro (of_decide_eq_false rfl) ?_ | refine And.intro (of_decide_eq_true rfl) ?_
  first | refine ⟨zC_vin (k := 6) (N := 7) (by decide) rfl rfl rfl, ?_⟩ | skip
  all_goals (repeat' first | refine And.intro rfl ?_ | refine And.intro (Or.inl rfl) ?_ | refine And.intro (Or.inr rfl) ?_ | refine And.intro (Nat.le_of_ble_eq_true rfl) ?_ | refine And.intro (And.intro rfl rfl) ?_ | exact rfl | refine And.intro trivial ?_ | refine And.intro (of_decide_eq_false rfl) ?_ | refine And.intro (of_decide_eq_true rfl) ?_)
  first | refine ⟨zC_vin (k := 6) (N := 40) (by decide) rfl rfl rfl, ?_⟩ | skip
  all_goals (repeat' first | refine And.intro rfl ?_ | refine And.intro (Or.inl rfl) ?_ | refine And.intro (Or.inr rfl) ?_ | refine And.intro (Nat.le_of_ble_eq_true rfl) ?_ | refine And.intro (And.intro rfl rfl) ?_ | exact rfl | refine And.intro trivial ?_ | refine And.intro (of_decide_eq_false rfl) ?_ | refine And.intro (of_decide_eq_true rfl) ?_)
  refine zs_7_20 ?_
  repeat' first | refine And.intro rfl ?_ | refine And.intro (Or.inl rfl) ?_ | refine And.intro (Or.inr rfl) ?_ | refine And.intro (Nat.le_of_ble_eq_true rfl) ?_ | refine And.intro (And.intro rfl rfl) ?_ | exact rfl | refine And.intro trivial ?_ | refine And.intro (of_decide_eq_false rfl) ?_ | refine And.intro (of_decide_eq_true rfl) ?_
  refine And.intro (fun _ => ?_) (fun c => absurd (show nI 7 ≤ nI 7 by decide) c)
  refine zs_7_43 ?_
  repeat' first | refine And.intro rfl ?_ | refine And.intro (Or.inl rfl) ?_ | refine And.intro (Or.inr rfl) ?_ | refine And.intro (Nat.le_of_ble_eq_true rfl) ?_ | refine And.intro (And.intro rfl rfl) ?_ | exact rfl | refine And.intro trivial ?_ | refine And.intro (of_decide_eq_false rfl) ?_ | refine And.intro (of_decide_eq_true rfl) ?_
set_option maxHeartbeats 4000000 in
theorem zC_26 (I : Nat → Nat → Int32) (n1 : Nat) : zz_run 298 5 0 [some (.ref 32)] [] (zT_91 I n1) none (zT_100 I n1) := by
  refine zs_5_0 ?_
  repeat' first | refine And.intro rfl ?_ | refine And.intro (Or.inl rfl) ?_ | refine And.intro (Or.inr rfl) ?_ | refine And.intro (Nat.le_of_ble_eq_true rfl) ?_ | refine And.intro (And.intro rfl rfl) ?_ | exact rfl | refine And.intro trivial ?_ | refine And.intro (of_decide_eq_false rfl) ?_ | refine And.intro (of_decide_eq_true rfl) ?_
  refine Exists.intro _ (Exists.intro _ (And.intro (zC_25 I n1) ?_))
  repeat' first | refine And.intro rfl ?_ | refine And.intro (Or.inl rfl) ?_ | refine And.intro (Or.inr rfl) ?_ | refine And.intro (Nat.le_of_ble_eq_true rfl) ?_ | refine And.intro (And.intro rfl rfl) ?_ | exact rfl | refine And.intro trivial ?_ | refine And.intro (of_decide_eq_false rfl) ?_ | refine And.intro (of_decide_eq_true rfl) ?_
set_option maxHeartbeats 4000000 in
theorem zC_27 (I : Nat → Nat → Int32) (n1 : Nat) : zz_run 299 4 0 [some (.ref 32)] [] (zT_85 I n1) none (zT_100 I n1) := by
  refine zs_4_0 ?_
  repeat' first | refine And.intro rfl ?_ | refine And.intro (Or.inl rfl) ?_ | refine And.intro (Or.inr rfl) ?_ | refine And.intro (Nat.le_of_ble_eq_true rfl) ?_ | refine And.intro (And.intro rfl rfl) ?_ | exact rfl | refine And.intro trivial ?_ | refine And.intro (of_decide_eq_false rfl) ?_ | refine And.intro (of_decide_eq_true rfl) ?_
  refine Exists.intro _ (Exists.intro _ (And.intro (zC_26 I n1) ?_))
  repeat' first | refine And.intro rfl ?_ | refine And.intro (Or.inl rfl) ?_ | refine And.intro (Or.inr rfl) ?_ | refine And.intro (Nat.le_of_ble_eq_true rfl) ?_ | refine And.intro (And.intro rfl rfl) ?_ | exact rfl | refine And.intro trivial ?_ | refine And.intro (of_decide_eq_false rfl) ?_ | refine And.intro (of_decide_eq_true rfl) ?_
set_option maxHeartbeats 4000000 in
theorem zC_28 (I : Nat → Nat → Int32) (n1 : Nat) : zz_run 298 96 0 [some (.ref 36)] [] (zT_102 I n1) none (zT_102 I n1) := by
  refine zs_96_0 ?_
  repeat' first | refine And.intro rfl ?_ | refine And.intro (Or.inl rfl) ?_ | refine And.intro (Or.inr rfl) ?_ | refine And.intro (Nat.le_of_ble_eq_true rfl) ?_ | refine And.intro (And.intro rfl rfl) ?_ | exact rfl | refine And.intro trivial ?_ | refine And.intro (of_decide_eq_false rfl) ?_ | refine And.intro (of_decide_eq_true rfl) ?_
set_option maxHeartbeats 4000000 in
theorem zC_29 (I : Nat → Nat → Int32) (n1 : Nat) : zz_run 299 32 0 [some (.ref 36), some (.ref 5)] [] (zT_102 I n1) none (zT_103 I n1) := by
  refine zs_32_0 ?_
  repeat' first | refine And.intro rfl ?_ | refine And.intro (Or.inl rfl) ?_ | refine And.intro (Or.inr rfl) ?_ | refine And.intro (Nat.le_of_ble_eq_true rfl) ?_ | refine And.intro (And.intro rfl rfl) ?_ | exact rfl | refine And.intro trivial ?_ | refine And.intro (of_decide_eq_false rfl) ?_ | refine And.intro (of_decide_eq_true rfl) ?_
  refine Exists.intro _ (Exists.intro _ (And.intro (zC_28 I n1) ?_))
  repeat' first | refine And.intro rfl ?_ | refine And.intro (Or.inl rfl) ?_ | refine And.intro (Or.inr rfl) ?_ | refine And.intro (Nat.le_of_ble_eq_true rfl) ?_ | refine And.intro (And.intro rfl rfl) ?_ | exact rfl | refine And.intro trivial ?_ | refine And.intro (of_decide_eq_false rfl) ?_ | refine And.intro (of_decide_eq_true rfl) ?_
set_option maxHeartbeats 4000000 in
theorem zC_30 (I : Nat → Nat → Int32) (n1 : Nat) : zz_run 298 96 0 [some (.ref 37)] [] (zT_105 I n1) none (zT_105 I n1) := by
  refine zs_96_0 ?_
  repeat' first | refine And.intro rfl ?_ | refine And.intro (Or.inl rfl) ?_ | refine And.intro (Or.inr rfl) ?_ | refine And.intro (Nat.le_of_ble_eq_true rfl) ?_ | refine And.intro (And.intro rfl rfl) ?_ | exact rfl | refine And.intro trivial ?_ | refine And.intro (of_decide_eq_false rfl) ?_ | refine And.intro (of_decide_eq_true rfl) ?_
set_option maxHeartbeats 4000000 in
theorem zC_31 (I : Nat → Nat → Int32) (n1 : Nat) : zz_run 299 97 0 [some (.ref 37)] [] (zT_105 I n1) none (zT_109 I n1) := by
  refine zs_97_0 ?_
  repeat' first | refine And.intro rfl ?_ | refine And.intro (Or.inl rfl) ?_ | refine And.intro (Or.inr rfl) ?_ | refine And.intro (Nat.le_of_ble_eq_true rfl) ?_ | refine And.intro (And.intro rfl rfl) ?_ | exact rfl | refine And.intro trivial ?_ | refine And.intro (of_decide_eq_false rfl) ?_ | refine And.intro (of_decide_eq_true rfl) ?_
  refine Exists.intro _ (Exists.intro _ (And.intro (zC_30 I n1) ?_))
  repeat' first | refine And.intro rfl ?_ | refine And.intro (Or.inl rfl) ?_ | refine And.intro (Or.inr rfl) ?_ | refine And.intro (Nat.le_of_ble_eq_true rfl) ?_ | refine And.intro (And.intro rfl rfl) ?_ | exact rfl | refine And.intro trivial ?_ | refine And.intro (of_decide_eq_false rfl) ?_ | refine And.intro (of_decide_eq_true rfl) ?_
set_option maxHeartbeats 4000000 in
theorem zC_32 (I : Nat → Nat → Int32) (n1 : Nat) : zz_run 298 96 0 [some (.ref 40)] [] (zT_111 I n1) none (zT_111 I n1) := by
  refine zs_96_0 ?_
  repeat' first | refine And.intro rfl ?_ | refine And.intro (Or.inl rfl) ?_ | refine And.intro (Or.inr rfl) ?_ | refine And.intro (Nat.le_of_ble_eq_true rfl) ?_ | refine And.intro (And.intro rfl rfl) ?_ | exact rfl | refine And.intro trivial ?_ | refine And.intro (of_decide_eq_false rfl) ?_ | refine And.intro (of_decide_eq_true rfl) ?_
set_option maxHeartbeats 4000000 in
theorem zC_33 (I : Nat → Nat → Int32) (n1 : Nat) : zz_run 299 0 0 [some (.ref 40)] [] (zT_111 I n1) none (zT_111 I n1) := by
  refine zs_0_0 ?_
  repeat' first | refine And.intro rfl ?_ | refine And.intro (Or.inl rfl) ?_ | refine And.intro (Or.inr rfl) ?_ | refine And.intro (Nat.le_of_ble_eq_true rfl) ?_ | refine And.intro (And.intro rfl rfl) ?_ | exact rfl | refine And.intro trivial ?_ | refine And.intro (of_decide_eq_false rfl) ?_ | refine And.intro (of_decide_eq_true rfl) ?_
  refine Exists.intro _ (Exists.intro _ (And.intro (zC_32 I n1) ?_))
  repeat' first | refine And.intro rfl ?_ | refine And.intro (Or.inl rfl) ?_ | refine And.intro (Or.inr rfl) ?_ | refine And.intro (Nat.le_of_ble_eq_true rfl) ?_ | refine And.intro (And.intro rfl rfl) ?_ | exact rfl | refine And.intro trivial ?_ | refine And.intro (of_decide_eq_false rfl) ?_ | refine And.intro (of_decide_eq_true rfl) ?_
set_option maxHeartbeats 4000000 in
theorem zC_34 (I : Nat → Nat → Int32) (n1 : Nat) : zz_run 299 45 0 [some (.ref 41), some (.ref 5)] [] (zT_113 I n1) none (zT_122 I n1) := by
  refine zs_45_0 ?_
  repeat' first | refine And.intro rfl ?_ | refine And.intro (Or.inl rfl) ?_ | refine And.intro (Or.inr rfl) ?_ | refine And.intro (Nat.le_of_ble_eq_true rfl) ?_ | refine And.intro (And.intro rfl rfl) ?_ | exact rfl | refine And.intro trivial ?_ | refine And.intro (of_decide_eq_false rfl) ?_ | refine And.intro (of_decide_eq_true rfl) ?_
set_option maxHeartbeats 4000000 in
theorem zC_35 (I : Nat → Nat → Int32) (n1 : Nat) : zz_run 299 123 0 [some (.ref 46), some (.ref 5), some (.ref 8)] [] (zT_124 I n1) none (zT_130 I n1) := by
  refine zs_123_0 ?_
  repeat' first | refine And.intro rfl ?_ | refine And.intro (Or.inl rfl) ?_ | refine And.intro (Or.inr rfl) ?_ | refine And.intro (Nat.le_of_ble_eq_true rfl) ?_ | refine And.intro (And.intro rfl rfl) ?_ | exact rfl | refine And.intro trivial ?_ | refine And.intro (of_decide_eq_false rfl) ?_ | refine And.intro (of_decide_eq_true rfl) ?_
set_option maxHeartbeats 4000000 in
theorem zC_36 (I : Nat → Nat → Int32) (n1 : Nat) : zz_run 299 15 0 [some (.ref 49), some (.ref 5)] [] (zT_132 I n1) none (zT_137 I n1) := by
  refine zs_15_0 ?_
  repeat' first | refine And.intro rfl ?_ | refine And.intro (Or.inl rfl) ?_ | refine And.intro (Or.inr rfl) ?_ | refine And.intro (Nat.le_of_ble_eq_true rfl) ?_ | refine And.intro (And.intro rfl rfl) ?_ | exact rfl | refine And.intro trivial ?_ | refine And.intro (of_decide_eq_false rfl) ?_ | refine And.intro (of_decide_eq_true rfl) ?_
set_option maxHeartbeats 4000000 in
theorem zC_37 (I : Nat → Nat → Int32) (n1 : Nat) : zz_run 300 133 0 [some (.ref 2)] [] (zT_1 I n1) none (zT_138 I n1) := by
  refine zs_133_0 ?_
  repeat' first | refine And.intro rfl ?_ | refine And.intro (Or.inl rfl) ?_ | refine And.intro (Or.inr rfl) ?_ | refine And.intro (Nat.le_of_ble_eq_true rfl) ?_ | refine And.intro (And.intro rfl rfl) ?_ | exact rfl | refine And.intro trivial ?_ | refine And.intro (of_decide_eq_false rfl) ?_ | refine And.intro (of_decide_eq_true rfl) ?_
  refine Exists.intro _ (Exists.intro _ (And.intro (zC_0 I n1) ?_))
  repeat' first | refine And.intro rfl ?_ | refine And.intro (Or.inl rfl) ?_ | refine And.intro (Or.inr rfl) ?_ | refine And.intro (Nat.le_of_ble_eq_true rfl) ?_ | refine And.intro (And.intro rfl rfl) ?_ | exact rfl | refine And.intro trivial ?_ | refine And.intro (of_decide_eq_false rfl) ?_ | refine And.intro (of_decide_eq_true rfl) ?_
  refine Exists.intro _ (Exists.intro _ (And.intro (zC_1 I n1) ?_))
  repeat' first | refine And.intro rfl ?_ | refine And.intro (Or.inl rfl) ?_ | refine And.intro (Or.inr rfl) ?_ | refine And.intro (Nat.le_of_ble_eq_true rfl) ?_ | refine And.intro (And.intro rfl rfl) ?_ | exact rfl | refine And.intro trivial ?_ | refine And.intro (of_decide_eq_false rfl) ?_ | refine And.intro (of_decide_eq_true rfl) ?_
  refine Exists.intro _ (Exists.intro _ (And.intro (zC_17 I n1) ?_))
  repeat' first | refine And.intro rfl ?_ | refine And.intro (Or.inl rfl) ?_ | refine And.intro (Or.inr rfl) ?_ | refine And.intro (Nat.le_of_ble_eq_true rfl) ?_ | refine And.intro (And.intro rfl rfl) ?_ | exact rfl | refine And.intro trivial ?_ | refine And.intro (of_decide_eq_false rfl) ?_ | refine And.intro (of_decide_eq_true rfl) ?_
  refine Exists.intro _ (Exists.intro _ (And.intro (zC_22 I n1) ?_))
  repeat' first | refine And.intro rfl ?_ | refine And.intro (Or.inl rfl) ?_ | refine And.intro (Or.inr rfl) ?_ | refine And.intro (Nat.le_of_ble_eq_true rfl) ?_ | refine And.intro (And.intro rfl rfl) ?_ | exact rfl | refine And.intro trivial ?_ | refine And.intro (of_decide_eq_false rfl) ?_ | refine And.intro (of_decide_eq_true rfl) ?_
  refine Exists.intro _ (Exists.intro _ (And.intro (zC_27 I n1) ?_))
  repeat' first | refine And.intro rfl ?_ | refine And.intro (Or.inl rfl) ?_ | refine And.intro (Or.inr rfl) ?_ | refine And.intro (Nat.le_of_ble_eq_true rfl) ?_ | refine And.intro (And.intro rfl rfl) ?_ | exact rfl | refine And.intro trivial ?_ | refine And.intro (of_decide_eq_false rfl) ?_ | refine And.intro (of_decide_eq_true rfl) ?_
  refine Exists.intro _ (Exists.intro _ (And.intro (zC_29 I n1) ?_))
  repeat' first | refine And.intro rfl ?_ | refine And.intro (Or.inl rfl) ?_ | refine And.intro (Or.inr rfl) ?_ | refine And.intro (Nat.le_of_ble_eq_true rfl) ?_ | refine And.intro (And.intro rfl rfl) ?_ | exact rfl | refine And.intro trivial ?_ | refine And.intro (of_decide_eq_false rfl) ?_ | refine And.intro (of_decide_eq_true rfl) ?_
  refine Exists.intro _ (Exists.intro _ (And.intro (zC_31 I n1) ?_))
  repeat' first | refine And.intro rfl ?_ | refine And.intro (Or.inl rfl) ?_ | refine And.intro (Or.inr rfl) ?_ | refine And.intro (Nat.le_of_ble_eq_true rfl) ?_ | refine And.intro (And.intro rfl rfl) ?_ | exact rfl | refine And.intro trivial ?_ | refine And.intro (of_decide_eq_false rfl) ?_ | refine And.intro (of_decide_eq_true rfl) ?_
  refine Exists.intro _ (Exists.intro _ (And.intro (zC_33 I n1) ?_))
  repeat' first | refine And.intro rfl ?_ | refine And.intro (Or.inl rfl) ?_ | refine And.intro (Or.inr rfl) ?_ | refine And.intro (Nat.le_of_ble_eq_true rfl) ?_ | refine And.intro (And.intro rfl rfl) ?_ | exact rfl | refine And.intro trivial ?_ | refine And.intro (of_decide_eq_false rfl) ?_ | refine And.intro (of_decide_eq_true rfl) ?_
  refine Exists.intro _ (Exists.intro _ (And.intro (zC_34 I n1) ?_))
  repeat' first | refine And.intro rfl ?_ | refine And.intro (Or.inl rfl) ?_ | refine And.intro (Or.inr rfl) ?_ | refine And.intro (Nat.le_of_ble_eq_true rfl) ?_ | refine And.intro (And.intro rfl rfl) ?_ | exact rfl | refine And.intro trivial ?_ | refine And.intro (of_decide_eq_false rfl) ?_ | refine And.intro (of_decide_eq_true rfl) ?_
  refine Exists.intro _ (Exists.intro _ (And.intro (zC_35 I n1) ?_))
  repeat' first | refine And.intro rfl ?_ | refine And.intro (Or.inl rfl) ?_ | refine And.intro (Or.inr rfl) ?_ | refine And.intro (Nat.le_of_ble_eq_true rfl) ?_ | refine And.intro (And.intro rfl rfl) ?_ | exact rfl | refine And.intro trivial ?_ | refine And.intro (of_decide_eq_false rfl) ?_ | refine And.intro (of_decide_eq_true rfl) ?_
  refine Exists.intro _ (Exists.intro _ (And.intro (zC_36 I n1) ?_))
  repeat' first | refine And.intro rfl ?_ | refine And.intro (Or.inl rfl) ?_ | refine And.intro (Or.inr rfl) ?_ | refine And.intro (Nat.le_of_ble_eq_true rfl) ?_ | refine And.intro (And.intro rfl rfl) ?_ | exact rfl | refine And.intro trivial ?_ | refine And.intro (of_decide_eq_false rfl) ?_ | refine And.intro (of_decide_eq_true rfl) ?_
set_option maxHeartbeats 4000000 in
theorem zC_38 (I : Nat → Nat → Int32) (n1 : Nat) : zz_run 300 199 0 [some (.ref 52)] [] (zT_139 I n1) none (zT_200 I n1) := by
  refine zs_199_0 ?_
  repeat' first | refine And.intro rfl ?_ | refine And.intro (Or.inl rfl) ?_ | refine And.intro (Or.inr rfl) ?_ | refine And.intro (Nat.le_of_ble_eq_true rfl) ?_ | refine And.intro (And.intro rfl rfl) ?_ | exact rfl | refine And.intro trivial ?_ | refine And.intro (of_decide_eq_false rfl) ?_ | refine And.intro (of_decide_eq_true rfl) ?_
  first | refine ⟨zC_vin (k := 13) (N := 18) (by decide) rfl rfl rfl, ?_⟩ | skip
  all_goals (repeat' first | refine And.intro rfl ?_ | refine And.intro (Or.inl rfl) ?_ | refine And.intro (Or.inr rfl) ?_ | refine And.intro (Nat.le_of_ble_eq_true rfl) ?_ | refine And.intro (And.intro rfl rfl) ?_ | exact rfl | refine And.intro trivial ?_ | refine And.intro (of_decide_eq_false rfl) ?_ | refine And.intro (of_decide_eq_true rfl) ?_)
