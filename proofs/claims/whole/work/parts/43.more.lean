abbrev cCW_init : ByteArray := prog_1_method_1_code
def yCW_init : MethodName := ⟨RCW, "<init>", "()V"⟩
abbrev cMO_init : ByteArray := prog_13_method_1_code
def yMO_init : MethodName := ⟨RMO, "<init>", "()V"⟩
theorem km_LW_46 : Cond.methodLink RLW 46 yCW_init ∈ WS := WS_t 23 (by decide +kernel) rfl
theorem ki_CW_init : Cond.instanceMethod yCW_init ∈ WS := WS_t 24 (by decide +kernel) rfl
theorem kc_CW_init : Cond.code yCW_init cCW_init 1 none ∈ WS := WS_t 25 (by decide +kernel) rfl
theorem km_LW_49 : Cond.methodLink RLW 49 yMO_init ∈ WS := WS_t 638 (by decide +kernel) rfl
theorem ki_MO_init : Cond.instanceMethod yMO_init ∈ WS := WS_t 639 (by decide +kernel) rfl
theorem kc_MO_init : Cond.code yMO_init cMO_init 1 none ∈ WS := WS_t 640 (by decide +kernel) rfl
abbrev wc_CW_init : List Cond := Cond.code yCW_init cCW_init 1 none :: WS
theorem cb_CW_init {R : Room} {s : State} {args : Array Value} {own : String} {index : Nat} (hws : ∀ w ∈ WS, w.before args s = true) (rm : Room) (hl : (Cond.methodLink own index yCW_init).before args s = true) (hR : rm.frames + 1 ≤ R.frames ∧ 8 + (1 + 11) + rm.locals ≤ R.locals) : CallB R s args own index yCW_init cCW_init 1 none wc_CW_init rm rm.cells rm.slots 0 := callB_of 0 hws (WS_gd kc_CW_init) rfl rfl rfl (hws _ kz_CW) hl (by decide +kernel) hR
abbrev wc_MO_init : List Cond := Cond.code yMO_init cMO_init 1 none :: WS
theorem cb_MO_init {R : Room} {s : State} {args : Array Value} {own : String} {index : Nat} (hws : ∀ w ∈ WS, w.before args s = true) (rm : Room) (hl : (Cond.methodLink own index yMO_init).before args s = true) (hR : rm.frames + 1 ≤ R.frames ∧ 8 + (1 + 11) + rm.locals ≤ R.locals) : CallB R s args own index yMO_init cMO_init 1 none wc_MO_init rm rm.cells rm.slots 0 := callB_of 0 hws (WS_gd kc_MO_init) rfl rfl rfl (hws _ kz_MO) hl (by decide +kernel) hR
theorem dCW_init_0 : decode cCW_init 0 = .ok (.aload_n 0, 1) := by decide +kernel
theorem dCW_init_1 : decode cCW_init 1 = .ok (.invokespecial 1, 3) := by decide +kernel
theorem dCW_init_4 : decode cCW_init 4 = .ok (.aload_n 0, 1) := by decide +kernel
theorem dCW_init_5 : decode cCW_init 5 = .ok (.new 7, 3) := by decide +kernel
theorem dCW_init_8 : decode cCW_init 8 = .ok (.dup, 1) := by decide +kernel
theorem dCW_init_9 : decode cCW_init 9 = .ok (.invokespecial 9, 3) := by decide +kernel
theorem dCW_init_12 : decode cCW_init 12 = .ok (.putfield 10, 3) := by decide +kernel
theorem dCW_init_15 : decode cCW_init 15 = .ok (.aload_n 0, 1) := by decide +kernel
theorem dCW_init_16 : decode cCW_init 16 = .ok (.new 16, 3) := by decide +kernel
theorem dCW_init_19 : decode cCW_init 19 = .ok (.dup, 1) := by decide +kernel
theorem dCW_init_20 : decode cCW_init 20 = .ok (.invokespecial 18, 3) := by decide +kernel
theorem dCW_init_23 : decode cCW_init 23 = .ok (.putfield 19, 3) := by decide +kernel
theorem dCW_init_26 : decode cCW_init 26 = .ok (.aload_n 0, 1) := by decide +kernel
theorem dCW_init_27 : decode cCW_init 27 = .ok (.new 23, 3) := by decide +kernel
theorem dCW_init_30 : decode cCW_init 30 = .ok (.dup, 1) := by decide +kernel
theorem dCW_init_31 : decode cCW_init 31 = .ok (.invokespecial 25, 3) := by decide +kernel
theorem dCW_init_34 : decode cCW_init 34 = .ok (.putfield 26, 3) := by decide +kernel
theorem dCW_init_37 : decode cCW_init 37 = .ok (.aload_n 0, 1) := by decide +kernel
theorem dCW_init_38 : decode cCW_init 38 = .ok (.bipush 6, 2) := by decide +kernel
theorem dCW_init_40 : decode cCW_init 40 = .ok (.anewarray 30, 3) := by decide +kernel
theorem dCW_init_43 : decode cCW_init 43 = .ok (.dup, 1) := by decide +kernel
theorem dCW_init_44 : decode cCW_init 44 = .ok (.iconst 0, 1) := by decide +kernel
theorem dCW_init_45 : decode cCW_init 45 = .ok (.new 32, 3) := by decide +kernel
theorem dCW_init_48 : decode cCW_init 48 = .ok (.dup, 1) := by decide +kernel
theorem dCW_init_49 : decode cCW_init 49 = .ok (.invokespecial 34, 3) := by decide +kernel
theorem dCW_init_52 : decode cCW_init 52 = .ok (.aastore, 1) := by decide +kernel
theorem dCW_init_53 : decode cCW_init 53 = .ok (.dup, 1) := by decide +kernel
theorem dCW_init_54 : decode cCW_init 54 = .ok (.iconst 1, 1) := by decide +kernel
theorem dCW_init_55 : decode cCW_init 55 = .ok (.new 35, 3) := by decide +kernel
theorem dCW_init_58 : decode cCW_init 58 = .ok (.dup, 1) := by decide +kernel
theorem dCW_init_59 : decode cCW_init 59 = .ok (.invokespecial 37, 3) := by decide +kernel
theorem dCW_init_62 : decode cCW_init 62 = .ok (.aastore, 1) := by decide +kernel
theorem dCW_init_63 : decode cCW_init 63 = .ok (.dup, 1) := by decide +kernel
theorem dCW_init_64 : decode cCW_init 64 = .ok (.iconst 2, 1) := by decide +kernel
theorem dCW_init_65 : decode cCW_init 65 = .ok (.new 38, 3) := by decide +kernel
theorem dCW_init_68 : decode cCW_init 68 = .ok (.dup, 1) := by decide +kernel
theorem dCW_init_69 : decode cCW_init 69 = .ok (.invokespecial 40, 3) := by decide +kernel
theorem dCW_init_72 : decode cCW_init 72 = .ok (.aastore, 1) := by decide +kernel
theorem dCW_init_73 : decode cCW_init 73 = .ok (.dup, 1) := by decide +kernel
theorem dCW_init_74 : decode cCW_init 74 = .ok (.iconst 3, 1) := by decide +kernel
theorem dCW_init_75 : decode cCW_init 75 = .ok (.aload_n 0, 1) := by decide +kernel
theorem dCW_init_76 : decode cCW_init 76 = .ok (.getfield 26, 3) := by decide +kernel
theorem dCW_init_79 : decode cCW_init 79 = .ok (.aastore, 1) := by decide +kernel
theorem dCW_init_80 : decode cCW_init 80 = .ok (.dup, 1) := by decide +kernel
theorem dCW_init_81 : decode cCW_init 81 = .ok (.iconst 4, 1) := by decide +kernel
theorem dCW_init_82 : decode cCW_init 82 = .ok (.aload_n 0, 1) := by decide +kernel
theorem dCW_init_83 : decode cCW_init 83 = .ok (.getfield 19, 3) := by decide +kernel
theorem dCW_init_86 : decode cCW_init 86 = .ok (.aastore, 1) := by decide +kernel
theorem dCW_init_87 : decode cCW_init 87 = .ok (.dup, 1) := by decide +kernel
theorem dCW_init_88 : decode cCW_init 88 = .ok (.iconst 5, 1) := by decide +kernel
theorem dCW_init_89 : decode cCW_init 89 = .ok (.new 41, 3) := by decide +kernel
theorem dCW_init_92 : decode cCW_init 92 = .ok (.dup, 1) := by decide +kernel
theorem dCW_init_93 : decode cCW_init 93 = .ok (.invokespecial 43, 3) := by decide +kernel
theorem dCW_init_96 : decode cCW_init 96 = .ok (.aastore, 1) := by decide +kernel
theorem dCW_init_97 : decode cCW_init 97 = .ok (.putfield 44, 3) := by decide +kernel
theorem dCW_init_100 : decode cCW_init 100 = .ok (.aload_n 0, 1) := by decide +kernel
theorem dCW_init_101 : decode cCW_init 101 = .ok (.bipush 7, 2) := by decide +kernel
theorem dCW_init_103 : decode cCW_init 103 = .ok (.anewarray 48, 3) := by decide +kernel
theorem dCW_init_106 : decode cCW_init 106 = .ok (.putfield 50, 3) := by decide +kernel
theorem dCW_init_109 : decode cCW_init 109 = .ok (.aload_n 0, 1) := by decide +kernel
theorem dCW_init_110 : decode cCW_init 110 = .ok (.bipush 20, 2) := by decide +kernel
theorem dCW_init_112 : decode cCW_init 112 = .ok (.newarray .int, 2) := by decide +kernel
theorem dCW_init_114 : decode cCW_init 114 = .ok (.putfield 54, 3) := by decide +kernel
theorem dCW_init_117 : decode cCW_init 117 = .ok (.aload_n 0, 1) := by decide +kernel
theorem dCW_init_118 : decode cCW_init 118 = .ok (.bipush 20, 2) := by decide +kernel
theorem dCW_init_120 : decode cCW_init 120 = .ok (.newarray .int, 2) := by decide +kernel
theorem dCW_init_122 : decode cCW_init 122 = .ok (.putfield 58, 3) := by decide +kernel
theorem dCW_init_125 : decode cCW_init 125 = .ok (.aload_n 0, 1) := by decide +kernel
theorem dCW_init_126 : decode cCW_init 126 = .ok (.new 61, 3) := by decide +kernel
theorem dCW_init_129 : decode cCW_init 129 = .ok (.dup, 1) := by decide +kernel
theorem dCW_init_130 : decode cCW_init 130 = .ok (.invokespecial 63, 3) := by decide +kernel
theorem dCW_init_133 : decode cCW_init 133 = .ok (.putfield 64, 3) := by decide +kernel
theorem dCW_init_136 : decode cCW_init 136 = .ok (.aload_n 0, 1) := by decide +kernel
theorem dCW_init_137 : decode cCW_init 137 = .ok (.new 61, 3) := by decide +kernel
theorem dCW_init_140 : decode cCW_init 140 = .ok (.dup, 1) := by decide +kernel
theorem dCW_init_141 : decode cCW_init 141 = .ok (.invokespecial 63, 3) := by decide +kernel
theorem dCW_init_144 : decode cCW_init 144 = .ok (.putfield 68, 3) := by decide +kernel
theorem dCW_init_147 : decode cCW_init 147 = .ok (.aload_n 0, 1) := by decide +kernel
theorem dCW_init_148 : decode cCW_init 148 = .ok (.getfield 10, 3) := by decide +kernel
theorem dCW_init_151 : decode cCW_init 151 = .ok (.aload_n 0, 1) := by decide +kernel
theorem dCW_init_152 : decode cCW_init 152 = .ok (.getfield 64, 3) := by decide +kernel
theorem dCW_init_155 : decode cCW_init 155 = .ok (.iconst 1, 1) := by decide +kernel
theorem dCW_init_156 : decode cCW_init 156 = .ok (.iconst 0, 1) := by decide +kernel
theorem dCW_init_157 : decode cCW_init 157 = .ok (.invokevirtual 71, 3) := by decide +kernel
theorem dCW_init_160 : decode cCW_init 160 = .ok (.return_, 1) := by decide +kernel
theorem dMO_init_0 : decode cMO_init 0 = .ok (.aload_n 0, 1) := by decide +kernel
theorem dMO_init_1 : decode cMO_init 1 = .ok (.invokespecial 1, 3) := by decide +kernel
theorem dMO_init_4 : decode cMO_init 4 = .ok (.aload_n 0, 1) := by decide +kernel
theorem dMO_init_5 : decode cMO_init 5 = .ok (.iconst 1, 1) := by decide +kernel
theorem dMO_init_6 : decode cMO_init 6 = .ok (.putfield 7, 3) := by decide +kernel
theorem dMO_init_9 : decode cMO_init 9 = .ok (.aload_n 0, 1) := by decide +kernel
theorem dMO_init_10 : decode cMO_init 10 = .ok (.bipush 18, 2) := by decide +kernel
theorem dMO_init_12 : decode cMO_init 12 = .ok (.newarray .int, 2) := by decide +kernel
theorem dMO_init_14 : decode cMO_init 14 = .ok (.putfield 13, 3) := by decide +kernel
theorem dMO_init_17 : decode cMO_init 17 = .ok (.aload_n 0, 1) := by decide +kernel
theorem dMO_init_18 : decode cMO_init 18 = .ok (.bipush 20, 2) := by decide +kernel
theorem dMO_init_20 : decode cMO_init 20 = .ok (.newarray .int, 2) := by decide +kernel
theorem dMO_init_22 : decode cMO_init 22 = .ok (.putfield 17, 3) := by decide +kernel
theorem dMO_init_25 : decode cMO_init 25 = .ok (.aload_n 0, 1) := by decide +kernel
theorem dMO_init_26 : decode cMO_init 26 = .ok (.bipush 18, 2) := by decide +kernel
theorem dMO_init_28 : decode cMO_init 28 = .ok (.newarray .int, 2) := by decide +kernel
theorem dMO_init_30 : decode cMO_init 30 = .ok (.putfield 20, 3) := by decide +kernel
theorem dMO_init_33 : decode cMO_init 33 = .ok (.aload_n 0, 1) := by decide +kernel
theorem dMO_init_34 : decode cMO_init 34 = .ok (.bipush 20, 2) := by decide +kernel
theorem dMO_init_36 : decode cMO_init 36 = .ok (.newarray .int, 2) := by decide +kernel
theorem dMO_init_38 : decode cMO_init 38 = .ok (.putfield 23, 3) := by decide +kernel
theorem dMO_init_41 : decode cMO_init 41 = .ok (.aload_n 0, 1) := by decide +kernel
theorem dMO_init_42 : decode cMO_init 42 = .ok (.bipush 20, 2) := by decide +kernel
theorem dMO_init_44 : decode cMO_init 44 = .ok (.newarray .int, 2) := by decide +kernel
theorem dMO_init_46 : decode cMO_init 46 = .ok (.putfield 26, 3) := by decide +kernel
theorem dMO_init_49 : decode cMO_init 49 = .ok (.aload_n 0, 1) := by decide +kernel
theorem dMO_init_50 : decode cMO_init 50 = .ok (.bipush 9, 2) := by decide +kernel
theorem dMO_init_52 : decode cMO_init 52 = .ok (.newarray .int, 2) := by decide +kernel
theorem dMO_init_54 : decode cMO_init 54 = .ok (.putfield 29, 3) := by decide +kernel
theorem dMO_init_57 : decode cMO_init 57 = .ok (.aload_n 0, 1) := by decide +kernel
theorem dMO_init_58 : decode cMO_init 58 = .ok (.bipush 9, 2) := by decide +kernel
theorem dMO_init_60 : decode cMO_init 60 = .ok (.newarray .int, 2) := by decide +kernel
theorem dMO_init_62 : decode cMO_init 62 = .ok (.putfield 32, 3) := by decide +kernel
theorem dMO_init_65 : decode cMO_init 65 = .ok (.aload_n 0, 1) := by decide +kernel
theorem dMO_init_66 : decode cMO_init 66 = .ok (.bipush 9, 2) := by decide +kernel
theorem dMO_init_68 : decode cMO_init 68 = .ok (.newarray .int, 2) := by decide +kernel
theorem dMO_init_70 : decode cMO_init 70 = .ok (.putfield 35, 3) := by decide +kernel
theorem dMO_init_73 : decode cMO_init 73 = .ok (.aload_n 0, 1) := by decide +kernel
theorem dMO_init_74 : decode cMO_init 74 = .ok (.bipush 9, 2) := by decide +kernel
theorem dMO_init_76 : decode cMO_init 76 = .ok (.newarray .int, 2) := by decide +kernel
theorem dMO_init_78 : decode cMO_init 78 = .ok (.putfield 38, 3) := by decide +kernel
theorem dMO_init_81 : decode cMO_init 81 = .ok (.aload_n 0, 1) := by decide +kernel
theorem dMO_init_82 : decode cMO_init 82 = .ok (.bipush 9, 2) := by decide +kernel
theorem dMO_init_84 : decode cMO_init 84 = .ok (.newarray .int, 2) := by decide +kernel
theorem dMO_init_86 : decode cMO_init 86 = .ok (.putfield 41, 3) := by decide +kernel
theorem dMO_init_89 : decode cMO_init 89 = .ok (.aload_n 0, 1) := by decide +kernel
theorem dMO_init_90 : decode cMO_init 90 = .ok (.bipush 10, 2) := by decide +kernel
theorem dMO_init_92 : decode cMO_init 92 = .ok (.newarray .int, 2) := by decide +kernel
theorem dMO_init_94 : decode cMO_init 94 = .ok (.putfield 44, 3) := by decide +kernel
theorem dMO_init_97 : decode cMO_init 97 = .ok (.aload_n 0, 1) := by decide +kernel
theorem dMO_init_98 : decode cMO_init 98 = .ok (.sipush 132, 3) := by decide +kernel
theorem dMO_init_101 : decode cMO_init 101 = .ok (.newarray .long, 2) := by decide +kernel
theorem dMO_init_103 : decode cMO_init 103 = .ok (.putfield 47, 3) := by decide +kernel
theorem dMO_init_106 : decode cMO_init 106 = .ok (.aload_n 0, 1) := by decide +kernel
theorem dMO_init_107 : decode cMO_init 107 = .ok (.sipush 132, 3) := by decide +kernel
theorem dMO_init_110 : decode cMO_init 110 = .ok (.newarray .int, 2) := by decide +kernel
theorem dMO_init_112 : decode cMO_init 112 = .ok (.putfield 51, 3) := by decide +kernel
theorem dMO_init_115 : decode cMO_init 115 = .ok (.aload_n 0, 1) := by decide +kernel
theorem dMO_init_116 : decode cMO_init 116 = .ok (.getfield 13, 3) := by decide +kernel
theorem dMO_init_119 : decode cMO_init 119 = .ok (.iconst 0, 1) := by decide +kernel
theorem dMO_init_120 : decode cMO_init 120 = .ok (.iconst 1, 1) := by decide +kernel
theorem dMO_init_121 : decode cMO_init 121 = .ok (.iastore, 1) := by decide +kernel
theorem dMO_init_122 : decode cMO_init 122 = .ok (.return_, 1) := by decide +kernel
