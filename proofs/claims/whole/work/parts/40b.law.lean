theorem wt1_0 : (Jvm.Cond.initialized "NeedleHomesLaw") ∈ TB := TB_t1 0 rfl rfl
theorem wt1_22 : (Jvm.Cond.classLink "NeedleHomesLaw" (7 : Nat) "NeedleHomes") ∈ TB := TB_t1 22 rfl rfl
theorem wt1_24 : (Jvm.Cond.methodLink "NeedleHomesLaw" (9 : Nat) ({ cls := "NeedleHomes", name := "<init>", desc := "()V" } : Jvm.MethodName)) ∈ TB := TB_t1 24 rfl rfl
theorem wt1_25 : (Jvm.Cond.instanceMethod ({ cls := "NeedleHomes", name := "<init>", desc := "()V" } : Jvm.MethodName)) ∈ TB := TB_t1 25 rfl rfl
theorem wt2_100 : (Jvm.Cond.selects "NeedleHomes" ({ cls := "NeedleHomes", name := "pattern", desc := "(II)I" } : Jvm.MethodName) ({ cls := "NeedleHomes", name := "pattern", desc := "(II)I" } : Jvm.MethodName)) ∈ TB := TB_t2 100 rfl rfl
theorem wt2_83 : (Jvm.Cond.methodLink "NeedleHomesLaw" (13 : Nat) ({ cls := "NeedleHomes", name := "feed", desc := "(IIIII)I" } : Jvm.MethodName)) ∈ TB := TB_t2 83 rfl rfl
theorem wt2_84 : (Jvm.Cond.instanceMethod ({ cls := "NeedleHomes", name := "feed", desc := "(IIIII)I" } : Jvm.MethodName)) ∈ TB := TB_t2 84 rfl rfl
theorem wt2_85 : (Jvm.Cond.selects "NeedleHomes" ({ cls := "NeedleHomes", name := "feed", desc := "(IIIII)I" } : Jvm.MethodName) ({ cls := "NeedleHomes", name := "feed", desc := "(IIIII)I" } : Jvm.MethodName)) ∈ TB := TB_t2 85 rfl rfl
theorem wt2_91 : (Jvm.Cond.methodLink "NeedleHomesLaw" (18 : Nat) ({ cls := "NeedleHomes", name := "end", desc := "(I)I" } : Jvm.MethodName)) ∈ TB := TB_t2 91 rfl rfl
theorem wt2_92 : (Jvm.Cond.instanceMethod ({ cls := "NeedleHomes", name := "end", desc := "(I)I" } : Jvm.MethodName)) ∈ TB := TB_t2 92 rfl rfl
theorem wt2_93 : (Jvm.Cond.selects "NeedleHomes" ({ cls := "NeedleHomes", name := "end", desc := "(I)I" } : Jvm.MethodName) ({ cls := "NeedleHomes", name := "end", desc := "(I)I" } : Jvm.MethodName)) ∈ TB := TB_t2 93 rfl rfl
theorem wt2_98 : (Jvm.Cond.methodLink "NeedleHomesLaw" (23 : Nat) ({ cls := "NeedleHomes", name := "pattern", desc := "(II)I" } : Jvm.MethodName)) ∈ TB := TB_t2 98 rfl rfl
theorem wt2_99 : (Jvm.Cond.instanceMethod ({ cls := "NeedleHomes", name := "pattern", desc := "(II)I" } : Jvm.MethodName)) ∈ TB := TB_t2 99 rfl rfl
theorem wt3_12 : (Jvm.Cond.methodLink "NeedleHomesLaw" (28 : Nat) ({ cls := "NeedleHomes", name := "list", desc := "(II)I" } : Jvm.MethodName)) ∈ TB := TB_t3 12 rfl rfl
theorem wt3_13 : (Jvm.Cond.instanceMethod ({ cls := "NeedleHomes", name := "list", desc := "(II)I" } : Jvm.MethodName)) ∈ TB := TB_t3 13 rfl rfl
theorem wt3_14 : (Jvm.Cond.selects "NeedleHomes" ({ cls := "NeedleHomes", name := "list", desc := "(II)I" } : Jvm.MethodName) ({ cls := "NeedleHomes", name := "list", desc := "(II)I" } : Jvm.MethodName)) ∈ TB := TB_t3 14 rfl rfl
theorem wt3_184 : (Jvm.Cond.methodLink "NeedleHomesLaw" (32 : Nat) ({ cls := "NeedleHomes", name := "fault", desc := "(I)I" } : Jvm.MethodName)) ∈ TB := TB_t3 184 rfl rfl
theorem wt3_185 : (Jvm.Cond.instanceMethod ({ cls := "NeedleHomes", name := "fault", desc := "(I)I" } : Jvm.MethodName)) ∈ TB := TB_t3 185 rfl rfl
theorem wt3_186 : (Jvm.Cond.selects "NeedleHomes" ({ cls := "NeedleHomes", name := "fault", desc := "(I)I" } : Jvm.MethodName) ({ cls := "NeedleHomes", name := "fault", desc := "(I)I" } : Jvm.MethodName)) ∈ TB := TB_t3 186 rfl rfl
theorem wt3_188 : (Jvm.Cond.methodLink "NeedleHomesLaw" (36 : Nat) ({ cls := "NeedleHomes", name := "stitches", desc := "(III)I" } : Jvm.MethodName)) ∈ TB := TB_t3 188 rfl rfl
theorem wt3_189 : (Jvm.Cond.instanceMethod ({ cls := "NeedleHomes", name := "stitches", desc := "(III)I" } : Jvm.MethodName)) ∈ TB := TB_t3 189 rfl rfl
theorem wt3_190 : (Jvm.Cond.selects "NeedleHomes" ({ cls := "NeedleHomes", name := "stitches", desc := "(III)I" } : Jvm.MethodName) ({ cls := "NeedleHomes", name := "stitches", desc := "(III)I" } : Jvm.MethodName)) ∈ TB := TB_t3 190 rfl rfl
theorem wt3_206 : (Jvm.Cond.methodLink "NeedleHomesLaw" (41 : Nat) ({ cls := "NeedleHomes", name := "about", desc := "(II)I" } : Jvm.MethodName)) ∈ TB := TB_t3 206 rfl rfl
theorem wt3_207 : (Jvm.Cond.instanceMethod ({ cls := "NeedleHomes", name := "about", desc := "(II)I" } : Jvm.MethodName)) ∈ TB := TB_t3 207 rfl rfl
theorem wt3_208 : (Jvm.Cond.selects "NeedleHomes" ({ cls := "NeedleHomes", name := "about", desc := "(II)I" } : Jvm.MethodName) ({ cls := "NeedleHomes", name := "about", desc := "(II)I" } : Jvm.MethodName)) ∈ TB := TB_t3 208 rfl rfl
theorem wt3_219 : (Jvm.Cond.methodLink "NeedleHomesLaw" (45 : Nat) ({ cls := "NeedleHomes", name := "day", desc := "(I)Z" } : Jvm.MethodName)) ∈ TB := TB_t3 219 rfl rfl
theorem wt3_220 : (Jvm.Cond.instanceMethod ({ cls := "NeedleHomes", name := "day", desc := "(I)Z" } : Jvm.MethodName)) ∈ TB := TB_t3 220 rfl rfl
theorem wt3_221 : (Jvm.Cond.selects "NeedleHomes" ({ cls := "NeedleHomes", name := "day", desc := "(I)Z" } : Jvm.MethodName) ({ cls := "NeedleHomes", name := "day", desc := "(I)Z" } : Jvm.MethodName)) ∈ TB := TB_t3 221 rfl rfl
theorem wt3_223 : (Jvm.Cond.methodLink "NeedleHomesLaw" (50 : Nat) ({ cls := "NeedleHomes", name := "lists", desc := "(III)I" } : Jvm.MethodName)) ∈ TB := TB_t3 223 rfl rfl
theorem wt3_224 : (Jvm.Cond.instanceMethod ({ cls := "NeedleHomes", name := "lists", desc := "(III)I" } : Jvm.MethodName)) ∈ TB := TB_t3 224 rfl rfl
theorem wt3_225 : (Jvm.Cond.selects "NeedleHomes" ({ cls := "NeedleHomes", name := "lists", desc := "(III)I" } : Jvm.MethodName) ({ cls := "NeedleHomes", name := "lists", desc := "(III)I" } : Jvm.MethodName)) ∈ TB := TB_t3 225 rfl rfl
theorem wt3_239 : (Jvm.Cond.methodLink "NeedleHomesLaw" (54 : Nat) ({ cls := "NeedleHomes", name := "hand", desc := "(III)I" } : Jvm.MethodName)) ∈ TB := TB_t3 239 rfl rfl
theorem wt4_0 : (Jvm.Cond.instanceMethod ({ cls := "NeedleHomes", name := "hand", desc := "(III)I" } : Jvm.MethodName)) ∈ TB := TB_t4 0 rfl rfl
theorem wt4_1 : (Jvm.Cond.selects "NeedleHomes" ({ cls := "NeedleHomes", name := "hand", desc := "(III)I" } : Jvm.MethodName) ({ cls := "NeedleHomes", name := "hand", desc := "(III)I" } : Jvm.MethodName)) ∈ TB := TB_t4 1 rfl rfl
theorem wt4_126 : (Jvm.Cond.methodLink "NeedleHomesLaw" (81 : Nat) ({ cls := "NeedleHomes", name := "out", desc := "(III)I" } : Jvm.MethodName)) ∈ TB := TB_t4 126 rfl rfl
theorem wt4_127 : (Jvm.Cond.instanceMethod ({ cls := "NeedleHomes", name := "out", desc := "(III)I" } : Jvm.MethodName)) ∈ TB := TB_t4 127 rfl rfl
theorem wt4_128 : (Jvm.Cond.selects "NeedleHomes" ({ cls := "NeedleHomes", name := "out", desc := "(III)I" } : Jvm.MethodName) ({ cls := "NeedleHomes", name := "out", desc := "(III)I" } : Jvm.MethodName)) ∈ TB := TB_t4 128 rfl rfl
theorem wt4_200 : (Jvm.Cond.methodLink "NeedleHomesLaw" (85 : Nat) ({ cls := "NeedleHomes", name := "in", desc := "(III)I" } : Jvm.MethodName)) ∈ TB := TB_t4 200 rfl rfl
theorem wt4_201 : (Jvm.Cond.instanceMethod ({ cls := "NeedleHomes", name := "in", desc := "(III)I" } : Jvm.MethodName)) ∈ TB := TB_t4 201 rfl rfl
theorem wt4_202 : (Jvm.Cond.selects "NeedleHomes" ({ cls := "NeedleHomes", name := "in", desc := "(III)I" } : Jvm.MethodName) ({ cls := "NeedleHomes", name := "in", desc := "(III)I" } : Jvm.MethodName)) ∈ TB := TB_t4 202 rfl rfl
theorem wt4_49 : (Jvm.Cond.methodLink "NeedleHomesLaw" (58 : Nat) ({ cls := "NeedleHomes", name := "habit", desc := "(III)Z" } : Jvm.MethodName)) ∈ TB := TB_t4 49 rfl rfl
theorem wt4_50 : (Jvm.Cond.instanceMethod ({ cls := "NeedleHomes", name := "habit", desc := "(III)Z" } : Jvm.MethodName)) ∈ TB := TB_t4 50 rfl rfl
theorem wt4_51 : (Jvm.Cond.selects "NeedleHomes" ({ cls := "NeedleHomes", name := "habit", desc := "(III)Z" } : Jvm.MethodName) ({ cls := "NeedleHomes", name := "habit", desc := "(III)Z" } : Jvm.MethodName)) ∈ TB := TB_t4 51 rfl rfl
theorem wt4_57 : (Jvm.Cond.methodLink "NeedleHomesLaw" (63 : Nat) ({ cls := "NeedleHomes", name := "hay", desc := "(IIZ)Z" } : Jvm.MethodName)) ∈ TB := TB_t4 57 rfl rfl
theorem wt4_58 : (Jvm.Cond.instanceMethod ({ cls := "NeedleHomes", name := "hay", desc := "(IIZ)Z" } : Jvm.MethodName)) ∈ TB := TB_t4 58 rfl rfl
theorem wt4_59 : (Jvm.Cond.selects "NeedleHomes" ({ cls := "NeedleHomes", name := "hay", desc := "(IIZ)Z" } : Jvm.MethodName) ({ cls := "NeedleHomes", name := "hay", desc := "(IIZ)Z" } : Jvm.MethodName)) ∈ TB := TB_t4 59 rfl rfl
theorem wt4_66 : (Jvm.Cond.methodLink "NeedleHomesLaw" (68 : Nat) ({ cls := "NeedleHomes", name := "advance", desc := "(II)I" } : Jvm.MethodName)) ∈ TB := TB_t4 66 rfl rfl
theorem wt4_67 : (Jvm.Cond.instanceMethod ({ cls := "NeedleHomes", name := "advance", desc := "(II)I" } : Jvm.MethodName)) ∈ TB := TB_t4 67 rfl rfl
theorem wt4_68 : (Jvm.Cond.selects "NeedleHomes" ({ cls := "NeedleHomes", name := "advance", desc := "(II)I" } : Jvm.MethodName) ({ cls := "NeedleHomes", name := "advance", desc := "(II)I" } : Jvm.MethodName)) ∈ TB := TB_t4 68 rfl rfl
theorem wt4_71 : (Jvm.Cond.methodLink "NeedleHomesLaw" (72 : Nat) ({ cls := "NeedleHomes", name := "tell", desc := "(II)I" } : Jvm.MethodName)) ∈ TB := TB_t4 71 rfl rfl
theorem wt4_72 : (Jvm.Cond.instanceMethod ({ cls := "NeedleHomes", name := "tell", desc := "(II)I" } : Jvm.MethodName)) ∈ TB := TB_t4 72 rfl rfl
theorem wt4_73 : (Jvm.Cond.selects "NeedleHomes" ({ cls := "NeedleHomes", name := "tell", desc := "(II)I" } : Jvm.MethodName) ({ cls := "NeedleHomes", name := "tell", desc := "(II)I" } : Jvm.MethodName)) ∈ TB := TB_t4 73 rfl rfl
theorem wt4_87 : (Jvm.Cond.methodLink "NeedleHomesLaw" (76 : Nat) ({ cls := "NeedleHomes", name := "term", desc := "(IIIIII)I" } : Jvm.MethodName)) ∈ TB := TB_t4 87 rfl rfl
theorem wt4_88 : (Jvm.Cond.instanceMethod ({ cls := "NeedleHomes", name := "term", desc := "(IIIIII)I" } : Jvm.MethodName)) ∈ TB := TB_t4 88 rfl rfl
theorem wt4_89 : (Jvm.Cond.selects "NeedleHomes" ({ cls := "NeedleHomes", name := "term", desc := "(IIIIII)I" } : Jvm.MethodName) ({ cls := "NeedleHomes", name := "term", desc := "(IIIIII)I" } : Jvm.MethodName)) ∈ TB := TB_t4 89 rfl rfl
theorem wt5_10 : (Jvm.Cond.methodLink "NeedleHomesLaw" (93 : Nat) ({ cls := "NeedleHomes", name := "bill", desc := "(III)I" } : Jvm.MethodName)) ∈ TB := TB_t5 10 rfl rfl
theorem wt5_100 : (Jvm.Cond.instanceMethod ({ cls := "NeedleHomes", name := "look", desc := "(IIII)Z" } : Jvm.MethodName)) ∈ TB := TB_t5 100 rfl rfl
theorem wt5_101 : (Jvm.Cond.selects "NeedleHomes" ({ cls := "NeedleHomes", name := "look", desc := "(IIII)Z" } : Jvm.MethodName) ({ cls := "NeedleHomes", name := "look", desc := "(IIII)Z" } : Jvm.MethodName)) ∈ TB := TB_t5 101 rfl rfl
theorem wt5_103 : (Jvm.Cond.methodLink "NeedleHomesLaw" (127 : Nat) ({ cls := "NeedleHomes", name := "unlike", desc := "(II)I" } : Jvm.MethodName)) ∈ TB := TB_t5 103 rfl rfl
theorem wt5_104 : (Jvm.Cond.instanceMethod ({ cls := "NeedleHomes", name := "unlike", desc := "(II)I" } : Jvm.MethodName)) ∈ TB := TB_t5 104 rfl rfl
theorem wt5_105 : (Jvm.Cond.selects "NeedleHomes" ({ cls := "NeedleHomes", name := "unlike", desc := "(II)I" } : Jvm.MethodName) ({ cls := "NeedleHomes", name := "unlike", desc := "(II)I" } : Jvm.MethodName)) ∈ TB := TB_t5 105 rfl rfl
theorem wt5_11 : (Jvm.Cond.instanceMethod ({ cls := "NeedleHomes", name := "bill", desc := "(III)I" } : Jvm.MethodName)) ∈ TB := TB_t5 11 rfl rfl
theorem wt5_114 : (Jvm.Cond.methodLink "NeedleHomesLaw" (131 : Nat) ({ cls := "NeedleHomes", name := "who", desc := "(II)I" } : Jvm.MethodName)) ∈ TB := TB_t5 114 rfl rfl
theorem wt5_115 : (Jvm.Cond.instanceMethod ({ cls := "NeedleHomes", name := "who", desc := "(II)I" } : Jvm.MethodName)) ∈ TB := TB_t5 115 rfl rfl
theorem wt5_116 : (Jvm.Cond.selects "NeedleHomes" ({ cls := "NeedleHomes", name := "who", desc := "(II)I" } : Jvm.MethodName) ({ cls := "NeedleHomes", name := "who", desc := "(II)I" } : Jvm.MethodName)) ∈ TB := TB_t5 116 rfl rfl
theorem wt5_12 : (Jvm.Cond.selects "NeedleHomes" ({ cls := "NeedleHomes", name := "bill", desc := "(III)I" } : Jvm.MethodName) ({ cls := "NeedleHomes", name := "bill", desc := "(III)I" } : Jvm.MethodName)) ∈ TB := TB_t5 12 rfl rfl
theorem wt5_128 : (Jvm.Cond.methodLink "NeedleHomesLaw" (135 : Nat) ({ cls := "NeedleHomes", name := "stolen", desc := "(III)I" } : Jvm.MethodName)) ∈ TB := TB_t5 128 rfl rfl
theorem wt5_129 : (Jvm.Cond.instanceMethod ({ cls := "NeedleHomes", name := "stolen", desc := "(III)I" } : Jvm.MethodName)) ∈ TB := TB_t5 129 rfl rfl
theorem wt5_130 : (Jvm.Cond.selects "NeedleHomes" ({ cls := "NeedleHomes", name := "stolen", desc := "(III)I" } : Jvm.MethodName) ({ cls := "NeedleHomes", name := "stolen", desc := "(III)I" } : Jvm.MethodName)) ∈ TB := TB_t5 130 rfl rfl
theorem wt5_14 : (Jvm.Cond.methodLink "NeedleHomesLaw" (97 : Nat) ({ cls := "NeedleHomes", name := "wronged", desc := "(II)I" } : Jvm.MethodName)) ∈ TB := TB_t5 14 rfl rfl
theorem wt5_140 : (Jvm.Cond.methodLink "NeedleHomesLaw" (139 : Nat) ({ cls := "NeedleHomes", name := "time", desc := "(II)Z" } : Jvm.MethodName)) ∈ TB := TB_t5 140 rfl rfl
theorem wt5_141 : (Jvm.Cond.instanceMethod ({ cls := "NeedleHomes", name := "time", desc := "(II)Z" } : Jvm.MethodName)) ∈ TB := TB_t5 141 rfl rfl
theorem wt5_142 : (Jvm.Cond.selects "NeedleHomes" ({ cls := "NeedleHomes", name := "time", desc := "(II)Z" } : Jvm.MethodName) ({ cls := "NeedleHomes", name := "time", desc := "(II)Z" } : Jvm.MethodName)) ∈ TB := TB_t5 142 rfl rfl
theorem wt5_144 : (Jvm.Cond.methodLink "NeedleHomesLaw" (144 : Nat) ({ cls := "NeedleHomes", name := "even", desc := "(III)I" } : Jvm.MethodName)) ∈ TB := TB_t5 144 rfl rfl
theorem wt5_145 : (Jvm.Cond.instanceMethod ({ cls := "NeedleHomes", name := "even", desc := "(III)I" } : Jvm.MethodName)) ∈ TB := TB_t5 145 rfl rfl
theorem wt5_146 : (Jvm.Cond.selects "NeedleHomes" ({ cls := "NeedleHomes", name := "even", desc := "(III)I" } : Jvm.MethodName) ({ cls := "NeedleHomes", name := "even", desc := "(III)I" } : Jvm.MethodName)) ∈ TB := TB_t5 146 rfl rfl
theorem wt5_15 : (Jvm.Cond.instanceMethod ({ cls := "NeedleHomes", name := "wronged", desc := "(II)I" } : Jvm.MethodName)) ∈ TB := TB_t5 15 rfl rfl
theorem wt5_16 : (Jvm.Cond.selects "NeedleHomes" ({ cls := "NeedleHomes", name := "wronged", desc := "(II)I" } : Jvm.MethodName) ({ cls := "NeedleHomes", name := "wronged", desc := "(II)I" } : Jvm.MethodName)) ∈ TB := TB_t5 16 rfl rfl
theorem wt5_184 : (Jvm.Cond.methodLink "NeedleHomesLaw" (148 : Nat) ({ cls := "NeedleHomes", name := "count", desc := "(I)I" } : Jvm.MethodName)) ∈ TB := TB_t5 184 rfl rfl
theorem wt5_185 : (Jvm.Cond.instanceMethod ({ cls := "NeedleHomes", name := "count", desc := "(I)I" } : Jvm.MethodName)) ∈ TB := TB_t5 185 rfl rfl
theorem wt5_186 : (Jvm.Cond.selects "NeedleHomes" ({ cls := "NeedleHomes", name := "count", desc := "(I)I" } : Jvm.MethodName) ({ cls := "NeedleHomes", name := "count", desc := "(I)I" } : Jvm.MethodName)) ∈ TB := TB_t5 186 rfl rfl
theorem wt5_19 : (Jvm.Cond.methodLink "NeedleHomesLaw" (101 : Nat) ({ cls := "NeedleHomes", name := "carried", desc := "(I)I" } : Jvm.MethodName)) ∈ TB := TB_t5 19 rfl rfl
theorem wt5_20 : (Jvm.Cond.instanceMethod ({ cls := "NeedleHomes", name := "carried", desc := "(I)I" } : Jvm.MethodName)) ∈ TB := TB_t5 20 rfl rfl
theorem wt5_201 : (Jvm.Cond.methodLink "NeedleHomesLaw" (152 : Nat) ({ cls := "NeedleHomes", name := "image", desc := "(I)Z" } : Jvm.MethodName)) ∈ TB := TB_t5 201 rfl rfl
theorem wt5_202 : (Jvm.Cond.instanceMethod ({ cls := "NeedleHomes", name := "image", desc := "(I)Z" } : Jvm.MethodName)) ∈ TB := TB_t5 202 rfl rfl
theorem wt5_203 : (Jvm.Cond.selects "NeedleHomes" ({ cls := "NeedleHomes", name := "image", desc := "(I)Z" } : Jvm.MethodName) ({ cls := "NeedleHomes", name := "image", desc := "(I)Z" } : Jvm.MethodName)) ∈ TB := TB_t5 203 rfl rfl
theorem wt5_21 : (Jvm.Cond.selects "NeedleHomes" ({ cls := "NeedleHomes", name := "carried", desc := "(I)I" } : Jvm.MethodName) ({ cls := "NeedleHomes", name := "carried", desc := "(I)I" } : Jvm.MethodName)) ∈ TB := TB_t5 21 rfl rfl
theorem wt5_23 : (Jvm.Cond.methodLink "NeedleHomesLaw" (105 : Nat) ({ cls := "NeedleHomes", name := "write", desc := "(IIII)Z" } : Jvm.MethodName)) ∈ TB := TB_t5 23 rfl rfl
theorem wt5_234 : (Jvm.Cond.methodLink "NeedleHomesLaw" (156 : Nat) ({ cls := "NeedleHomes", name := "again", desc := "(I)Z" } : Jvm.MethodName)) ∈ TB := TB_t5 234 rfl rfl
theorem wt5_235 : (Jvm.Cond.instanceMethod ({ cls := "NeedleHomes", name := "again", desc := "(I)Z" } : Jvm.MethodName)) ∈ TB := TB_t5 235 rfl rfl
theorem wt5_236 : (Jvm.Cond.selects "NeedleHomes" ({ cls := "NeedleHomes", name := "again", desc := "(I)Z" } : Jvm.MethodName) ({ cls := "NeedleHomes", name := "again", desc := "(I)Z" } : Jvm.MethodName)) ∈ TB := TB_t5 236 rfl rfl
theorem wt5_238 : (Jvm.Cond.classLink "NeedleHomesLaw" (10 : Nat) "NeedleHomesModel") ∈ TB := TB_t5 238 rfl rfl
theorem wt5_24 : (Jvm.Cond.instanceMethod ({ cls := "NeedleHomes", name := "write", desc := "(IIII)Z" } : Jvm.MethodName)) ∈ TB := TB_t5 24 rfl rfl
theorem wt5_25 : (Jvm.Cond.selects "NeedleHomes" ({ cls := "NeedleHomes", name := "write", desc := "(IIII)Z" } : Jvm.MethodName) ({ cls := "NeedleHomes", name := "write", desc := "(IIII)Z" } : Jvm.MethodName)) ∈ TB := TB_t5 25 rfl rfl
theorem wt5_27 : (Jvm.Cond.methodLink "NeedleHomesLaw" (110 : Nat) ({ cls := "NeedleHomes", name := "differ", desc := "(I)I" } : Jvm.MethodName)) ∈ TB := TB_t5 27 rfl rfl
theorem wt5_28 : (Jvm.Cond.instanceMethod ({ cls := "NeedleHomes", name := "differ", desc := "(I)I" } : Jvm.MethodName)) ∈ TB := TB_t5 28 rfl rfl
theorem wt5_29 : (Jvm.Cond.selects "NeedleHomes" ({ cls := "NeedleHomes", name := "differ", desc := "(I)I" } : Jvm.MethodName) ({ cls := "NeedleHomes", name := "differ", desc := "(I)I" } : Jvm.MethodName)) ∈ TB := TB_t5 29 rfl rfl
theorem wt5_35 : (Jvm.Cond.methodLink "NeedleHomesLaw" (114 : Nat) ({ cls := "NeedleHomes", name := "part", desc := "(IIII)I" } : Jvm.MethodName)) ∈ TB := TB_t5 35 rfl rfl
theorem wt5_36 : (Jvm.Cond.instanceMethod ({ cls := "NeedleHomes", name := "part", desc := "(IIII)I" } : Jvm.MethodName)) ∈ TB := TB_t5 36 rfl rfl
theorem wt5_37 : (Jvm.Cond.selects "NeedleHomes" ({ cls := "NeedleHomes", name := "part", desc := "(IIII)I" } : Jvm.MethodName) ({ cls := "NeedleHomes", name := "part", desc := "(IIII)I" } : Jvm.MethodName)) ∈ TB := TB_t5 37 rfl rfl
theorem wt5_6 : (Jvm.Cond.methodLink "NeedleHomesLaw" (89 : Nat) ({ cls := "NeedleHomes", name := "piece", desc := "(II)I" } : Jvm.MethodName)) ∈ TB := TB_t5 6 rfl rfl
theorem wt5_7 : (Jvm.Cond.instanceMethod ({ cls := "NeedleHomes", name := "piece", desc := "(II)I" } : Jvm.MethodName)) ∈ TB := TB_t5 7 rfl rfl
theorem wt5_8 : (Jvm.Cond.selects "NeedleHomes" ({ cls := "NeedleHomes", name := "piece", desc := "(II)I" } : Jvm.MethodName) ({ cls := "NeedleHomes", name := "piece", desc := "(II)I" } : Jvm.MethodName)) ∈ TB := TB_t5 8 rfl rfl
theorem wt5_90 : (Jvm.Cond.methodLink "NeedleHomesLaw" (119 : Nat) ({ cls := "NeedleHomes", name := "parted", desc := "(IIII)I" } : Jvm.MethodName)) ∈ TB := TB_t5 90 rfl rfl
theorem wt5_91 : (Jvm.Cond.instanceMethod ({ cls := "NeedleHomes", name := "parted", desc := "(IIII)I" } : Jvm.MethodName)) ∈ TB := TB_t5 91 rfl rfl
theorem wt5_92 : (Jvm.Cond.selects "NeedleHomes" ({ cls := "NeedleHomes", name := "parted", desc := "(IIII)I" } : Jvm.MethodName) ({ cls := "NeedleHomes", name := "parted", desc := "(IIII)I" } : Jvm.MethodName)) ∈ TB := TB_t5 92 rfl rfl
theorem wt5_99 : (Jvm.Cond.methodLink "NeedleHomesLaw" (123 : Nat) ({ cls := "NeedleHomes", name := "look", desc := "(IIII)Z" } : Jvm.MethodName)) ∈ TB := TB_t5 99 rfl rfl
theorem wt6_0 : (Jvm.Cond.methodLink "NeedleHomesLaw" (12 : Nat) ({ cls := "NeedleHomesModel", name := "<init>", desc := "()V" } : Jvm.MethodName)) ∈ TB := TB_t6 0 rfl rfl
theorem wt6_1 : (Jvm.Cond.instanceMethod ({ cls := "NeedleHomesModel", name := "<init>", desc := "()V" } : Jvm.MethodName)) ∈ TB := TB_t6 1 rfl rfl
theorem wt6_121 : (Jvm.Cond.methodLink "NeedleHomesLaw" (17 : Nat) ({ cls := "NeedleHomesModel", name := "feed", desc := "(IIIII)I" } : Jvm.MethodName)) ∈ TB := TB_t6 121 rfl rfl
theorem wt6_122 : (Jvm.Cond.instanceMethod ({ cls := "NeedleHomesModel", name := "feed", desc := "(IIIII)I" } : Jvm.MethodName)) ∈ TB := TB_t6 122 rfl rfl
theorem wt6_123 : (Jvm.Cond.selects "NeedleHomesModel" ({ cls := "NeedleHomesModel", name := "feed", desc := "(IIIII)I" } : Jvm.MethodName) ({ cls := "NeedleHomesModel", name := "feed", desc := "(IIIII)I" } : Jvm.MethodName)) ∈ TB := TB_t6 123 rfl rfl
theorem wt6_125 : (Jvm.Cond.methodLink "NeedleHomesLaw" (22 : Nat) ({ cls := "NeedleHomesModel", name := "end", desc := "(I)I" } : Jvm.MethodName)) ∈ TB := TB_t6 125 rfl rfl
theorem wt6_126 : (Jvm.Cond.instanceMethod ({ cls := "NeedleHomesModel", name := "end", desc := "(I)I" } : Jvm.MethodName)) ∈ TB := TB_t6 126 rfl rfl
theorem wt6_127 : (Jvm.Cond.selects "NeedleHomesModel" ({ cls := "NeedleHomesModel", name := "end", desc := "(I)I" } : Jvm.MethodName) ({ cls := "NeedleHomesModel", name := "end", desc := "(I)I" } : Jvm.MethodName)) ∈ TB := TB_t6 127 rfl rfl
theorem wt6_129 : (Jvm.Cond.methodLink "NeedleHomesLaw" (27 : Nat) ({ cls := "NeedleHomesModel", name := "pattern", desc := "(II)I" } : Jvm.MethodName)) ∈ TB := TB_t6 129 rfl rfl
theorem wt6_130 : (Jvm.Cond.instanceMethod ({ cls := "NeedleHomesModel", name := "pattern", desc := "(II)I" } : Jvm.MethodName)) ∈ TB := TB_t6 130 rfl rfl
theorem wt6_131 : (Jvm.Cond.selects "NeedleHomesModel" ({ cls := "NeedleHomesModel", name := "pattern", desc := "(II)I" } : Jvm.MethodName) ({ cls := "NeedleHomesModel", name := "pattern", desc := "(II)I" } : Jvm.MethodName)) ∈ TB := TB_t6 131 rfl rfl
theorem wt6_225 : (Jvm.Cond.methodLink "NeedleHomesLaw" (35 : Nat) ({ cls := "NeedleHomesModel", name := "fault", desc := "(I)I" } : Jvm.MethodName)) ∈ TB := TB_t6 225 rfl rfl
theorem wt6_226 : (Jvm.Cond.instanceMethod ({ cls := "NeedleHomesModel", name := "fault", desc := "(I)I" } : Jvm.MethodName)) ∈ TB := TB_t6 226 rfl rfl
theorem wt6_227 : (Jvm.Cond.selects "NeedleHomesModel" ({ cls := "NeedleHomesModel", name := "fault", desc := "(I)I" } : Jvm.MethodName) ({ cls := "NeedleHomesModel", name := "fault", desc := "(I)I" } : Jvm.MethodName)) ∈ TB := TB_t6 227 rfl rfl
theorem wt6_229 : (Jvm.Cond.methodLink "NeedleHomesLaw" (40 : Nat) ({ cls := "NeedleHomesModel", name := "stitches", desc := "(III)I" } : Jvm.MethodName)) ∈ TB := TB_t6 229 rfl rfl
theorem wt6_230 : (Jvm.Cond.instanceMethod ({ cls := "NeedleHomesModel", name := "stitches", desc := "(III)I" } : Jvm.MethodName)) ∈ TB := TB_t6 230 rfl rfl
theorem wt6_231 : (Jvm.Cond.selects "NeedleHomesModel" ({ cls := "NeedleHomesModel", name := "stitches", desc := "(III)I" } : Jvm.MethodName) ({ cls := "NeedleHomesModel", name := "stitches", desc := "(III)I" } : Jvm.MethodName)) ∈ TB := TB_t6 231 rfl rfl
theorem wt7_1 : (Jvm.Cond.methodLink "NeedleHomesLaw" (44 : Nat) ({ cls := "NeedleHomesModel", name := "about", desc := "(II)I" } : Jvm.MethodName)) ∈ TB := TB_t7 1 rfl rfl
theorem wt7_10 : (Jvm.Cond.selects "NeedleHomesModel" ({ cls := "NeedleHomesModel", name := "list", desc := "(II)I" } : Jvm.MethodName) ({ cls := "NeedleHomesModel", name := "list", desc := "(II)I" } : Jvm.MethodName)) ∈ TB := TB_t7 10 rfl rfl
theorem wt7_100 : (Jvm.Cond.methodLink "NeedleHomesLaw" (88 : Nat) ({ cls := "NeedleHomesModel", name := "in", desc := "(III)I" } : Jvm.MethodName)) ∈ TB := TB_t7 100 rfl rfl
theorem wt7_101 : (Jvm.Cond.instanceMethod ({ cls := "NeedleHomesModel", name := "in", desc := "(III)I" } : Jvm.MethodName)) ∈ TB := TB_t7 101 rfl rfl
theorem wt7_102 : (Jvm.Cond.selects "NeedleHomesModel" ({ cls := "NeedleHomesModel", name := "in", desc := "(III)I" } : Jvm.MethodName) ({ cls := "NeedleHomesModel", name := "in", desc := "(III)I" } : Jvm.MethodName)) ∈ TB := TB_t7 102 rfl rfl
theorem wt7_109 : (Jvm.Cond.methodLink "NeedleHomesLaw" (92 : Nat) ({ cls := "NeedleHomesModel", name := "piece", desc := "(II)I" } : Jvm.MethodName)) ∈ TB := TB_t7 109 rfl rfl
theorem wt7_110 : (Jvm.Cond.instanceMethod ({ cls := "NeedleHomesModel", name := "piece", desc := "(II)I" } : Jvm.MethodName)) ∈ TB := TB_t7 110 rfl rfl
theorem wt7_111 : (Jvm.Cond.selects "NeedleHomesModel" ({ cls := "NeedleHomesModel", name := "piece", desc := "(II)I" } : Jvm.MethodName) ({ cls := "NeedleHomesModel", name := "piece", desc := "(II)I" } : Jvm.MethodName)) ∈ TB := TB_t7 111 rfl rfl
theorem wt7_113 : (Jvm.Cond.methodLink "NeedleHomesLaw" (96 : Nat) ({ cls := "NeedleHomesModel", name := "bill", desc := "(III)I" } : Jvm.MethodName)) ∈ TB := TB_t7 113 rfl rfl
theorem wt7_114 : (Jvm.Cond.instanceMethod ({ cls := "NeedleHomesModel", name := "bill", desc := "(III)I" } : Jvm.MethodName)) ∈ TB := TB_t7 114 rfl rfl
theorem wt7_115 : (Jvm.Cond.selects "NeedleHomesModel" ({ cls := "NeedleHomesModel", name := "bill", desc := "(III)I" } : Jvm.MethodName) ({ cls := "NeedleHomesModel", name := "bill", desc := "(III)I" } : Jvm.MethodName)) ∈ TB := TB_t7 115 rfl rfl
theorem wt7_121 : (Jvm.Cond.methodLink "NeedleHomesLaw" (100 : Nat) ({ cls := "NeedleHomesModel", name := "wronged", desc := "(II)I" } : Jvm.MethodName)) ∈ TB := TB_t7 121 rfl rfl
theorem wt7_122 : (Jvm.Cond.instanceMethod ({ cls := "NeedleHomesModel", name := "wronged", desc := "(II)I" } : Jvm.MethodName)) ∈ TB := TB_t7 122 rfl rfl
theorem wt7_123 : (Jvm.Cond.selects "NeedleHomesModel" ({ cls := "NeedleHomesModel", name := "wronged", desc := "(II)I" } : Jvm.MethodName) ({ cls := "NeedleHomesModel", name := "wronged", desc := "(II)I" } : Jvm.MethodName)) ∈ TB := TB_t7 123 rfl rfl
theorem wt7_126 : (Jvm.Cond.methodLink "NeedleHomesLaw" (104 : Nat) ({ cls := "NeedleHomesModel", name := "carried", desc := "(I)I" } : Jvm.MethodName)) ∈ TB := TB_t7 126 rfl rfl
theorem wt7_127 : (Jvm.Cond.instanceMethod ({ cls := "NeedleHomesModel", name := "carried", desc := "(I)I" } : Jvm.MethodName)) ∈ TB := TB_t7 127 rfl rfl
theorem wt7_128 : (Jvm.Cond.selects "NeedleHomesModel" ({ cls := "NeedleHomesModel", name := "carried", desc := "(I)I" } : Jvm.MethodName) ({ cls := "NeedleHomesModel", name := "carried", desc := "(I)I" } : Jvm.MethodName)) ∈ TB := TB_t7 128 rfl rfl
theorem wt7_130 : (Jvm.Cond.methodLink "NeedleHomesLaw" (109 : Nat) ({ cls := "NeedleHomesModel", name := "write", desc := "(IIII)Z" } : Jvm.MethodName)) ∈ TB := TB_t7 130 rfl rfl
theorem wt7_131 : (Jvm.Cond.instanceMethod ({ cls := "NeedleHomesModel", name := "write", desc := "(IIII)Z" } : Jvm.MethodName)) ∈ TB := TB_t7 131 rfl rfl
theorem wt7_132 : (Jvm.Cond.selects "NeedleHomesModel" ({ cls := "NeedleHomesModel", name := "write", desc := "(IIII)Z" } : Jvm.MethodName) ({ cls := "NeedleHomesModel", name := "write", desc := "(IIII)Z" } : Jvm.MethodName)) ∈ TB := TB_t7 132 rfl rfl
theorem wt7_134 : (Jvm.Cond.methodLink "NeedleHomesLaw" (113 : Nat) ({ cls := "NeedleHomesModel", name := "differ", desc := "(I)I" } : Jvm.MethodName)) ∈ TB := TB_t7 134 rfl rfl
theorem wt7_135 : (Jvm.Cond.instanceMethod ({ cls := "NeedleHomesModel", name := "differ", desc := "(I)I" } : Jvm.MethodName)) ∈ TB := TB_t7 135 rfl rfl
theorem wt7_136 : (Jvm.Cond.selects "NeedleHomesModel" ({ cls := "NeedleHomesModel", name := "differ", desc := "(I)I" } : Jvm.MethodName) ({ cls := "NeedleHomesModel", name := "differ", desc := "(I)I" } : Jvm.MethodName)) ∈ TB := TB_t7 136 rfl rfl
theorem wt7_142 : (Jvm.Cond.methodLink "NeedleHomesLaw" (118 : Nat) ({ cls := "NeedleHomesModel", name := "part", desc := "(IIII)I" } : Jvm.MethodName)) ∈ TB := TB_t7 142 rfl rfl
theorem wt7_143 : (Jvm.Cond.instanceMethod ({ cls := "NeedleHomesModel", name := "part", desc := "(IIII)I" } : Jvm.MethodName)) ∈ TB := TB_t7 143 rfl rfl
theorem wt7_144 : (Jvm.Cond.selects "NeedleHomesModel" ({ cls := "NeedleHomesModel", name := "part", desc := "(IIII)I" } : Jvm.MethodName) ({ cls := "NeedleHomesModel", name := "part", desc := "(IIII)I" } : Jvm.MethodName)) ∈ TB := TB_t7 144 rfl rfl
theorem wt7_162 : (Jvm.Cond.methodLink "NeedleHomesLaw" (122 : Nat) ({ cls := "NeedleHomesModel", name := "parted", desc := "(IIII)I" } : Jvm.MethodName)) ∈ TB := TB_t7 162 rfl rfl
theorem wt7_163 : (Jvm.Cond.instanceMethod ({ cls := "NeedleHomesModel", name := "parted", desc := "(IIII)I" } : Jvm.MethodName)) ∈ TB := TB_t7 163 rfl rfl
theorem wt7_164 : (Jvm.Cond.selects "NeedleHomesModel" ({ cls := "NeedleHomesModel", name := "parted", desc := "(IIII)I" } : Jvm.MethodName) ({ cls := "NeedleHomesModel", name := "parted", desc := "(IIII)I" } : Jvm.MethodName)) ∈ TB := TB_t7 164 rfl rfl
theorem wt7_166 : (Jvm.Cond.methodLink "NeedleHomesLaw" (126 : Nat) ({ cls := "NeedleHomesModel", name := "look", desc := "(IIII)Z" } : Jvm.MethodName)) ∈ TB := TB_t7 166 rfl rfl
theorem wt7_167 : (Jvm.Cond.instanceMethod ({ cls := "NeedleHomesModel", name := "look", desc := "(IIII)Z" } : Jvm.MethodName)) ∈ TB := TB_t7 167 rfl rfl
theorem wt7_168 : (Jvm.Cond.selects "NeedleHomesModel" ({ cls := "NeedleHomesModel", name := "look", desc := "(IIII)Z" } : Jvm.MethodName) ({ cls := "NeedleHomesModel", name := "look", desc := "(IIII)Z" } : Jvm.MethodName)) ∈ TB := TB_t7 168 rfl rfl
theorem wt7_170 : (Jvm.Cond.methodLink "NeedleHomesLaw" (130 : Nat) ({ cls := "NeedleHomesModel", name := "unlike", desc := "(II)I" } : Jvm.MethodName)) ∈ TB := TB_t7 170 rfl rfl
theorem wt7_171 : (Jvm.Cond.instanceMethod ({ cls := "NeedleHomesModel", name := "unlike", desc := "(II)I" } : Jvm.MethodName)) ∈ TB := TB_t7 171 rfl rfl
theorem wt7_172 : (Jvm.Cond.selects "NeedleHomesModel" ({ cls := "NeedleHomesModel", name := "unlike", desc := "(II)I" } : Jvm.MethodName) ({ cls := "NeedleHomesModel", name := "unlike", desc := "(II)I" } : Jvm.MethodName)) ∈ TB := TB_t7 172 rfl rfl
theorem wt7_178 : (Jvm.Cond.methodLink "NeedleHomesLaw" (134 : Nat) ({ cls := "NeedleHomesModel", name := "who", desc := "(II)I" } : Jvm.MethodName)) ∈ TB := TB_t7 178 rfl rfl
theorem wt7_179 : (Jvm.Cond.instanceMethod ({ cls := "NeedleHomesModel", name := "who", desc := "(II)I" } : Jvm.MethodName)) ∈ TB := TB_t7 179 rfl rfl
theorem wt7_180 : (Jvm.Cond.selects "NeedleHomesModel" ({ cls := "NeedleHomesModel", name := "who", desc := "(II)I" } : Jvm.MethodName) ({ cls := "NeedleHomesModel", name := "who", desc := "(II)I" } : Jvm.MethodName)) ∈ TB := TB_t7 180 rfl rfl
theorem wt7_182 : (Jvm.Cond.methodLink "NeedleHomesLaw" (138 : Nat) ({ cls := "NeedleHomesModel", name := "stolen", desc := "(III)I" } : Jvm.MethodName)) ∈ TB := TB_t7 182 rfl rfl
theorem wt7_183 : (Jvm.Cond.instanceMethod ({ cls := "NeedleHomesModel", name := "stolen", desc := "(III)I" } : Jvm.MethodName)) ∈ TB := TB_t7 183 rfl rfl
theorem wt7_184 : (Jvm.Cond.selects "NeedleHomesModel" ({ cls := "NeedleHomesModel", name := "stolen", desc := "(III)I" } : Jvm.MethodName) ({ cls := "NeedleHomesModel", name := "stolen", desc := "(III)I" } : Jvm.MethodName)) ∈ TB := TB_t7 184 rfl rfl
theorem wt7_190 : (Jvm.Cond.methodLink "NeedleHomesLaw" (143 : Nat) ({ cls := "NeedleHomesModel", name := "time", desc := "(II)Z" } : Jvm.MethodName)) ∈ TB := TB_t7 190 rfl rfl
theorem wt7_191 : (Jvm.Cond.instanceMethod ({ cls := "NeedleHomesModel", name := "time", desc := "(II)Z" } : Jvm.MethodName)) ∈ TB := TB_t7 191 rfl rfl
theorem wt7_192 : (Jvm.Cond.selects "NeedleHomesModel" ({ cls := "NeedleHomesModel", name := "time", desc := "(II)Z" } : Jvm.MethodName) ({ cls := "NeedleHomesModel", name := "time", desc := "(II)Z" } : Jvm.MethodName)) ∈ TB := TB_t7 192 rfl rfl
theorem wt7_194 : (Jvm.Cond.methodLink "NeedleHomesLaw" (147 : Nat) ({ cls := "NeedleHomesModel", name := "even", desc := "(III)I" } : Jvm.MethodName)) ∈ TB := TB_t7 194 rfl rfl
theorem wt7_195 : (Jvm.Cond.instanceMethod ({ cls := "NeedleHomesModel", name := "even", desc := "(III)I" } : Jvm.MethodName)) ∈ TB := TB_t7 195 rfl rfl
theorem wt7_196 : (Jvm.Cond.selects "NeedleHomesModel" ({ cls := "NeedleHomesModel", name := "even", desc := "(III)I" } : Jvm.MethodName) ({ cls := "NeedleHomesModel", name := "even", desc := "(III)I" } : Jvm.MethodName)) ∈ TB := TB_t7 196 rfl rfl
theorem wt7_2 : (Jvm.Cond.instanceMethod ({ cls := "NeedleHomesModel", name := "about", desc := "(II)I" } : Jvm.MethodName)) ∈ TB := TB_t7 2 rfl rfl
theorem wt7_202 : (Jvm.Cond.methodLink "NeedleHomesLaw" (151 : Nat) ({ cls := "NeedleHomesModel", name := "count", desc := "(I)I" } : Jvm.MethodName)) ∈ TB := TB_t7 202 rfl rfl
theorem wt7_203 : (Jvm.Cond.instanceMethod ({ cls := "NeedleHomesModel", name := "count", desc := "(I)I" } : Jvm.MethodName)) ∈ TB := TB_t7 203 rfl rfl
theorem wt7_204 : (Jvm.Cond.selects "NeedleHomesModel" ({ cls := "NeedleHomesModel", name := "count", desc := "(I)I" } : Jvm.MethodName) ({ cls := "NeedleHomesModel", name := "count", desc := "(I)I" } : Jvm.MethodName)) ∈ TB := TB_t7 204 rfl rfl
theorem wt7_206 : (Jvm.Cond.methodLink "NeedleHomesLaw" (155 : Nat) ({ cls := "NeedleHomesModel", name := "image", desc := "(I)Z" } : Jvm.MethodName)) ∈ TB := TB_t7 206 rfl rfl
theorem wt7_207 : (Jvm.Cond.instanceMethod ({ cls := "NeedleHomesModel", name := "image", desc := "(I)Z" } : Jvm.MethodName)) ∈ TB := TB_t7 207 rfl rfl
theorem wt7_208 : (Jvm.Cond.selects "NeedleHomesModel" ({ cls := "NeedleHomesModel", name := "image", desc := "(I)Z" } : Jvm.MethodName) ({ cls := "NeedleHomesModel", name := "image", desc := "(I)Z" } : Jvm.MethodName)) ∈ TB := TB_t7 208 rfl rfl
theorem wt7_210 : (Jvm.Cond.methodLink "NeedleHomesLaw" (159 : Nat) ({ cls := "NeedleHomesModel", name := "again", desc := "(I)Z" } : Jvm.MethodName)) ∈ TB := TB_t7 210 rfl rfl
theorem wt7_211 : (Jvm.Cond.instanceMethod ({ cls := "NeedleHomesModel", name := "again", desc := "(I)Z" } : Jvm.MethodName)) ∈ TB := TB_t7 211 rfl rfl
theorem wt7_212 : (Jvm.Cond.selects "NeedleHomesModel" ({ cls := "NeedleHomesModel", name := "again", desc := "(I)Z" } : Jvm.MethodName) ({ cls := "NeedleHomesModel", name := "again", desc := "(I)Z" } : Jvm.MethodName)) ∈ TB := TB_t7 212 rfl rfl
theorem wt7_24 : (Jvm.Cond.methodLink "NeedleHomesLaw" (53 : Nat) ({ cls := "NeedleHomesModel", name := "lists", desc := "(III)I" } : Jvm.MethodName)) ∈ TB := TB_t7 24 rfl rfl
theorem wt7_25 : (Jvm.Cond.instanceMethod ({ cls := "NeedleHomesModel", name := "lists", desc := "(III)I" } : Jvm.MethodName)) ∈ TB := TB_t7 25 rfl rfl
theorem wt7_26 : (Jvm.Cond.selects "NeedleHomesModel" ({ cls := "NeedleHomesModel", name := "lists", desc := "(III)I" } : Jvm.MethodName) ({ cls := "NeedleHomesModel", name := "lists", desc := "(III)I" } : Jvm.MethodName)) ∈ TB := TB_t7 26 rfl rfl
theorem wt7_3 : (Jvm.Cond.selects "NeedleHomesModel" ({ cls := "NeedleHomesModel", name := "about", desc := "(II)I" } : Jvm.MethodName) ({ cls := "NeedleHomesModel", name := "about", desc := "(II)I" } : Jvm.MethodName)) ∈ TB := TB_t7 3 rfl rfl
theorem wt7_32 : (Jvm.Cond.methodLink "NeedleHomesLaw" (49 : Nat) ({ cls := "NeedleHomesModel", name := "day", desc := "(I)Z" } : Jvm.MethodName)) ∈ TB := TB_t7 32 rfl rfl
theorem wt7_33 : (Jvm.Cond.instanceMethod ({ cls := "NeedleHomesModel", name := "day", desc := "(I)Z" } : Jvm.MethodName)) ∈ TB := TB_t7 33 rfl rfl
theorem wt7_34 : (Jvm.Cond.selects "NeedleHomesModel" ({ cls := "NeedleHomesModel", name := "day", desc := "(I)Z" } : Jvm.MethodName) ({ cls := "NeedleHomesModel", name := "day", desc := "(I)Z" } : Jvm.MethodName)) ∈ TB := TB_t7 34 rfl rfl
theorem wt7_36 : (Jvm.Cond.methodLink "NeedleHomesLaw" (80 : Nat) ({ cls := "NeedleHomesModel", name := "term", desc := "(IIIIII)I" } : Jvm.MethodName)) ∈ TB := TB_t7 36 rfl rfl
theorem wt7_37 : (Jvm.Cond.instanceMethod ({ cls := "NeedleHomesModel", name := "term", desc := "(IIIIII)I" } : Jvm.MethodName)) ∈ TB := TB_t7 37 rfl rfl
theorem wt7_38 : (Jvm.Cond.selects "NeedleHomesModel" ({ cls := "NeedleHomesModel", name := "term", desc := "(IIIIII)I" } : Jvm.MethodName) ({ cls := "NeedleHomesModel", name := "term", desc := "(IIIIII)I" } : Jvm.MethodName)) ∈ TB := TB_t7 38 rfl rfl
theorem wt7_71 : (Jvm.Cond.methodLink "NeedleHomesLaw" (57 : Nat) ({ cls := "NeedleHomesModel", name := "hand", desc := "(III)I" } : Jvm.MethodName)) ∈ TB := TB_t7 71 rfl rfl
theorem wt7_72 : (Jvm.Cond.instanceMethod ({ cls := "NeedleHomesModel", name := "hand", desc := "(III)I" } : Jvm.MethodName)) ∈ TB := TB_t7 72 rfl rfl
theorem wt7_73 : (Jvm.Cond.selects "NeedleHomesModel" ({ cls := "NeedleHomesModel", name := "hand", desc := "(III)I" } : Jvm.MethodName) ({ cls := "NeedleHomesModel", name := "hand", desc := "(III)I" } : Jvm.MethodName)) ∈ TB := TB_t7 73 rfl rfl
theorem wt7_75 : (Jvm.Cond.methodLink "NeedleHomesLaw" (62 : Nat) ({ cls := "NeedleHomesModel", name := "habit", desc := "(III)Z" } : Jvm.MethodName)) ∈ TB := TB_t7 75 rfl rfl
theorem wt7_76 : (Jvm.Cond.instanceMethod ({ cls := "NeedleHomesModel", name := "habit", desc := "(III)Z" } : Jvm.MethodName)) ∈ TB := TB_t7 76 rfl rfl
theorem wt7_77 : (Jvm.Cond.selects "NeedleHomesModel" ({ cls := "NeedleHomesModel", name := "habit", desc := "(III)Z" } : Jvm.MethodName) ({ cls := "NeedleHomesModel", name := "habit", desc := "(III)Z" } : Jvm.MethodName)) ∈ TB := TB_t7 77 rfl rfl
theorem wt7_79 : (Jvm.Cond.methodLink "NeedleHomesLaw" (67 : Nat) ({ cls := "NeedleHomesModel", name := "hay", desc := "(IIZ)Z" } : Jvm.MethodName)) ∈ TB := TB_t7 79 rfl rfl
theorem wt7_8 : (Jvm.Cond.methodLink "NeedleHomesLaw" (31 : Nat) ({ cls := "NeedleHomesModel", name := "list", desc := "(II)I" } : Jvm.MethodName)) ∈ TB := TB_t7 8 rfl rfl
theorem wt7_80 : (Jvm.Cond.instanceMethod ({ cls := "NeedleHomesModel", name := "hay", desc := "(IIZ)Z" } : Jvm.MethodName)) ∈ TB := TB_t7 80 rfl rfl
theorem wt7_81 : (Jvm.Cond.selects "NeedleHomesModel" ({ cls := "NeedleHomesModel", name := "hay", desc := "(IIZ)Z" } : Jvm.MethodName) ({ cls := "NeedleHomesModel", name := "hay", desc := "(IIZ)Z" } : Jvm.MethodName)) ∈ TB := TB_t7 81 rfl rfl
theorem wt7_83 : (Jvm.Cond.methodLink "NeedleHomesLaw" (71 : Nat) ({ cls := "NeedleHomesModel", name := "advance", desc := "(II)I" } : Jvm.MethodName)) ∈ TB := TB_t7 83 rfl rfl
theorem wt7_84 : (Jvm.Cond.instanceMethod ({ cls := "NeedleHomesModel", name := "advance", desc := "(II)I" } : Jvm.MethodName)) ∈ TB := TB_t7 84 rfl rfl
theorem wt7_85 : (Jvm.Cond.selects "NeedleHomesModel" ({ cls := "NeedleHomesModel", name := "advance", desc := "(II)I" } : Jvm.MethodName) ({ cls := "NeedleHomesModel", name := "advance", desc := "(II)I" } : Jvm.MethodName)) ∈ TB := TB_t7 85 rfl rfl
theorem wt7_88 : (Jvm.Cond.methodLink "NeedleHomesLaw" (75 : Nat) ({ cls := "NeedleHomesModel", name := "tell", desc := "(II)I" } : Jvm.MethodName)) ∈ TB := TB_t7 88 rfl rfl
theorem wt7_89 : (Jvm.Cond.instanceMethod ({ cls := "NeedleHomesModel", name := "tell", desc := "(II)I" } : Jvm.MethodName)) ∈ TB := TB_t7 89 rfl rfl
theorem wt7_9 : (Jvm.Cond.instanceMethod ({ cls := "NeedleHomesModel", name := "list", desc := "(II)I" } : Jvm.MethodName)) ∈ TB := TB_t7 9 rfl rfl
theorem wt7_90 : (Jvm.Cond.selects "NeedleHomesModel" ({ cls := "NeedleHomesModel", name := "tell", desc := "(II)I" } : Jvm.MethodName) ({ cls := "NeedleHomesModel", name := "tell", desc := "(II)I" } : Jvm.MethodName)) ∈ TB := TB_t7 90 rfl rfl
theorem wt7_96 : (Jvm.Cond.methodLink "NeedleHomesLaw" (84 : Nat) ({ cls := "NeedleHomesModel", name := "out", desc := "(III)I" } : Jvm.MethodName)) ∈ TB := TB_t7 96 rfl rfl
theorem wt7_97 : (Jvm.Cond.instanceMethod ({ cls := "NeedleHomesModel", name := "out", desc := "(III)I" } : Jvm.MethodName)) ∈ TB := TB_t7 97 rfl rfl
theorem wt7_98 : (Jvm.Cond.selects "NeedleHomesModel" ({ cls := "NeedleHomesModel", name := "out", desc := "(III)I" } : Jvm.MethodName) ({ cls := "NeedleHomesModel", name := "out", desc := "(III)I" } : Jvm.MethodName)) ∈ TB := TB_t7 98 rfl rfl
def sx {Rt : Type} (L : Nat) (xs : Nat → Int32) (i : Int32) (k : Int32 → St → Option (Rt × St)) : St → Option (Rt × St) := fun S => if 0 ≤ i ∧ i.toNatClampNeg < L then k (xs i.toNatClampNeg) S else none
theorem sn_xlen {Rt : Type} {E : Ev} {l : Launch} {X : Mx} {rv : Rt → Option Value} {pc : Nat} {lv : List (Nat × Value)} {st : List Value} {k : St → Option (Rt × St)} (hd : decode X.2.2.1 pc = .ok (.arraylength, 1)) (h : Snd E l X rv (pc + 1) lv (.int (Int32.ofNat E.2.2.2.2.2.2.1) :: st) (k)) : Snd E l X rv (pc) lv (.ref E.2.2.2.2.2.1 :: st) (k) :=
  h.go2 (fun p e R s m args below meth c C H locs ls _ _ _ hS hl kk => va_slen C.1 C.2.1 C.2.2.2.2.2.1.2.2.2.2.2.2.2.2.1 (Nat.lt_of_lt_of_le C.2.2.2.2.2.1.2.2.2.2.2.2.2.2.2.1 C.2.2.2.2.2.1.2.2.2.2.2.2.2.2.2.2) (Nat.not_le.mpr C.2.2.2.2.2.1.2.2.2.2.2.2.2.2.2.1) hS hd (kk ls hl))
theorem sn_xld {Rt : Type} {E : Ev} {l : Launch} {X : Mx} {rv : Rt → Option Value} {pc : Nat} {lv : List (Nat × Value)} {st : List Value} {i : Int32} {k : Int32 → St → Option (Rt × St)} (hd : decode X.2.2.1 pc = .ok (.iaload, 1)) (h : ∀ v, Snd E l X rv (pc + 1) lv (.int v :: st) (k v)) : Snd E l X rv (pc) lv (.int i :: .ref E.2.2.2.2.2.1 :: st) (sx E.2.2.2.2.2.2.1 E.2.2.2.2.2.2.2 i k) :=
  ⟨mono_get (fun v => (h v).1) (fun S => 0 ≤ i ∧ i.toNatClampNeg < E.2.2.2.2.2.2.1) (fun S => E.2.2.2.2.2.2.2 i.toNatClampNeg) (fun S => S) (fun _ _ => Nat.le_refl _) (fun _ _ => Nat.le_refl _), fun p e R s m args below meth c C n0 m0 S H locs ls r S' hP hS hl h1 h2 hk hc hs => by
    unfold sx at hk
    split at hk
    · rename_i hK
      exact va_sld C.1 C.2.1 C.2.2.2.2.2.1.2.2.2.2.2.2.2.2.1 (Nat.lt_of_lt_of_le C.2.2.2.2.2.1.2.2.2.2.2.2.2.2.2.1 C.2.2.2.2.2.1.2.2.2.2.2.2.2.2.2.2) (Nat.not_le.mpr C.2.2.2.2.2.1.2.2.2.2.2.2.2.2.2.1) hS (inb_vp hK.1 hK.2) hd ((h _).2 p e R s m args below meth c C n0 m0 S H locs ls r S' hP hS hl h1 h2 hk hc hs)
    · cases hk⟩
abbrev dpL_law : Nat := 12
def fL_law_1494 (L : Nat) (xs : Nat → Int32) (k18 : (Option Nat × Option Nat × Int32) → St → Option (Bool × St)) (x1 : Option Nat) (x2 : Option Nat) (x3 : Int32) : St → Option (Bool × St) :=
 k18 (x1, x2, (x3 + 7))
set_option maxHeartbeats 4000000 in
set_option maxRecDepth 100000 in
theorem sfL_law_1494 {E : Ev} {l : Launch} {nm : String} (k18 : (Option Nat × Option Nat × Int32) → St → Option (Bool × St)) (hk18 : ∀ p : Option Nat × Option Nat × Int32, Snd E l (dpL_law, RL, cL_law, 4, (some .boolean), nm) rvZ 18 [(0, .ref E.2.2.2.2.2.1), (1, rf E.1 p.1), (2, rf E.1 p.2.1), (3, .int p.2.2)] [] (k18 p)) (x1 : Option Nat) (x2 : Option Nat) (x3 : Int32) : Snd E l (dpL_law, RL, cL_law, 4, (some .boolean), nm) rvZ 1494 [(0, .ref E.2.2.2.2.2.1), (1, rf E.1 x1), (2, rf E.1 x2), (3, .int x3)] [] (fL_law_1494 E.2.2.2.2.2.2.1 E.2.2.2.2.2.2.2 k18 x1 x2 x3) := by
  unfold fL_law_1494
  refine sn_iinc (pc := 1494) (v := x3 + 7) (lv' := [(3, .int (x3 + 7)), (0, .ref E.2.2.2.2.2.1), (1, rf E.1 x1), (2, rf E.1 x2)]) (j := 3) dL_law_1494 rfl rfl (Nat.le_of_ble_eq_true rfl) (by simp [rf_some, rf_cat, cat_int, cat_long, cat_ref]) ?_
  refine sn_goto (pc := 1497) (tgt := 18) dL_law_1497 (by decide) ?_
  exact sn_sub (lv' := [(0, .ref E.2.2.2.2.2.1), (1, rf E.1 x1), (2, rf E.1 x2), (3, .int (x3 + 7))]) [1, 2, 3, 0] rfl (hk18 (x1, x2, (x3 + 7)))
def fL_law_638 (L : Nat) (xs : Nat → Int32) (k18 : (Option Nat × Option Nat × Int32) → St → Option (Bool × St)) (x1 : Option Nat) (x2 : Option Nat) (x3 : Int32) (y0 : Int32) (y1 : Int32) (y2 : Int32) (y3 : Option Nat) (y4 : Int32) : St → Option (Bool × St) :=
 nn y3 fun a3001 =>
 ck 13 a3001 <| cl (fX12_hay a3001 y2 y1 y0) fun v3002 =>
 br (y4 = (bi v3002)) (fL_law_1494 L xs k18 x1 x2 x3)
 (rtZ 0)
set_option maxHeartbeats 4000000 in
set_option maxRecDepth 100000 in
theorem sfL_law_638 {E : Ev} {l : Launch} {nm : String} (k18 : (Option Nat × Option Nat × Int32) → St → Option (Bool × St)) (hk18 : ∀ p : Option Nat × Option Nat × Int32, Snd E l (dpL_law, RL, cL_law, 4, (some .boolean), nm) rvZ 18 [(0, .ref E.2.2.2.2.2.1), (1, rf E.1 p.1), (2, rf E.1 p.2.1), (3, .int p.2.2)] [] (k18 p)) (x1 : Option Nat) (x2 : Option Nat) (x3 : Int32) (y0 : Int32) (y1 : Int32) (y2 : Int32) (y3 : Option Nat) (y4 : Int32) : Snd E l (dpL_law, RL, cL_law, 4, (some .boolean), nm) rvZ 638 [(0, .ref E.2.2.2.2.2.1), (1, rf E.1 x1), (2, rf E.1 x2), (3, .int x3)] [.int y0, .int y1, .int y2, rf E.1 y3, .int y4] (fL_law_638 E.2.2.2.2.2.2.1 E.2.2.2.2.2.2.2 k18 x1 x2 x3 y0 y1 y2 y3 y4) := by
  unfold fL_law_638
  rcases y3 with _ | a3001
  · exact sn_no
  refine sn_nn ?_
  refine sn_callV (ci := 12) (pc := 638) dL_law_638 iX12_hay wt7_80 wt7_81 wt7_79 ⟨_, rfl, rfl⟩ (by decide) (mX12_hay a3001 y2 y1 y0) (Nat.le_of_ble_eq_true rfl) rfl rfl (Nat.le_of_ble_eq_true rfl) (fun v3002 => ?_)
  refine sn_icmp_eq (pc := 641) (tgt := 1494) dL_law_641 (by decide) ?_ ?_
  · exact sn_sub (lv' := [(0, .ref E.2.2.2.2.2.1), (1, rf E.1 x1), (2, rf E.1 x2), (3, .int x3)]) [0, 1, 2, 3] rfl (sfL_law_1494 k18 hk18 x1 x2 x3)
  · refine sn_iconst (pc := 644) (v := 0) dL_law_644 (by decide) ?_
    exact sn_zret (pc := 645) dL_law_645 rfl
def fL_law_611 (L : Nat) (xs : Nat → Int32) (k18 : (Option Nat × Option Nat × Int32) → St → Option (Bool × St)) (x1 : Option Nat) (x2 : Option Nat) (x3 : Int32) (y0 : Int32) (y1 : Int32) (y2 : Int32) (y3 : Option Nat) : St → Option (Bool × St) :=
 nn y3 fun a2001 =>
 ck 12 a2001 <| cl (fX11_hay a2001 y2 y1 y0) fun v2002 =>
 sx L xs (x3 + 1) fun v2003 =>
 sx L xs (x3 + 2) fun v2004 =>
 sx L xs (x3 + 3) fun v2005 =>
 br (v2005 = 0) (fL_law_638 L xs k18 x1 x2 x3 0 v2004 v2003 x2 (bi v2002))
 (fL_law_638 L xs k18 x1 x2 x3 1 v2004 v2003 x2 (bi v2002))
set_option maxHeartbeats 4000000 in
set_option maxRecDepth 100000 in
theorem sfL_law_611 {E : Ev} {l : Launch} {nm : String} (k18 : (Option Nat × Option Nat × Int32) → St → Option (Bool × St)) (hk18 : ∀ p : Option Nat × Option Nat × Int32, Snd E l (dpL_law, RL, cL_law, 4, (some .boolean), nm) rvZ 18 [(0, .ref E.2.2.2.2.2.1), (1, rf E.1 p.1), (2, rf E.1 p.2.1), (3, .int p.2.2)] [] (k18 p)) (x1 : Option Nat) (x2 : Option Nat) (x3 : Int32) (y0 : Int32) (y1 : Int32) (y2 : Int32) (y3 : Option Nat) : Snd E l (dpL_law, RL, cL_law, 4, (some .boolean), nm) rvZ 611 [(0, .ref E.2.2.2.2.2.1), (1, rf E.1 x1), (2, rf E.1 x2), (3, .int x3)] [.int y0, .int y1, .int y2, rf E.1 y3] (fL_law_611 E.2.2.2.2.2.2.1 E.2.2.2.2.2.2.2 k18 x1 x2 x3 y0 y1 y2 y3) := by
  unfold fL_law_611
  rcases y3 with _ | a2001
  · exact sn_no
  refine sn_nn ?_
  refine sn_callV (ci := 11) (pc := 611) dL_law_611 iX11_hay wt4_58 wt4_59 wt4_57 ⟨_, rfl, rfl⟩ (by decide) (mX11_hay a2001 y2 y1 y0) (Nat.le_of_ble_eq_true rfl) rfl rfl (Nat.le_of_ble_eq_true rfl) (fun v2002 => ?_)
  refine sn_aloadR_n (pc := 614) (r := x2) (j := 2) dL_law_614 rfl rfl ?_
  refine sn_aload_n (pc := 615) (j := 0) dL_law_615 rfl rfl ?_
  refine sn_iload_n (pc := 616) (j := 3) dL_law_616 rfl rfl ?_
  refine sn_iconst (pc := 617) (v := 1) dL_law_617 (by decide) ?_
  refine sn_iadd (pc := 618) dL_law_618 ?_
  refine sn_xld (pc := 619) dL_law_619 (fun v2003 => ?_)
  refine sn_aload_n (pc := 620) (j := 0) dL_law_620 rfl rfl ?_
  refine sn_iload_n (pc := 621) (j := 3) dL_law_621 rfl rfl ?_
  refine sn_iconst (pc := 622) (v := 2) dL_law_622 (by decide) ?_
  refine sn_iadd (pc := 623) dL_law_623 ?_
  refine sn_xld (pc := 624) dL_law_624 (fun v2004 => ?_)
  refine sn_aload_n (pc := 625) (j := 0) dL_law_625 rfl rfl ?_
  refine sn_iload_n (pc := 626) (j := 3) dL_law_626 rfl rfl ?_
  refine sn_iconst (pc := 627) (v := 3) dL_law_627 (by decide) ?_
  refine sn_iadd (pc := 628) dL_law_628 ?_
  refine sn_xld (pc := 629) dL_law_629 (fun v2005 => ?_)
  refine sn_if_eq (pc := 630) (tgt := 637) dL_law_630 (by decide) ?_ ?_
  · refine sn_iconst (pc := 637) (v := 0) dL_law_637 (by decide) ?_
    exact sn_sub (lv' := [(0, .ref E.2.2.2.2.2.1), (1, rf E.1 x1), (2, rf E.1 x2), (3, .int x3)]) [0, 1, 2, 3] rfl (sfL_law_638 k18 hk18 x1 x2 x3 0 v2004 v2003 x2 (bi v2002))
  · refine sn_iconst (pc := 633) (v := 1) dL_law_633 (by decide) ?_
    refine sn_goto (pc := 634) (tgt := 638) dL_law_634 (by decide) ?_
    exact sn_sub (lv' := [(0, .ref E.2.2.2.2.2.1), (1, rf E.1 x1), (2, rf E.1 x2), (3, .int x3)]) [0, 1, 2, 3] rfl (sfL_law_638 k18 hk18 x1 x2 x3 1 v2004 v2003 x2 (bi v2002))
def fL_law_18 (L : Nat) (xs : Nat → Int32) (k18 : (Option Nat × Option Nat × Int32) → St → Option (Bool × St)) (x1 : Option Nat) (x2 : Option Nat) (x3 : Int32) : St → Option (Bool × St) :=
 br (((Int32.ofNat L) - 7) < x3) (rtZ 1)
 (sx L xs x3 fun v1002 =>
 br ((v1002 &&& 63) = 0) (sx L xs (x3 + 1) fun v1003 =>
 sx L xs (x3 + 2) fun v1004 =>
 sx L xs (x3 + 3) fun v1005 =>
 sx L xs (x3 + 4) fun v1006 =>
 sx L xs (x3 + 5) fun v1007 =>
 nn x1 fun a1008 =>
 ck 12 a1008 <| cl (fX11_feed a1008 v1003 v1004 v1005 v1006 v1007) fun v1009 =>
 sx L xs (x3 + 1) fun v1010 =>
 sx L xs (x3 + 2) fun v1011 =>
 sx L xs (x3 + 3) fun v1012 =>
 sx L xs (x3 + 4) fun v1013 =>
 sx L xs (x3 + 5) fun v1014 =>
 nn x2 fun a1015 =>
 ck 13 a1015 <| cl (fX12_feed a1015 v1010 v1011 v1012 v1013 v1014) fun v1016 =>
 br (v1009 = v1016) (fL_law_1494 L xs k18 (some a1008) (some a1015) x3)
 (rtZ 0)) <|
 br ((v1002 &&& 63) = 1) (sx L xs (x3 + 1) fun v1017 =>
 nn x1 fun a1018 =>
 ck 12 a1018 <| cl (fX11_end a1018 v1017) fun v1019 =>
 sx L xs (x3 + 1) fun v1020 =>
 nn x2 fun a1021 =>
 ck 13 a1021 <| cl (fX12_end a1021 v1020) fun v1022 =>
 br (v1019 = v1022) (fL_law_1494 L xs k18 (some a1018) (some a1021) x3)
 (rtZ 0)) <|
 br ((v1002 &&& 63) = 2) (sx L xs (x3 + 1) fun v1023 =>
 sx L xs (x3 + 2) fun v1024 =>
 nn x1 fun a1025 =>
 ck 12 a1025 <| cl (fX11_pattern a1025 v1023 v1024) fun v1026 =>
 sx L xs (x3 + 1) fun v1027 =>
 sx L xs (x3 + 2) fun v1028 =>
 nn x2 fun a1029 =>
 ck 13 a1029 <| cl (fX12_pattern a1029 v1027 v1028) fun v1030 =>
 br (v1026 = v1030) (fL_law_1494 L xs k18 (some a1025) (some a1029) x3)
 (rtZ 0)) <|
 br ((v1002 &&& 63) = 3) (sx L xs (x3 + 1) fun v1031 =>
 sx L xs (x3 + 2) fun v1032 =>
 nn x1 fun a1033 =>
 ck 12 a1033 <| cl (fX11_list a1033 v1031 v1032) fun v1034 =>
 sx L xs (x3 + 1) fun v1035 =>
 sx L xs (x3 + 2) fun v1036 =>
 nn x2 fun a1037 =>
 ck 13 a1037 <| cl (fX12_list a1037 v1035 v1036) fun v1038 =>
 br (v1034 = v1038) (fL_law_1494 L xs k18 (some a1033) (some a1037) x3)
 (rtZ 0)) <|
 br ((v1002 &&& 63) = 4) (sx L xs (x3 + 1) fun v1039 =>
 nn x1 fun a1040 =>
 ck 12 a1040 <| cl (fX11_fault a1040 v1039) fun v1041 =>
 sx L xs (x3 + 1) fun v1042 =>
 nn x2 fun a1043 =>
 ck 13 a1043 <| cl (fX12_fault a1043 v1042) fun v1044 =>
 br (v1041 = v1044) (fL_law_1494 L xs k18 (some a1040) (some a1043) x3)
 (rtZ 0)) <|
 br ((v1002 &&& 63) = 5) (sx L xs (x3 + 1) fun v1045 =>
 sx L xs (x3 + 2) fun v1046 =>
 sx L xs (x3 + 3) fun v1047 =>
 nn x1 fun a1048 =>
 ck 12 a1048 <| cl (fX11_stitches a1048 v1045 v1046 v1047) fun v1049 =>
 sx L xs (x3 + 1) fun v1050 =>
 sx L xs (x3 + 2) fun v1051 =>
 sx L xs (x3 + 3) fun v1052 =>
 nn x2 fun a1053 =>
 ck 13 a1053 <| cl (fX12_stitches a1053 v1050 v1051 v1052) fun v1054 =>
 br (v1049 = v1054) (fL_law_1494 L xs k18 (some a1048) (some a1053) x3)
 (rtZ 0)) <|
 br ((v1002 &&& 63) = 6) (sx L xs (x3 + 1) fun v1055 =>
 sx L xs (x3 + 2) fun v1056 =>
 nn x1 fun a1057 =>
 ck 12 a1057 <| cl (fX11_about a1057 v1055 v1056) fun v1058 =>
 sx L xs (x3 + 1) fun v1059 =>
 sx L xs (x3 + 2) fun v1060 =>
 nn x2 fun a1061 =>
 ck 13 a1061 <| cl (fX12_about a1061 v1059 v1060) fun v1062 =>
 br (v1058 = v1062) (fL_law_1494 L xs k18 (some a1057) (some a1061) x3)
 (rtZ 0)) <|
 br ((v1002 &&& 63) = 7) (sx L xs (x3 + 1) fun v1063 =>
 nn x1 fun a1064 =>
 ck 12 a1064 <| cl (fX11_day a1064 v1063) fun v1065 =>
 sx L xs (x3 + 1) fun v1066 =>
 nn x2 fun a1067 =>
 ck 13 a1067 <| cl (fX12_day a1067 v1066) fun v1068 =>
 br ((bi v1065) = (bi v1068)) (fL_law_1494 L xs k18 (some a1064) (some a1067) x3)
 (rtZ 0)) <|
 br ((v1002 &&& 63) = 8) (sx L xs (x3 + 1) fun v1069 =>
 sx L xs (x3 + 2) fun v1070 =>
 sx L xs (x3 + 3) fun v1071 =>
 nn x1 fun a1072 =>
 ck 12 a1072 <| cl (fX11_lists a1072 v1069 v1070 v1071) fun v1073 =>
 sx L xs (x3 + 1) fun v1074 =>
 sx L xs (x3 + 2) fun v1075 =>
 sx L xs (x3 + 3) fun v1076 =>
 nn x2 fun a1077 =>
 ck 13 a1077 <| cl (fX12_lists a1077 v1074 v1075 v1076) fun v1078 =>
 br (v1073 = v1078) (fL_law_1494 L xs k18 (some a1072) (some a1077) x3)
 (rtZ 0)) <|
 br ((v1002 &&& 63) = 9) (sx L xs (x3 + 1) fun v1079 =>
 sx L xs (x3 + 2) fun v1080 =>
 sx L xs (x3 + 3) fun v1081 =>
 nn x1 fun a1082 =>
 ck 12 a1082 <| cl (fX11_hand a1082 v1079 v1080 v1081) fun v1083 =>
 sx L xs (x3 + 1) fun v1084 =>
 sx L xs (x3 + 2) fun v1085 =>
 sx L xs (x3 + 3) fun v1086 =>
 nn x2 fun a1087 =>
 ck 13 a1087 <| cl (fX12_hand a1087 v1084 v1085 v1086) fun v1088 =>
 br (v1083 = v1088) (fL_law_1494 L xs k18 (some a1082) (some a1087) x3)
 (rtZ 0)) <|
 br ((v1002 &&& 63) = 10) (sx L xs (x3 + 1) fun v1089 =>
 sx L xs (x3 + 2) fun v1090 =>
 sx L xs (x3 + 3) fun v1091 =>
 nn x1 fun a1092 =>
 ck 12 a1092 <| cl (fX11_habit a1092 v1089 v1090 v1091) fun v1093 =>
 sx L xs (x3 + 1) fun v1094 =>
 sx L xs (x3 + 2) fun v1095 =>
 sx L xs (x3 + 3) fun v1096 =>
 nn x2 fun a1097 =>
 ck 13 a1097 <| cl (fX12_habit a1097 v1094 v1095 v1096) fun v1098 =>
 br ((bi v1093) = (bi v1098)) (fL_law_1494 L xs k18 (some a1092) (some a1097) x3)
 (rtZ 0)) <|
 br ((v1002 &&& 63) = 11) (sx L xs (x3 + 1) fun v1099 =>
 sx L xs (x3 + 2) fun v1100 =>
 sx L xs (x3 + 3) fun v1101 =>
 br (v1101 = 0) (fL_law_611 L xs k18 x1 x2 x3 0 v1100 v1099 x1)
 (fL_law_611 L xs k18 x1 x2 x3 1 v1100 v1099 x1)) <|
 br ((v1002 &&& 63) = 12) (sx L xs (x3 + 1) fun v1102 =>
 sx L xs (x3 + 2) fun v1103 =>
 nn x1 fun a1104 =>
 ck 12 a1104 <| cl (fX11_advance a1104 v1102 v1103) fun v1105 =>
 sx L xs (x3 + 1) fun v1106 =>
 sx L xs (x3 + 2) fun v1107 =>
 nn x2 fun a1108 =>
 ck 13 a1108 <| cl (fX12_advance a1108 v1106 v1107) fun v1109 =>
 br (v1105 = v1109) (fL_law_1494 L xs k18 (some a1104) (some a1108) x3)
 (rtZ 0)) <|
 br ((v1002 &&& 63) = 13) (sx L xs (x3 + 1) fun v1110 =>
 sx L xs (x3 + 2) fun v1111 =>
 nn x1 fun a1112 =>
 ck 12 a1112 <| cl (fX11_tell a1112 v1110 v1111) fun v1113 =>
 sx L xs (x3 + 1) fun v1114 =>
 sx L xs (x3 + 2) fun v1115 =>
 nn x2 fun a1116 =>
 ck 13 a1116 <| cl (fX12_tell a1116 v1114 v1115) fun v1117 =>
 br (v1113 = v1117) (fL_law_1494 L xs k18 (some a1112) (some a1116) x3)
 (rtZ 0)) <|
 br ((v1002 &&& 63) = 14) (sx L xs (x3 + 1) fun v1118 =>
 sx L xs (x3 + 2) fun v1119 =>
 sx L xs (x3 + 3) fun v1120 =>
 sx L xs (x3 + 4) fun v1121 =>
 sx L xs (x3 + 5) fun v1122 =>
 sx L xs (x3 + 6) fun v1123 =>
 nn x1 fun a1124 =>
 ck 12 a1124 <| cl (fX11_term a1124 v1118 v1119 v1120 v1121 v1122 v1123) fun v1125 =>
 sx L xs (x3 + 1) fun v1126 =>
 sx L xs (x3 + 2) fun v1127 =>
 sx L xs (x3 + 3) fun v1128 =>
 sx L xs (x3 + 4) fun v1129 =>
 sx L xs (x3 + 5) fun v1130 =>
 sx L xs (x3 + 6) fun v1131 =>
 nn x2 fun a1132 =>
 ck 13 a1132 <| cl (fX12_term a1132 v1126 v1127 v1128 v1129 v1130 v1131) fun v1133 =>
 br (v1125 = v1133) (fL_law_1494 L xs k18 (some a1124) (some a1132) x3)
 (rtZ 0)) <|
 br ((v1002 &&& 63) = 15) (sx L xs (x3 + 1) fun v1134 =>
 sx L xs (x3 + 2) fun v1135 =>
 sx L xs (x3 + 3) fun v1136 =>
 nn x1 fun a1137 =>
 ck 12 a1137 <| cl (fX11_out a1137 v1134 v1135 v1136) fun v1138 =>
 sx L xs (x3 + 1) fun v1139 =>
 sx L xs (x3 + 2) fun v1140 =>
 sx L xs (x3 + 3) fun v1141 =>
 nn x2 fun a1142 =>
 ck 13 a1142 <| cl (fX12_out a1142 v1139 v1140 v1141) fun v1143 =>
 br (v1138 = v1143) (fL_law_1494 L xs k18 (some a1137) (some a1142) x3)
 (rtZ 0)) <|
 br ((v1002 &&& 63) = 16) (sx L xs (x3 + 1) fun v1144 =>
 sx L xs (x3 + 2) fun v1145 =>
 sx L xs (x3 + 3) fun v1146 =>
 nn x1 fun a1147 =>
 ck 12 a1147 <| cl (fX11_in a1147 v1144 v1145 v1146) fun v1148 =>
 sx L xs (x3 + 1) fun v1149 =>
 sx L xs (x3 + 2) fun v1150 =>
 sx L xs (x3 + 3) fun v1151 =>
 nn x2 fun a1152 =>
 ck 13 a1152 <| cl (fX12_in a1152 v1149 v1150 v1151) fun v1153 =>
 br (v1148 = v1153) (fL_law_1494 L xs k18 (some a1147) (some a1152) x3)
 (rtZ 0)) <|
 br ((v1002 &&& 63) = 17) (sx L xs (x3 + 1) fun v1154 =>
 sx L xs (x3 + 2) fun v1155 =>
 nn x1 fun a1156 =>
 ck 12 a1156 <| cl (fX11_piece a1156 v1154 v1155) fun v1157 =>
 sx L xs (x3 + 1) fun v1158 =>
 sx L xs (x3 + 2) fun v1159 =>
 nn x2 fun a1160 =>
 ck 13 a1160 <| cl (fX12_piece a1160 v1158 v1159) fun v1161 =>
 br (v1157 = v1161) (fL_law_1494 L xs k18 (some a1156) (some a1160) x3)
 (rtZ 0)) <|
 br ((v1002 &&& 63) = 18) (sx L xs (x3 + 1) fun v1162 =>
 sx L xs (x3 + 2) fun v1163 =>
 sx L xs (x3 + 3) fun v1164 =>
 nn x1 fun a1165 =>
 ck 12 a1165 <| cl (fX11_bill a1165 v1162 v1163 v1164) fun v1166 =>
 sx L xs (x3 + 1) fun v1167 =>
 sx L xs (x3 + 2) fun v1168 =>
 sx L xs (x3 + 3) fun v1169 =>
 nn x2 fun a1170 =>
 ck 13 a1170 <| cl (fX12_bill a1170 v1167 v1168 v1169) fun v1171 =>
 br (v1166 = v1171) (fL_law_1494 L xs k18 (some a1165) (some a1170) x3)
 (rtZ 0)) <|
 br ((v1002 &&& 63) = 19) (sx L xs (x3 + 1) fun v1172 =>
 sx L xs (x3 + 2) fun v1173 =>
 nn x1 fun a1174 =>
 ck 12 a1174 <| cl (fX11_wronged a1174 v1172 v1173) fun v1175 =>
 sx L xs (x3 + 1) fun v1176 =>
 sx L xs (x3 + 2) fun v1177 =>
 nn x2 fun a1178 =>
 ck 13 a1178 <| cl (fX12_wronged a1178 v1176 v1177) fun v1179 =>
 br (v1175 = v1179) (fL_law_1494 L xs k18 (some a1174) (some a1178) x3)
 (rtZ 0)) <|
 br ((v1002 &&& 63) = 20) (sx L xs (x3 + 1) fun v1180 =>
 nn x1 fun a1181 =>
 ck 12 a1181 <| cl (fX11_carried a1181 v1180) fun v1182 =>
 sx L xs (x3 + 1) fun v1183 =>
 nn x2 fun a1184 =>
 ck 13 a1184 <| cl (fX12_carried a1184 v1183) fun v1185 =>
 br (v1182 = v1185) (fL_law_1494 L xs k18 (some a1181) (some a1184) x3)
 (rtZ 0)) <|
 br ((v1002 &&& 63) = 21) (sx L xs (x3 + 1) fun v1186 =>
 sx L xs (x3 + 2) fun v1187 =>
 sx L xs (x3 + 3) fun v1188 =>
 sx L xs (x3 + 4) fun v1189 =>
 nn x1 fun a1190 =>
 ck 12 a1190 <| cl (fX11_write a1190 v1186 v1187 v1188 v1189) fun v1191 =>
 sx L xs (x3 + 1) fun v1192 =>
 sx L xs (x3 + 2) fun v1193 =>
 sx L xs (x3 + 3) fun v1194 =>
 sx L xs (x3 + 4) fun v1195 =>
 nn x2 fun a1196 =>
 ck 13 a1196 <| cl (fX12_write a1196 v1192 v1193 v1194 v1195) fun v1197 =>
 br ((bi v1191) = (bi v1197)) (fL_law_1494 L xs k18 (some a1190) (some a1196) x3)
 (rtZ 0)) <|
 br ((v1002 &&& 63) = 22) (sx L xs (x3 + 1) fun v1198 =>
 nn x1 fun a1199 =>
 ck 12 a1199 <| cl (fX11_differ a1199 v1198) fun v1200 =>
 sx L xs (x3 + 1) fun v1201 =>
 nn x2 fun a1202 =>
 ck 13 a1202 <| cl (fX12_differ a1202 v1201) fun v1203 =>
 br (v1200 = v1203) (fL_law_1494 L xs k18 (some a1199) (some a1202) x3)
 (rtZ 0)) <|
 br ((v1002 &&& 63) = 23) (sx L xs (x3 + 1) fun v1204 =>
 sx L xs (x3 + 2) fun v1205 =>
 sx L xs (x3 + 3) fun v1206 =>
 sx L xs (x3 + 4) fun v1207 =>
 nn x1 fun a1208 =>
 ck 12 a1208 <| cl (fX11_part a1208 v1204 v1205 v1206 v1207) fun v1209 =>
 sx L xs (x3 + 1) fun v1210 =>
 sx L xs (x3 + 2) fun v1211 =>
 sx L xs (x3 + 3) fun v1212 =>
 sx L xs (x3 + 4) fun v1213 =>
 nn x2 fun a1214 =>
 ck 13 a1214 <| cl (fX12_part a1214 v1210 v1211 v1212 v1213) fun v1215 =>
 br (v1209 = v1215) (fL_law_1494 L xs k18 (some a1208) (some a1214) x3)
 (rtZ 0)) <|
 br ((v1002 &&& 63) = 24) (sx L xs (x3 + 1) fun v1216 =>
 sx L xs (x3 + 2) fun v1217 =>
 sx L xs (x3 + 3) fun v1218 =>
 sx L xs (x3 + 4) fun v1219 =>
 nn x1 fun a1220 =>
 ck 12 a1220 <| cl (fX11_parted a1220 v1216 v1217 v1218 v1219) fun v1221 =>
 sx L xs (x3 + 1) fun v1222 =>
 sx L xs (x3 + 2) fun v1223 =>
 sx L xs (x3 + 3) fun v1224 =>
 sx L xs (x3 + 4) fun v1225 =>
 nn x2 fun a1226 =>
 ck 13 a1226 <| cl (fX12_parted a1226 v1222 v1223 v1224 v1225) fun v1227 =>
 br (v1221 = v1227) (fL_law_1494 L xs k18 (some a1220) (some a1226) x3)
 (rtZ 0)) <|
 br ((v1002 &&& 63) = 25) (sx L xs (x3 + 1) fun v1228 =>
 sx L xs (x3 + 2) fun v1229 =>
 sx L xs (x3 + 3) fun v1230 =>
 sx L xs (x3 + 4) fun v1231 =>
 nn x1 fun a1232 =>
 ck 12 a1232 <| cl (fX11_look a1232 v1228 v1229 v1230 v1231) fun v1233 =>
 sx L xs (x3 + 1) fun v1234 =>
 sx L xs (x3 + 2) fun v1235 =>
 sx L xs (x3 + 3) fun v1236 =>
 sx L xs (x3 + 4) fun v1237 =>
 nn x2 fun a1238 =>
 ck 13 a1238 <| cl (fX12_look a1238 v1234 v1235 v1236 v1237) fun v1239 =>
 br ((bi v1233) = (bi v1239)) (fL_law_1494 L xs k18 (some a1232) (some a1238) x3)
 (rtZ 0)) <|
 br ((v1002 &&& 63) = 26) (sx L xs (x3 + 1) fun v1240 =>
 sx L xs (x3 + 2) fun v1241 =>
 nn x1 fun a1242 =>
 ck 12 a1242 <| cl (fX11_unlike a1242 v1240 v1241) fun v1243 =>
 sx L xs (x3 + 1) fun v1244 =>
 sx L xs (x3 + 2) fun v1245 =>
 nn x2 fun a1246 =>
 ck 13 a1246 <| cl (fX12_unlike a1246 v1244 v1245) fun v1247 =>
 br (v1243 = v1247) (fL_law_1494 L xs k18 (some a1242) (some a1246) x3)
 (rtZ 0)) <|
 br ((v1002 &&& 63) = 27) (sx L xs (x3 + 1) fun v1248 =>
 sx L xs (x3 + 2) fun v1249 =>
 nn x1 fun a1250 =>
 ck 12 a1250 <| cl (fX11_who a1250 v1248 v1249) fun v1251 =>
 sx L xs (x3 + 1) fun v1252 =>
 sx L xs (x3 + 2) fun v1253 =>
 nn x2 fun a1254 =>
 ck 13 a1254 <| cl (fX12_who a1254 v1252 v1253) fun v1255 =>
 br (v1251 = v1255) (fL_law_1494 L xs k18 (some a1250) (some a1254) x3)
 (rtZ 0)) <|
 br ((v1002 &&& 63) = 28) (sx L xs (x3 + 1) fun v1256 =>
 sx L xs (x3 + 2) fun v1257 =>
 sx L xs (x3 + 3) fun v1258 =>
 nn x1 fun a1259 =>
 ck 12 a1259 <| cl (fX11_stolen a1259 v1256 v1257 v1258) fun v1260 =>
 sx L xs (x3 + 1) fun v1261 =>
 sx L xs (x3 + 2) fun v1262 =>
 sx L xs (x3 + 3) fun v1263 =>
 nn x2 fun a1264 =>
 ck 13 a1264 <| cl (fX12_stolen a1264 v1261 v1262 v1263) fun v1265 =>
 br (v1260 = v1265) (fL_law_1494 L xs k18 (some a1259) (some a1264) x3)
 (rtZ 0)) <|
 br ((v1002 &&& 63) = 29) (sx L xs (x3 + 1) fun v1266 =>
 sx L xs (x3 + 2) fun v1267 =>
 nn x1 fun a1268 =>
 ck 12 a1268 <| cl (fX11_time a1268 v1266 v1267) fun v1269 =>
 sx L xs (x3 + 1) fun v1270 =>
 sx L xs (x3 + 2) fun v1271 =>
 nn x2 fun a1272 =>
 ck 13 a1272 <| cl (fX12_time a1272 v1270 v1271) fun v1273 =>
 br ((bi v1269) = (bi v1273)) (fL_law_1494 L xs k18 (some a1268) (some a1272) x3)
 (rtZ 0)) <|
 br ((v1002 &&& 63) = 30) (sx L xs (x3 + 1) fun v1274 =>
 sx L xs (x3 + 2) fun v1275 =>
 sx L xs (x3 + 3) fun v1276 =>
 nn x1 fun a1277 =>
 ck 12 a1277 <| cl (fX11_even a1277 v1274 v1275 v1276) fun v1278 =>
 sx L xs (x3 + 1) fun v1279 =>
 sx L xs (x3 + 2) fun v1280 =>
 sx L xs (x3 + 3) fun v1281 =>
 nn x2 fun a1282 =>
 ck 13 a1282 <| cl (fX12_even a1282 v1279 v1280 v1281) fun v1283 =>
 br (v1278 = v1283) (fL_law_1494 L xs k18 (some a1277) (some a1282) x3)
 (rtZ 0)) <|
 br ((v1002 &&& 63) = 31) (sx L xs (x3 + 1) fun v1284 =>
 nn x1 fun a1285 =>
 ck 12 a1285 <| cl (fX11_count a1285 v1284) fun v1286 =>
 sx L xs (x3 + 1) fun v1287 =>
 nn x2 fun a1288 =>
 ck 13 a1288 <| cl (fX12_count a1288 v1287) fun v1289 =>
 br (v1286 = v1289) (fL_law_1494 L xs k18 (some a1285) (some a1288) x3)
 (rtZ 0)) <|
 br ((v1002 &&& 63) = 32) (sx L xs (x3 + 1) fun v1290 =>
 nn x1 fun a1291 =>
 ck 12 a1291 <| cl (fX11_image a1291 v1290) fun v1292 =>
 sx L xs (x3 + 1) fun v1293 =>
 nn x2 fun a1294 =>
 ck 13 a1294 <| cl (fX12_image a1294 v1293) fun v1295 =>
 br ((bi v1292) = (bi v1295)) (fL_law_1494 L xs k18 (some a1291) (some a1294) x3)
 (rtZ 0)) <|
 br ((v1002 &&& 63) = 33) (sx L xs (x3 + 1) fun v1296 =>
 nn x1 fun a1297 =>
 ck 12 a1297 <| cl (fX11_again a1297 v1296) fun v1298 =>
 sx L xs (x3 + 1) fun v1299 =>
 nn x2 fun a1300 =>
 ck 13 a1300 <| cl (fX12_again a1300 v1299) fun v1301 =>
 br ((bi v1298) = (bi v1301)) (fL_law_1494 L xs k18 (some a1297) (some a1300) x3)
 (rtZ 0)) <|
 (fL_law_1494 L xs k18 x1 x2 x3))
set_option maxHeartbeats 4000000 in
set_option maxRecDepth 100000 in
theorem sfL_law_18 {E : Ev} {l : Launch} {nm : String} (k18 : (Option Nat × Option Nat × Int32) → St → Option (Bool × St)) (hk18 : ∀ p : Option Nat × Option Nat × Int32, Snd E l (dpL_law, RL, cL_law, 4, (some .boolean), nm) rvZ 18 [(0, .ref E.2.2.2.2.2.1), (1, rf E.1 p.1), (2, rf E.1 p.2.1), (3, .int p.2.2)] [] (k18 p)) (x1 : Option Nat) (x2 : Option Nat) (x3 : Int32) : Snd E l (dpL_law, RL, cL_law, 4, (some .boolean), nm) rvZ 18 [(0, .ref E.2.2.2.2.2.1), (1, rf E.1 x1), (2, rf E.1 x2), (3, .int x3)] [] (fL_law_18 E.2.2.2.2.2.2.1 E.2.2.2.2.2.2.2 k18 x1 x2 x3) := by
  unfold fL_law_18
  refine sn_iload_n (pc := 18) (j := 3) dL_law_18 rfl rfl ?_
  refine sn_aload_n (pc := 19) (j := 0) dL_law_19 rfl rfl ?_
  refine sn_xlen (pc := 20) dL_law_20 ?_
  refine sn_bipush (pc := 21) (v := 7) dL_law_21 (by decide) ?_
  refine sn_isub (pc := 23) dL_law_23 ?_
  refine sn_icmp_gt (pc := 24) (tgt := 1500) dL_law_24 (by decide) ?_ ?_
  · refine sn_iconst (pc := 1500) (v := 1) dL_law_1500 (by decide) ?_
    exact sn_zret (pc := 1501) dL_law_1501 rfl
  · refine sn_aload_n (pc := 27) (j := 0) dL_law_27 rfl rfl ?_
    refine sn_iload_n (pc := 28) (j := 3) dL_law_28 rfl rfl ?_
    refine sn_xld (pc := 29) dL_law_29 (fun v1002 => ?_)
    refine sn_bipush (pc := 30) (v := 63) dL_law_30 (by decide) ?_
    refine sn_iand (pc := 32) dL_law_32 ?_
    refine sw_start ?_
    refine sw_case (tgt := 184) 0 dL_law_33 (by decide) (by decide) rfl (by decide) ?_ ?_
    · refine sn_aloadR_n (pc := 184) (r := x1) (j := 1) dL_law_184 rfl rfl ?_
      refine sn_aload_n (pc := 185) (j := 0) dL_law_185 rfl rfl ?_
      refine sn_iload_n (pc := 186) (j := 3) dL_law_186 rfl rfl ?_
      refine sn_iconst (pc := 187) (v := 1) dL_law_187 (by decide) ?_
      refine sn_iadd (pc := 188) dL_law_188 ?_
      refine sn_xld (pc := 189) dL_law_189 (fun v1003 => ?_)
      refine sn_aload_n (pc := 190) (j := 0) dL_law_190 rfl rfl ?_
      refine sn_iload_n (pc := 191) (j := 3) dL_law_191 rfl rfl ?_
      refine sn_iconst (pc := 192) (v := 2) dL_law_192 (by decide) ?_
      refine sn_iadd (pc := 193) dL_law_193 ?_
      refine sn_xld (pc := 194) dL_law_194 (fun v1004 => ?_)
      refine sn_aload_n (pc := 195) (j := 0) dL_law_195 rfl rfl ?_
      refine sn_iload_n (pc := 196) (j := 3) dL_law_196 rfl rfl ?_
      refine sn_iconst (pc := 197) (v := 3) dL_law_197 (by decide) ?_
      refine sn_iadd (pc := 198) dL_law_198 ?_
      refine sn_xld (pc := 199) dL_law_199 (fun v1005 => ?_)
      refine sn_aload_n (pc := 200) (j := 0) dL_law_200 rfl rfl ?_
      refine sn_iload_n (pc := 201) (j := 3) dL_law_201 rfl rfl ?_
      refine sn_iconst (pc := 202) (v := 4) dL_law_202 (by decide) ?_
      refine sn_iadd (pc := 203) dL_law_203 ?_
      refine sn_xld (pc := 204) dL_law_204 (fun v1006 => ?_)
      refine sn_aload_n (pc := 205) (j := 0) dL_law_205 rfl rfl ?_
      refine sn_iload_n (pc := 206) (j := 3) dL_law_206 rfl rfl ?_
      refine sn_iconst (pc := 207) (v := 5) dL_law_207 (by decide) ?_
      refine sn_iadd (pc := 208) dL_law_208 ?_
      refine sn_xld (pc := 209) dL_law_209 (fun v1007 => ?_)
      rcases x1 with _ | a1008
      · exact sn_no
      refine sn_nn ?_
      refine sn_callV (ci := 11) (pc := 210) dL_law_210 iX11_feed wt2_84 wt2_85 wt2_83 ⟨_, rfl, rfl⟩ (by decide) (mX11_feed a1008 v1003 v1004 v1005 v1006 v1007) (Nat.le_of_ble_eq_true rfl) rfl rfl (Nat.le_of_ble_eq_true rfl) (fun v1009 => ?_)
      refine sn_aloadR_n (pc := 213) (r := x2) (j := 2) dL_law_213 rfl rfl ?_
      refine sn_aload_n (pc := 214) (j := 0) dL_law_214 rfl rfl ?_
      refine sn_iload_n (pc := 215) (j := 3) dL_law_215 rfl rfl ?_
      refine sn_iconst (pc := 216) (v := 1) dL_law_216 (by decide) ?_
      refine sn_iadd (pc := 217) dL_law_217 ?_
      refine sn_xld (pc := 218) dL_law_218 (fun v1010 => ?_)
      refine sn_aload_n (pc := 219) (j := 0) dL_law_219 rfl rfl ?_
      refine sn_iload_n (pc := 220) (j := 3) dL_law_220 rfl rfl ?_
      refine sn_iconst (pc := 221) (v := 2) dL_law_221 (by decide) ?_
      refine sn_iadd (pc := 222) dL_law_222 ?_
      refine sn_xld (pc := 223) dL_law_223 (fun v1011 => ?_)
      refine sn_aload_n (pc := 224) (j := 0) dL_law_224 rfl rfl ?_
      refine sn_iload_n (pc := 225) (j := 3) dL_law_225 rfl rfl ?_
      refine sn_iconst (pc := 226) (v := 3) dL_law_226 (by decide) ?_
      refine sn_iadd (pc := 227) dL_law_227 ?_
      refine sn_xld (pc := 228) dL_law_228 (fun v1012 => ?_)
      refine sn_aload_n (pc := 229) (j := 0) dL_law_229 rfl rfl ?_
      refine sn_iload_n (pc := 230) (j := 3) dL_law_230 rfl rfl ?_
      refine sn_iconst (pc := 231) (v := 4) dL_law_231 (by decide) ?_
      refine sn_iadd (pc := 232) dL_law_232 ?_
      refine sn_xld (pc := 233) dL_law_233 (fun v1013 => ?_)
      refine sn_aload_n (pc := 234) (j := 0) dL_law_234 rfl rfl ?_
      refine sn_iload_n (pc := 235) (j := 3) dL_law_235 rfl rfl ?_
      refine sn_iconst (pc := 236) (v := 5) dL_law_236 (by decide) ?_
      refine sn_iadd (pc := 237) dL_law_237 ?_
      refine sn_xld (pc := 238) dL_law_238 (fun v1014 => ?_)
      rcases x2 with _ | a1015
      · exact sn_no
      refine sn_nn ?_
      refine sn_callV (ci := 12) (pc := 239) dL_law_239 iX12_feed wt6_122 wt6_123 wt6_121 ⟨_, rfl, rfl⟩ (by decide) (mX12_feed a1015 v1010 v1011 v1012 v1013 v1014) (Nat.le_of_ble_eq_true rfl) rfl rfl (Nat.le_of_ble_eq_true rfl) (fun v1016 => ?_)
      refine sn_icmp_eq (pc := 242) (tgt := 1494) dL_law_242 (by decide) ?_ ?_
      · exact sn_sub (lv' := [(0, .ref E.2.2.2.2.2.1), (1, .ref (E.1 + a1008)), (2, .ref (E.1 + a1015)), (3, .int x3)]) [0, 1, 2, 3] rfl (sfL_law_1494 k18 hk18 (some a1008) (some a1015) x3)
      · refine sn_iconst (pc := 245) (v := 0) dL_law_245 (by decide) ?_
        exact sn_zret (pc := 246) dL_law_246 rfl
    refine sw_case (tgt := 247) 1 dL_law_33 (by decide) (by decide) rfl (by decide) ?_ ?_
    · refine sn_aloadR_n (pc := 247) (r := x1) (j := 1) dL_law_247 rfl rfl ?_
      refine sn_aload_n (pc := 248) (j := 0) dL_law_248 rfl rfl ?_
      refine sn_iload_n (pc := 249) (j := 3) dL_law_249 rfl rfl ?_
      refine sn_iconst (pc := 250) (v := 1) dL_law_250 (by decide) ?_
      refine sn_iadd (pc := 251) dL_law_251 ?_
      refine sn_xld (pc := 252) dL_law_252 (fun v1017 => ?_)
      rcases x1 with _ | a1018
      · exact sn_no
      refine sn_nn ?_
      refine sn_callV (ci := 11) (pc := 253) dL_law_253 iX11_end wt2_92 wt2_93 wt2_91 ⟨_, rfl, rfl⟩ (by decide) (mX11_end a1018 v1017) (Nat.le_of_ble_eq_true rfl) rfl rfl (Nat.le_of_ble_eq_true rfl) (fun v1019 => ?_)
      refine sn_aloadR_n (pc := 256) (r := x2) (j := 2) dL_law_256 rfl rfl ?_
      refine sn_aload_n (pc := 257) (j := 0) dL_law_257 rfl rfl ?_
      refine sn_iload_n (pc := 258) (j := 3) dL_law_258 rfl rfl ?_
      refine sn_iconst (pc := 259) (v := 1) dL_law_259 (by decide) ?_
      refine sn_iadd (pc := 260) dL_law_260 ?_
      refine sn_xld (pc := 261) dL_law_261 (fun v1020 => ?_)
      rcases x2 with _ | a1021
      · exact sn_no
      refine sn_nn ?_
      refine sn_callV (ci := 12) (pc := 262) dL_law_262 iX12_end wt6_126 wt6_127 wt6_125 ⟨_, rfl, rfl⟩ (by decide) (mX12_end a1021 v1020) (Nat.le_of_ble_eq_true rfl) rfl rfl (Nat.le_of_ble_eq_true rfl) (fun v1022 => ?_)
      refine sn_icmp_eq (pc := 265) (tgt := 1494) dL_law_265 (by decide) ?_ ?_
      · exact sn_sub (lv' := [(0, .ref E.2.2.2.2.2.1), (1, .ref (E.1 + a1018)), (2, .ref (E.1 + a1021)), (3, .int x3)]) [0, 1, 2, 3] rfl (sfL_law_1494 k18 hk18 (some a1018) (some a1021) x3)
      · refine sn_iconst (pc := 268) (v := 0) dL_law_268 (by decide) ?_
        exact sn_zret (pc := 269) dL_law_269 rfl
    refine sw_case (tgt := 270) 2 dL_law_33 (by decide) (by decide) rfl (by decide) ?_ ?_
    · refine sn_aloadR_n (pc := 270) (r := x1) (j := 1) dL_law_270 rfl rfl ?_
      refine sn_aload_n (pc := 271) (j := 0) dL_law_271 rfl rfl ?_
      refine sn_iload_n (pc := 272) (j := 3) dL_law_272 rfl rfl ?_
      refine sn_iconst (pc := 273) (v := 1) dL_law_273 (by decide) ?_
      refine sn_iadd (pc := 274) dL_law_274 ?_
      refine sn_xld (pc := 275) dL_law_275 (fun v1023 => ?_)
      refine sn_aload_n (pc := 276) (j := 0) dL_law_276 rfl rfl ?_
      refine sn_iload_n (pc := 277) (j := 3) dL_law_277 rfl rfl ?_
      refine sn_iconst (pc := 278) (v := 2) dL_law_278 (by decide) ?_
      refine sn_iadd (pc := 279) dL_law_279 ?_
      refine sn_xld (pc := 280) dL_law_280 (fun v1024 => ?_)
      rcases x1 with _ | a1025
      · exact sn_no
      refine sn_nn ?_
      refine sn_callV (ci := 11) (pc := 281) dL_law_281 iX11_pattern wt2_99 wt2_100 wt2_98 ⟨_, rfl, rfl⟩ (by decide) (mX11_pattern a1025 v1023 v1024) (Nat.le_of_ble_eq_true rfl) rfl rfl (Nat.le_of_ble_eq_true rfl) (fun v1026 => ?_)
      refine sn_aloadR_n (pc := 284) (r := x2) (j := 2) dL_law_284 rfl rfl ?_
      refine sn_aload_n (pc := 285) (j := 0) dL_law_285 rfl rfl ?_
      refine sn_iload_n (pc := 286) (j := 3) dL_law_286 rfl rfl ?_
      refine sn_iconst (pc := 287) (v := 1) dL_law_287 (by decide) ?_
      refine sn_iadd (pc := 288) dL_law_288 ?_
      refine sn_xld (pc := 289) dL_law_289 (fun v1027 => ?_)
      refine sn_aload_n (pc := 290) (j := 0) dL_law_290 rfl rfl ?_
      refine sn_iload_n (pc := 291) (j := 3) dL_law_291 rfl rfl ?_
      refine sn_iconst (pc := 292) (v := 2) dL_law_292 (by decide) ?_
      refine sn_iadd (pc := 293) dL_law_293 ?_
      refine sn_xld (pc := 294) dL_law_294 (fun v1028 => ?_)
      rcases x2 with _ | a1029
      · exact sn_no
      refine sn_nn ?_
      refine sn_callV (ci := 12) (pc := 295) dL_law_295 iX12_pattern wt6_130 wt6_131 wt6_129 ⟨_, rfl, rfl⟩ (by decide) (mX12_pattern a1029 v1027 v1028) (Nat.le_of_ble_eq_true rfl) rfl rfl (Nat.le_of_ble_eq_true rfl) (fun v1030 => ?_)
      refine sn_icmp_eq (pc := 298) (tgt := 1494) dL_law_298 (by decide) ?_ ?_
      · exact sn_sub (lv' := [(0, .ref E.2.2.2.2.2.1), (1, .ref (E.1 + a1025)), (2, .ref (E.1 + a1029)), (3, .int x3)]) [0, 1, 2, 3] rfl (sfL_law_1494 k18 hk18 (some a1025) (some a1029) x3)
      · refine sn_iconst (pc := 301) (v := 0) dL_law_301 (by decide) ?_
        exact sn_zret (pc := 302) dL_law_302 rfl
    refine sw_case (tgt := 303) 3 dL_law_33 (by decide) (by decide) rfl (by decide) ?_ ?_
    · refine sn_aloadR_n (pc := 303) (r := x1) (j := 1) dL_law_303 rfl rfl ?_
      refine sn_aload_n (pc := 304) (j := 0) dL_law_304 rfl rfl ?_
      refine sn_iload_n (pc := 305) (j := 3) dL_law_305 rfl rfl ?_
      refine sn_iconst (pc := 306) (v := 1) dL_law_306 (by decide) ?_
      refine sn_iadd (pc := 307) dL_law_307 ?_
      refine sn_xld (pc := 308) dL_law_308 (fun v1031 => ?_)
      refine sn_aload_n (pc := 309) (j := 0) dL_law_309 rfl rfl ?_
      refine sn_iload_n (pc := 310) (j := 3) dL_law_310 rfl rfl ?_
      refine sn_iconst (pc := 311) (v := 2) dL_law_311 (by decide) ?_
      refine sn_iadd (pc := 312) dL_law_312 ?_
      refine sn_xld (pc := 313) dL_law_313 (fun v1032 => ?_)
      rcases x1 with _ | a1033
      · exact sn_no
      refine sn_nn ?_
      refine sn_callV (ci := 11) (pc := 314) dL_law_314 iX11_list wt3_13 wt3_14 wt3_12 ⟨_, rfl, rfl⟩ (by decide) (mX11_list a1033 v1031 v1032) (Nat.le_of_ble_eq_true rfl) rfl rfl (Nat.le_of_ble_eq_true rfl) (fun v1034 => ?_)
      refine sn_aloadR_n (pc := 317) (r := x2) (j := 2) dL_law_317 rfl rfl ?_
      refine sn_aload_n (pc := 318) (j := 0) dL_law_318 rfl rfl ?_
      refine sn_iload_n (pc := 319) (j := 3) dL_law_319 rfl rfl ?_
      refine sn_iconst (pc := 320) (v := 1) dL_law_320 (by decide) ?_
      refine sn_iadd (pc := 321) dL_law_321 ?_
      refine sn_xld (pc := 322) dL_law_322 (fun v1035 => ?_)
      refine sn_aload_n (pc := 323) (j := 0) dL_law_323 rfl rfl ?_
      refine sn_iload_n (pc := 324) (j := 3) dL_law_324 rfl rfl ?_
      refine sn_iconst (pc := 325) (v := 2) dL_law_325 (by decide) ?_
      refine sn_iadd (pc := 326) dL_law_326 ?_
      refine sn_xld (pc := 327) dL_law_327 (fun v1036 => ?_)
      rcases x2 with _ | a1037
      · exact sn_no
      refine sn_nn ?_
      refine sn_callV (ci := 12) (pc := 328) dL_law_328 iX12_list wt7_9 wt7_10 wt7_8 ⟨_, rfl, rfl⟩ (by decide) (mX12_list a1037 v1035 v1036) (Nat.le_of_ble_eq_true rfl) rfl rfl (Nat.le_of_ble_eq_true rfl) (fun v1038 => ?_)
      refine sn_icmp_eq (pc := 331) (tgt := 1494) dL_law_331 (by decide) ?_ ?_
      · exact sn_sub (lv' := [(0, .ref E.2.2.2.2.2.1), (1, .ref (E.1 + a1033)), (2, .ref (E.1 + a1037)), (3, .int x3)]) [0, 1, 2, 3] rfl (sfL_law_1494 k18 hk18 (some a1033) (some a1037) x3)
      · refine sn_iconst (pc := 334) (v := 0) dL_law_334 (by decide) ?_
        exact sn_zret (pc := 335) dL_law_335 rfl
    refine sw_case (tgt := 336) 4 dL_law_33 (by decide) (by decide) rfl (by decide) ?_ ?_
    · refine sn_aloadR_n (pc := 336) (r := x1) (j := 1) dL_law_336 rfl rfl ?_
      refine sn_aload_n (pc := 337) (j := 0) dL_law_337 rfl rfl ?_
      refine sn_iload_n (pc := 338) (j := 3) dL_law_338 rfl rfl ?_
      refine sn_iconst (pc := 339) (v := 1) dL_law_339 (by decide) ?_
      refine sn_iadd (pc := 340) dL_law_340 ?_
      refine sn_xld (pc := 341) dL_law_341 (fun v1039 => ?_)
      rcases x1 with _ | a1040
      · exact sn_no
      refine sn_nn ?_
      refine sn_callV (ci := 11) (pc := 342) dL_law_342 iX11_fault wt3_185 wt3_186 wt3_184 ⟨_, rfl, rfl⟩ (by decide) (mX11_fault a1040 v1039) (Nat.le_of_ble_eq_true rfl) rfl rfl (Nat.le_of_ble_eq_true rfl) (fun v1041 => ?_)
      refine sn_aloadR_n (pc := 345) (r := x2) (j := 2) dL_law_345 rfl rfl ?_
      refine sn_aload_n (pc := 346) (j := 0) dL_law_346 rfl rfl ?_
      refine sn_iload_n (pc := 347) (j := 3) dL_law_347 rfl rfl ?_
      refine sn_iconst (pc := 348) (v := 1) dL_law_348 (by decide) ?_
      refine sn_iadd (pc := 349) dL_law_349 ?_
      refine sn_xld (pc := 350) dL_law_350 (fun v1042 => ?_)
      rcases x2 with _ | a1043
      · exact sn_no
      refine sn_nn ?_
      refine sn_callV (ci := 12) (pc := 351) dL_law_351 iX12_fault wt6_226 wt6_227 wt6_225 ⟨_, rfl, rfl⟩ (by decide) (mX12_fault a1043 v1042) (Nat.le_of_ble_eq_true rfl) rfl rfl (Nat.le_of_ble_eq_true rfl) (fun v1044 => ?_)
      refine sn_icmp_eq (pc := 354) (tgt := 1494) dL_law_354 (by decide) ?_ ?_
      · exact sn_sub (lv' := [(0, .ref E.2.2.2.2.2.1), (1, .ref (E.1 + a1040)), (2, .ref (E.1 + a1043)), (3, .int x3)]) [0, 1, 2, 3] rfl (sfL_law_1494 k18 hk18 (some a1040) (some a1043) x3)
      · refine sn_iconst (pc := 357) (v := 0) dL_law_357 (by decide) ?_
        exact sn_zret (pc := 358) dL_law_358 rfl
    refine sw_case (tgt := 359) 5 dL_law_33 (by decide) (by decide) rfl (by decide) ?_ ?_
    · refine sn_aloadR_n (pc := 359) (r := x1) (j := 1) dL_law_359 rfl rfl ?_
      refine sn_aload_n (pc := 360) (j := 0) dL_law_360 rfl rfl ?_
      refine sn_iload_n (pc := 361) (j := 3) dL_law_361 rfl rfl ?_
      refine sn_iconst (pc := 362) (v := 1) dL_law_362 (by decide) ?_
      refine sn_iadd (pc := 363) dL_law_363 ?_
      refine sn_xld (pc := 364) dL_law_364 (fun v1045 => ?_)
      refine sn_aload_n (pc := 365) (j := 0) dL_law_365 rfl rfl ?_
      refine sn_iload_n (pc := 366) (j := 3) dL_law_366 rfl rfl ?_
      refine sn_iconst (pc := 367) (v := 2) dL_law_367 (by decide) ?_
      refine sn_iadd (pc := 368) dL_law_368 ?_
      refine sn_xld (pc := 369) dL_law_369 (fun v1046 => ?_)
      refine sn_aload_n (pc := 370) (j := 0) dL_law_370 rfl rfl ?_
      refine sn_iload_n (pc := 371) (j := 3) dL_law_371 rfl rfl ?_
      refine sn_iconst (pc := 372) (v := 3) dL_law_372 (by decide) ?_
      refine sn_iadd (pc := 373) dL_law_373 ?_
      refine sn_xld (pc := 374) dL_law_374 (fun v1047 => ?_)
      rcases x1 with _ | a1048
      · exact sn_no
      refine sn_nn ?_
      refine sn_callV (ci := 11) (pc := 375) dL_law_375 iX11_stitches wt3_189 wt3_190 wt3_188 ⟨_, rfl, rfl⟩ (by decide) (mX11_stitches a1048 v1045 v1046 v1047) (Nat.le_of_ble_eq_true rfl) rfl rfl (Nat.le_of_ble_eq_true rfl) (fun v1049 => ?_)
      refine sn_aloadR_n (pc := 378) (r := x2) (j := 2) dL_law_378 rfl rfl ?_
      refine sn_aload_n (pc := 379) (j := 0) dL_law_379 rfl rfl ?_
      refine sn_iload_n (pc := 380) (j := 3) dL_law_380 rfl rfl ?_
      refine sn_iconst (pc := 381) (v := 1) dL_law_381 (by decide) ?_
      refine sn_iadd (pc := 382) dL_law_382 ?_
      refine sn_xld (pc := 383) dL_law_383 (fun v1050 => ?_)
      refine sn_aload_n (pc := 384) (j := 0) dL_law_384 rfl rfl ?_
      refine sn_iload_n (pc := 385) (j := 3) dL_law_385 rfl rfl ?_
      refine sn_iconst (pc := 386) (v := 2) dL_law_386 (by decide) ?_
      refine sn_iadd (pc := 387) dL_law_387 ?_
      refine sn_xld (pc := 388) dL_law_388 (fun v1051 => ?_)
      refine sn_aload_n (pc := 389) (j := 0) dL_law_389 rfl rfl ?_
      refine sn_iload_n (pc := 390) (j := 3) dL_law_390 rfl rfl ?_
      refine sn_iconst (pc := 391) (v := 3) dL_law_391 (by decide) ?_
      refine sn_iadd (pc := 392) dL_law_392 ?_
      refine sn_xld (pc := 393) dL_law_393 (fun v1052 => ?_)
      rcases x2 with _ | a1053
      · exact sn_no
      refine sn_nn ?_
      refine sn_callV (ci := 12) (pc := 394) dL_law_394 iX12_stitches wt6_230 wt6_231 wt6_229 ⟨_, rfl, rfl⟩ (by decide) (mX12_stitches a1053 v1050 v1051 v1052) (Nat.le_of_ble_eq_true rfl) rfl rfl (Nat.le_of_ble_eq_true rfl) (fun v1054 => ?_)
      refine sn_icmp_eq (pc := 397) (tgt := 1494) dL_law_397 (by decide) ?_ ?_
      · exact sn_sub (lv' := [(0, .ref E.2.2.2.2.2.1), (1, .ref (E.1 + a1048)), (2, .ref (E.1 + a1053)), (3, .int x3)]) [0, 1, 2, 3] rfl (sfL_law_1494 k18 hk18 (some a1048) (some a1053) x3)
      · refine sn_iconst (pc := 400) (v := 0) dL_law_400 (by decide) ?_
        exact sn_zret (pc := 401) dL_law_401 rfl
    refine sw_case (tgt := 402) 6 dL_law_33 (by decide) (by decide) rfl (by decide) ?_ ?_
    · refine sn_aloadR_n (pc := 402) (r := x1) (j := 1) dL_law_402 rfl rfl ?_
      refine sn_aload_n (pc := 403) (j := 0) dL_law_403 rfl rfl ?_
      refine sn_iload_n (pc := 404) (j := 3) dL_law_404 rfl rfl ?_
      refine sn_iconst (pc := 405) (v := 1) dL_law_405 (by decide) ?_
      refine sn_iadd (pc := 406) dL_law_406 ?_
      refine sn_xld (pc := 407) dL_law_407 (fun v1055 => ?_)
      refine sn_aload_n (pc := 408) (j := 0) dL_law_408 rfl rfl ?_
      refine sn_iload_n (pc := 409) (j := 3) dL_law_409 rfl rfl ?_
      refine sn_iconst (pc := 410) (v := 2) dL_law_410 (by decide) ?_
      refine sn_iadd (pc := 411) dL_law_411 ?_
      refine sn_xld (pc := 412) dL_law_412 (fun v1056 => ?_)
      rcases x1 with _ | a1057
      · exact sn_no
      refine sn_nn ?_
      refine sn_callV (ci := 11) (pc := 413) dL_law_413 iX11_about wt3_207 wt3_208 wt3_206 ⟨_, rfl, rfl⟩ (by decide) (mX11_about a1057 v1055 v1056) (Nat.le_of_ble_eq_true rfl) rfl rfl (Nat.le_of_ble_eq_true rfl) (fun v1058 => ?_)
      refine sn_aloadR_n (pc := 416) (r := x2) (j := 2) dL_law_416 rfl rfl ?_
      refine sn_aload_n (pc := 417) (j := 0) dL_law_417 rfl rfl ?_
      refine sn_iload_n (pc := 418) (j := 3) dL_law_418 rfl rfl ?_
      refine sn_iconst (pc := 419) (v := 1) dL_law_419 (by decide) ?_
      refine sn_iadd (pc := 420) dL_law_420 ?_
      refine sn_xld (pc := 421) dL_law_421 (fun v1059 => ?_)
      refine sn_aload_n (pc := 422) (j := 0) dL_law_422 rfl rfl ?_
      refine sn_iload_n (pc := 423) (j := 3) dL_law_423 rfl rfl ?_
      refine sn_iconst (pc := 424) (v := 2) dL_law_424 (by decide) ?_
      refine sn_iadd (pc := 425) dL_law_425 ?_
      refine sn_xld (pc := 426) dL_law_426 (fun v1060 => ?_)
      rcases x2 with _ | a1061
      · exact sn_no
      refine sn_nn ?_
      refine sn_callV (ci := 12) (pc := 427) dL_law_427 iX12_about wt7_2 wt7_3 wt7_1 ⟨_, rfl, rfl⟩ (by decide) (mX12_about a1061 v1059 v1060) (Nat.le_of_ble_eq_true rfl) rfl rfl (Nat.le_of_ble_eq_true rfl) (fun v1062 => ?_)
      refine sn_icmp_eq (pc := 430) (tgt := 1494) dL_law_430 (by decide) ?_ ?_
      · exact sn_sub (lv' := [(0, .ref E.2.2.2.2.2.1), (1, .ref (E.1 + a1057)), (2, .ref (E.1 + a1061)), (3, .int x3)]) [0, 1, 2, 3] rfl (sfL_law_1494 k18 hk18 (some a1057) (some a1061) x3)
      · refine sn_iconst (pc := 433) (v := 0) dL_law_433 (by decide) ?_
        exact sn_zret (pc := 434) dL_law_434 rfl
    refine sw_case (tgt := 435) 7 dL_law_33 (by decide) (by decide) rfl (by decide) ?_ ?_
    · refine sn_aloadR_n (pc := 435) (r := x1) (j := 1) dL_law_435 rfl rfl ?_
      refine sn_aload_n (pc := 436) (j := 0) dL_law_436 rfl rfl ?_
      refine sn_iload_n (pc := 437) (j := 3) dL_law_437 rfl rfl ?_
      refine sn_iconst (pc := 438) (v := 1) dL_law_438 (by decide) ?_
      refine sn_iadd (pc := 439) dL_law_439 ?_
      refine sn_xld (pc := 440) dL_law_440 (fun v1063 => ?_)
      rcases x1 with _ | a1064
      · exact sn_no
      refine sn_nn ?_
      refine sn_callV (ci := 11) (pc := 441) dL_law_441 iX11_day wt3_220 wt3_221 wt3_219 ⟨_, rfl, rfl⟩ (by decide) (mX11_day a1064 v1063) (Nat.le_of_ble_eq_true rfl) rfl rfl (Nat.le_of_ble_eq_true rfl) (fun v1065 => ?_)
      refine sn_aloadR_n (pc := 444) (r := x2) (j := 2) dL_law_444 rfl rfl ?_
      refine sn_aload_n (pc := 445) (j := 0) dL_law_445 rfl rfl ?_
      refine sn_iload_n (pc := 446) (j := 3) dL_law_446 rfl rfl ?_
      refine sn_iconst (pc := 447) (v := 1) dL_law_447 (by decide) ?_
      refine sn_iadd (pc := 448) dL_law_448 ?_
      refine sn_xld (pc := 449) dL_law_449 (fun v1066 => ?_)
      rcases x2 with _ | a1067
      · exact sn_no
      refine sn_nn ?_
      refine sn_callV (ci := 12) (pc := 450) dL_law_450 iX12_day wt7_33 wt7_34 wt7_32 ⟨_, rfl, rfl⟩ (by decide) (mX12_day a1067 v1066) (Nat.le_of_ble_eq_true rfl) rfl rfl (Nat.le_of_ble_eq_true rfl) (fun v1068 => ?_)
      refine sn_icmp_eq (pc := 453) (tgt := 1494) dL_law_453 (by decide) ?_ ?_
      · exact sn_sub (lv' := [(0, .ref E.2.2.2.2.2.1), (1, .ref (E.1 + a1064)), (2, .ref (E.1 + a1067)), (3, .int x3)]) [0, 1, 2, 3] rfl (sfL_law_1494 k18 hk18 (some a1064) (some a1067) x3)
      · refine sn_iconst (pc := 456) (v := 0) dL_law_456 (by decide) ?_
        exact sn_zret (pc := 457) dL_law_457 rfl
    refine sw_case (tgt := 458) 8 dL_law_33 (by decide) (by decide) rfl (by decide) ?_ ?_
    · refine sn_aloadR_n (pc := 458) (r := x1) (j := 1) dL_law_458 rfl rfl ?_
      refine sn_aload_n (pc := 459) (j := 0) dL_law_459 rfl rfl ?_
      refine sn_iload_n (pc := 460) (j := 3) dL_law_460 rfl rfl ?_
      refine sn_iconst (pc := 461) (v := 1) dL_law_461 (by decide) ?_
      refine sn_iadd (pc := 462) dL_law_462 ?_
      refine sn_xld (pc := 463) dL_law_463 (fun v1069 => ?_)
      refine sn_aload_n (pc := 464) (j := 0) dL_law_464 rfl rfl ?_
      refine sn_iload_n (pc := 465) (j := 3) dL_law_465 rfl rfl ?_
      refine sn_iconst (pc := 466) (v := 2) dL_law_466 (by decide) ?_
      refine sn_iadd (pc := 467) dL_law_467 ?_
      refine sn_xld (pc := 468) dL_law_468 (fun v1070 => ?_)
      refine sn_aload_n (pc := 469) (j := 0) dL_law_469 rfl rfl ?_
      refine sn_iload_n (pc := 470) (j := 3) dL_law_470 rfl rfl ?_
      refine sn_iconst (pc := 471) (v := 3) dL_law_471 (by decide) ?_
      refine sn_iadd (pc := 472) dL_law_472 ?_
      refine sn_xld (pc := 473) dL_law_473 (fun v1071 => ?_)
      rcases x1 with _ | a1072
      · exact sn_no
      refine sn_nn ?_
      refine sn_callV (ci := 11) (pc := 474) dL_law_474 iX11_lists wt3_224 wt3_225 wt3_223 ⟨_, rfl, rfl⟩ (by decide) (mX11_lists a1072 v1069 v1070 v1071) (Nat.le_of_ble_eq_true rfl) rfl rfl (Nat.le_of_ble_eq_true rfl) (fun v1073 => ?_)
      refine sn_aloadR_n (pc := 477) (r := x2) (j := 2) dL_law_477 rfl rfl ?_
      refine sn_aload_n (pc := 478) (j := 0) dL_law_478 rfl rfl ?_
      refine sn_iload_n (pc := 479) (j := 3) dL_law_479 rfl rfl ?_
      refine sn_iconst (pc := 480) (v := 1) dL_law_480 (by decide) ?_
      refine sn_iadd (pc := 481) dL_law_481 ?_
      refine sn_xld (pc := 482) dL_law_482 (fun v1074 => ?_)
      refine sn_aload_n (pc := 483) (j := 0) dL_law_483 rfl rfl ?_
      refine sn_iload_n (pc := 484) (j := 3) dL_law_484 rfl rfl ?_
      refine sn_iconst (pc := 485) (v := 2) dL_law_485 (by decide) ?_
      refine sn_iadd (pc := 486) dL_law_486 ?_
      refine sn_xld (pc := 487) dL_law_487 (fun v1075 => ?_)
      refine sn_aload_n (pc := 488) (j := 0) dL_law_488 rfl rfl ?_
      refine sn_iload_n (pc := 489) (j := 3) dL_law_489 rfl rfl ?_
      refine sn_iconst (pc := 490) (v := 3) dL_law_490 (by decide) ?_
      refine sn_iadd (pc := 491) dL_law_491 ?_
      refine sn_xld (pc := 492) dL_law_492 (fun v1076 => ?_)
      rcases x2 with _ | a1077
      · exact sn_no
      refine sn_nn ?_
      refine sn_callV (ci := 12) (pc := 493) dL_law_493 iX12_lists wt7_25 wt7_26 wt7_24 ⟨_, rfl, rfl⟩ (by decide) (mX12_lists a1077 v1074 v1075 v1076) (Nat.le_of_ble_eq_true rfl) rfl rfl (Nat.le_of_ble_eq_true rfl) (fun v1078 => ?_)
      refine sn_icmp_eq (pc := 496) (tgt := 1494) dL_law_496 (by decide) ?_ ?_
      · exact sn_sub (lv' := [(0, .ref E.2.2.2.2.2.1), (1, .ref (E.1 + a1072)), (2, .ref (E.1 + a1077)), (3, .int x3)]) [0, 1, 2, 3] rfl (sfL_law_1494 k18 hk18 (some a1072) (some a1077) x3)
      · refine sn_iconst (pc := 499) (v := 0) dL_law_499 (by decide) ?_
        exact sn_zret (pc := 500) dL_law_500 rfl
    refine sw_case (tgt := 501) 9 dL_law_33 (by decide) (by decide) rfl (by decide) ?_ ?_
    · refine sn_aloadR_n (pc := 501) (r := x1) (j := 1) dL_law_501 rfl rfl ?_
      refine sn_aload_n (pc := 502) (j := 0) dL_law_502 rfl rfl ?_
      refine sn_iload_n (pc := 503) (j := 3) dL_law_503 rfl rfl ?_
      refine sn_iconst (pc := 504) (v := 1) dL_law_504 (by decide) ?_
      refine sn_iadd (pc := 505) dL_law_505 ?_
      refine sn_xld (pc := 506) dL_law_506 (fun v1079 => ?_)
      refine sn_aload_n (pc := 507) (j := 0) dL_law_507 rfl rfl ?_
      refine sn_iload_n (pc := 508) (j := 3) dL_law_508 rfl rfl ?_
      refine sn_iconst (pc := 509) (v := 2) dL_law_509 (by decide) ?_
      refine sn_iadd (pc := 510) dL_law_510 ?_
      refine sn_xld (pc := 511) dL_law_511 (fun v1080 => ?_)
      refine sn_aload_n (pc := 512) (j := 0) dL_law_512 rfl rfl ?_
      refine sn_iload_n (pc := 513) (j := 3) dL_law_513 rfl rfl ?_
      refine sn_iconst (pc := 514) (v := 3) dL_law_514 (by decide) ?_
      refine sn_iadd (pc := 515) dL_law_515 ?_
      refine sn_xld (pc := 516) dL_law_516 (fun v1081 => ?_)
      rcases x1 with _ | a1082
      · exact sn_no
      refine sn_nn ?_
      refine sn_callV (ci := 11) (pc := 517) dL_law_517 iX11_hand wt4_0 wt4_1 wt3_239 ⟨_, rfl, rfl⟩ (by decide) (mX11_hand a1082 v1079 v1080 v1081) (Nat.le_of_ble_eq_true rfl) rfl rfl (Nat.le_of_ble_eq_true rfl) (fun v1083 => ?_)
      refine sn_aloadR_n (pc := 520) (r := x2) (j := 2) dL_law_520 rfl rfl ?_
      refine sn_aload_n (pc := 521) (j := 0) dL_law_521 rfl rfl ?_
      refine sn_iload_n (pc := 522) (j := 3) dL_law_522 rfl rfl ?_
      refine sn_iconst (pc := 523) (v := 1) dL_law_523 (by decide) ?_
      refine sn_iadd (pc := 524) dL_law_524 ?_
      refine sn_xld (pc := 525) dL_law_525 (fun v1084 => ?_)
      refine sn_aload_n (pc := 526) (j := 0) dL_law_526 rfl rfl ?_
      refine sn_iload_n (pc := 527) (j := 3) dL_law_527 rfl rfl ?_
      refine sn_iconst (pc := 528) (v := 2) dL_law_528 (by decide) ?_
      refine sn_iadd (pc := 529) dL_law_529 ?_
      refine sn_xld (pc := 530) dL_law_530 (fun v1085 => ?_)
      refine sn_aload_n (pc := 531) (j := 0) dL_law_531 rfl rfl ?_
      refine sn_iload_n (pc := 532) (j := 3) dL_law_532 rfl rfl ?_
      refine sn_iconst (pc := 533) (v := 3) dL_law_533 (by decide) ?_
      refine sn_iadd (pc := 534) dL_law_534 ?_
      refine sn_xld (pc := 535) dL_law_535 (fun v1086 => ?_)
      rcases x2 with _ | a1087
      · exact sn_no
      refine sn_nn ?_
      refine sn_callV (ci := 12) (pc := 536) dL_law_536 iX12_hand wt7_72 wt7_73 wt7_71 ⟨_, rfl, rfl⟩ (by decide) (mX12_hand a1087 v1084 v1085 v1086) (Nat.le_of_ble_eq_true rfl) rfl rfl (Nat.le_of_ble_eq_true rfl) (fun v1088 => ?_)
      refine sn_icmp_eq (pc := 539) (tgt := 1494) dL_law_539 (by decide) ?_ ?_
      · exact sn_sub (lv' := [(0, .ref E.2.2.2.2.2.1), (1, .ref (E.1 + a1082)), (2, .ref (E.1 + a1087)), (3, .int x3)]) [0, 1, 2, 3] rfl (sfL_law_1494 k18 hk18 (some a1082) (some a1087) x3)
      · refine sn_iconst (pc := 542) (v := 0) dL_law_542 (by decide) ?_
        exact sn_zret (pc := 543) dL_law_543 rfl
    refine sw_case (tgt := 544) 10 dL_law_33 (by decide) (by decide) rfl (by decide) ?_ ?_
    · refine sn_aloadR_n (pc := 544) (r := x1) (j := 1) dL_law_544 rfl rfl ?_
      refine sn_aload_n (pc := 545) (j := 0) dL_law_545 rfl rfl ?_
      refine sn_iload_n (pc := 546) (j := 3) dL_law_546 rfl rfl ?_
      refine sn_iconst (pc := 547) (v := 1) dL_law_547 (by decide) ?_
      refine sn_iadd (pc := 548) dL_law_548 ?_
      refine sn_xld (pc := 549) dL_law_549 (fun v1089 => ?_)
      refine sn_aload_n (pc := 550) (j := 0) dL_law_550 rfl rfl ?_
      refine sn_iload_n (pc := 551) (j := 3) dL_law_551 rfl rfl ?_
      refine sn_iconst (pc := 552) (v := 2) dL_law_552 (by decide) ?_
      refine sn_iadd (pc := 553) dL_law_553 ?_
      refine sn_xld (pc := 554) dL_law_554 (fun v1090 => ?_)
      refine sn_aload_n (pc := 555) (j := 0) dL_law_555 rfl rfl ?_
      refine sn_iload_n (pc := 556) (j := 3) dL_law_556 rfl rfl ?_
      refine sn_iconst (pc := 557) (v := 3) dL_law_557 (by decide) ?_
      refine sn_iadd (pc := 558) dL_law_558 ?_
      refine sn_xld (pc := 559) dL_law_559 (fun v1091 => ?_)
      rcases x1 with _ | a1092
      · exact sn_no
      refine sn_nn ?_
      refine sn_callV (ci := 11) (pc := 560) dL_law_560 iX11_habit wt4_50 wt4_51 wt4_49 ⟨_, rfl, rfl⟩ (by decide) (mX11_habit a1092 v1089 v1090 v1091) (Nat.le_of_ble_eq_true rfl) rfl rfl (Nat.le_of_ble_eq_true rfl) (fun v1093 => ?_)
      refine sn_aloadR_n (pc := 563) (r := x2) (j := 2) dL_law_563 rfl rfl ?_
      refine sn_aload_n (pc := 564) (j := 0) dL_law_564 rfl rfl ?_
      refine sn_iload_n (pc := 565) (j := 3) dL_law_565 rfl rfl ?_
      refine sn_iconst (pc := 566) (v := 1) dL_law_566 (by decide) ?_
      refine sn_iadd (pc := 567) dL_law_567 ?_
      refine sn_xld (pc := 568) dL_law_568 (fun v1094 => ?_)
      refine sn_aload_n (pc := 569) (j := 0) dL_law_569 rfl rfl ?_
      refine sn_iload_n (pc := 570) (j := 3) dL_law_570 rfl rfl ?_
      refine sn_iconst (pc := 571) (v := 2) dL_law_571 (by decide) ?_
      refine sn_iadd (pc := 572) dL_law_572 ?_
      refine sn_xld (pc := 573) dL_law_573 (fun v1095 => ?_)
      refine sn_aload_n (pc := 574) (j := 0) dL_law_574 rfl rfl ?_
      refine sn_iload_n (pc := 575) (j := 3) dL_law_575 rfl rfl ?_
      refine sn_iconst (pc := 576) (v := 3) dL_law_576 (by decide) ?_
      refine sn_iadd (pc := 577) dL_law_577 ?_
      refine sn_xld (pc := 578) dL_law_578 (fun v1096 => ?_)
      rcases x2 with _ | a1097
      · exact sn_no
      refine sn_nn ?_
      refine sn_callV (ci := 12) (pc := 579) dL_law_579 iX12_habit wt7_76 wt7_77 wt7_75 ⟨_, rfl, rfl⟩ (by decide) (mX12_habit a1097 v1094 v1095 v1096) (Nat.le_of_ble_eq_true rfl) rfl rfl (Nat.le_of_ble_eq_true rfl) (fun v1098 => ?_)
      refine sn_icmp_eq (pc := 582) (tgt := 1494) dL_law_582 (by decide) ?_ ?_
      · exact sn_sub (lv' := [(0, .ref E.2.2.2.2.2.1), (1, .ref (E.1 + a1092)), (2, .ref (E.1 + a1097)), (3, .int x3)]) [0, 1, 2, 3] rfl (sfL_law_1494 k18 hk18 (some a1092) (some a1097) x3)
      · refine sn_iconst (pc := 585) (v := 0) dL_law_585 (by decide) ?_
        exact sn_zret (pc := 586) dL_law_586 rfl
    refine sw_case (tgt := 587) 11 dL_law_33 (by decide) (by decide) rfl (by decide) ?_ ?_
    · refine sn_aloadR_n (pc := 587) (r := x1) (j := 1) dL_law_587 rfl rfl ?_
      refine sn_aload_n (pc := 588) (j := 0) dL_law_588 rfl rfl ?_
      refine sn_iload_n (pc := 589) (j := 3) dL_law_589 rfl rfl ?_
      refine sn_iconst (pc := 590) (v := 1) dL_law_590 (by decide) ?_
      refine sn_iadd (pc := 591) dL_law_591 ?_
      refine sn_xld (pc := 592) dL_law_592 (fun v1099 => ?_)
      refine sn_aload_n (pc := 593) (j := 0) dL_law_593 rfl rfl ?_
      refine sn_iload_n (pc := 594) (j := 3) dL_law_594 rfl rfl ?_
      refine sn_iconst (pc := 595) (v := 2) dL_law_595 (by decide) ?_
      refine sn_iadd (pc := 596) dL_law_596 ?_
      refine sn_xld (pc := 597) dL_law_597 (fun v1100 => ?_)
      refine sn_aload_n (pc := 598) (j := 0) dL_law_598 rfl rfl ?_
      refine sn_iload_n (pc := 599) (j := 3) dL_law_599 rfl rfl ?_
      refine sn_iconst (pc := 600) (v := 3) dL_law_600 (by decide) ?_
      refine sn_iadd (pc := 601) dL_law_601 ?_
      refine sn_xld (pc := 602) dL_law_602 (fun v1101 => ?_)
      refine sn_if_eq (pc := 603) (tgt := 610) dL_law_603 (by decide) ?_ ?_
      · refine sn_iconst (pc := 610) (v := 0) dL_law_610 (by decide) ?_
        exact sn_sub (lv' := [(0, .ref E.2.2.2.2.2.1), (1, rf E.1 x1), (2, rf E.1 x2), (3, .int x3)]) [0, 1, 2, 3] rfl (sfL_law_611 k18 hk18 x1 x2 x3 0 v1100 v1099 x1)
      · refine sn_iconst (pc := 606) (v := 1) dL_law_606 (by decide) ?_
        refine sn_goto (pc := 607) (tgt := 611) dL_law_607 (by decide) ?_
        exact sn_sub (lv' := [(0, .ref E.2.2.2.2.2.1), (1, rf E.1 x1), (2, rf E.1 x2), (3, .int x3)]) [0, 1, 2, 3] rfl (sfL_law_611 k18 hk18 x1 x2 x3 1 v1100 v1099 x1)
    refine sw_case (tgt := 646) 12 dL_law_33 (by decide) (by decide) rfl (by decide) ?_ ?_
    · refine sn_aloadR_n (pc := 646) (r := x1) (j := 1) dL_law_646 rfl rfl ?_
      refine sn_aload_n (pc := 647) (j := 0) dL_law_647 rfl rfl ?_
      refine sn_iload_n (pc := 648) (j := 3) dL_law_648 rfl rfl ?_
      refine sn_iconst (pc := 649) (v := 1) dL_law_649 (by decide) ?_
      refine sn_iadd (pc := 650) dL_law_650 ?_
      refine sn_xld (pc := 651) dL_law_651 (fun v1102 => ?_)
      refine sn_aload_n (pc := 652) (j := 0) dL_law_652 rfl rfl ?_
      refine sn_iload_n (pc := 653) (j := 3) dL_law_653 rfl rfl ?_
      refine sn_iconst (pc := 654) (v := 2) dL_law_654 (by decide) ?_
      refine sn_iadd (pc := 655) dL_law_655 ?_
      refine sn_xld (pc := 656) dL_law_656 (fun v1103 => ?_)
      rcases x1 with _ | a1104
      · exact sn_no
      refine sn_nn ?_
      refine sn_callV (ci := 11) (pc := 657) dL_law_657 iX11_advance wt4_67 wt4_68 wt4_66 ⟨_, rfl, rfl⟩ (by decide) (mX11_advance a1104 v1102 v1103) (Nat.le_of_ble_eq_true rfl) rfl rfl (Nat.le_of_ble_eq_true rfl) (fun v1105 => ?_)
      refine sn_aloadR_n (pc := 660) (r := x2) (j := 2) dL_law_660 rfl rfl ?_
      refine sn_aload_n (pc := 661) (j := 0) dL_law_661 rfl rfl ?_
      refine sn_iload_n (pc := 662) (j := 3) dL_law_662 rfl rfl ?_
      refine sn_iconst (pc := 663) (v := 1) dL_law_663 (by decide) ?_
      refine sn_iadd (pc := 664) dL_law_664 ?_
      refine sn_xld (pc := 665) dL_law_665 (fun v1106 => ?_)
      refine sn_aload_n (pc := 666) (j := 0) dL_law_666 rfl rfl ?_
      refine sn_iload_n (pc := 667) (j := 3) dL_law_667 rfl rfl ?_
      refine sn_iconst (pc := 668) (v := 2) dL_law_668 (by decide) ?_
      refine sn_iadd (pc := 669) dL_law_669 ?_
      refine sn_xld (pc := 670) dL_law_670 (fun v1107 => ?_)
      rcases x2 with _ | a1108
      · exact sn_no
      refine sn_nn ?_
      refine sn_callV (ci := 12) (pc := 671) dL_law_671 iX12_advance wt7_84 wt7_85 wt7_83 ⟨_, rfl, rfl⟩ (by decide) (mX12_advance a1108 v1106 v1107) (Nat.le_of_ble_eq_true rfl) rfl rfl (Nat.le_of_ble_eq_true rfl) (fun v1109 => ?_)
      refine sn_icmp_eq (pc := 674) (tgt := 1494) dL_law_674 (by decide) ?_ ?_
      · exact sn_sub (lv' := [(0, .ref E.2.2.2.2.2.1), (1, .ref (E.1 + a1104)), (2, .ref (E.1 + a1108)), (3, .int x3)]) [0, 1, 2, 3] rfl (sfL_law_1494 k18 hk18 (some a1104) (some a1108) x3)
      · refine sn_iconst (pc := 677) (v := 0) dL_law_677 (by decide) ?_
        exact sn_zret (pc := 678) dL_law_678 rfl
    refine sw_case (tgt := 679) 13 dL_law_33 (by decide) (by decide) rfl (by decide) ?_ ?_
    · refine sn_aloadR_n (pc := 679) (r := x1) (j := 1) dL_law_679 rfl rfl ?_
      refine sn_aload_n (pc := 680) (j := 0) dL_law_680 rfl rfl ?_
      refine sn_iload_n (pc := 681) (j := 3) dL_law_681 rfl rfl ?_
      refine sn_iconst (pc := 682) (v := 1) dL_law_682 (by decide) ?_
      refine sn_iadd (pc := 683) dL_law_683 ?_
      refine sn_xld (pc := 684) dL_law_684 (fun v1110 => ?_)
      refine sn_aload_n (pc := 685) (j := 0) dL_law_685 rfl rfl ?_
      refine sn_iload_n (pc := 686) (j := 3) dL_law_686 rfl rfl ?_
      refine sn_iconst (pc := 687) (v := 2) dL_law_687 (by decide) ?_
      refine sn_iadd (pc := 688) dL_law_688 ?_
      refine sn_xld (pc := 689) dL_law_689 (fun v1111 => ?_)
      rcases x1 with _ | a1112
      · exact sn_no
      refine sn_nn ?_
      refine sn_callV (ci := 11) (pc := 690) dL_law_690 iX11_tell wt4_72 wt4_73 wt4_71 ⟨_, rfl, rfl⟩ (by decide) (mX11_tell a1112 v1110 v1111) (Nat.le_of_ble_eq_true rfl) rfl rfl (Nat.le_of_ble_eq_true rfl) (fun v1113 => ?_)
      refine sn_aloadR_n (pc := 693) (r := x2) (j := 2) dL_law_693 rfl rfl ?_
      refine sn_aload_n (pc := 694) (j := 0) dL_law_694 rfl rfl ?_
      refine sn_iload_n (pc := 695) (j := 3) dL_law_695 rfl rfl ?_
      refine sn_iconst (pc := 696) (v := 1) dL_law_696 (by decide) ?_
      refine sn_iadd (pc := 697) dL_law_697 ?_
      refine sn_xld (pc := 698) dL_law_698 (fun v1114 => ?_)
      refine sn_aload_n (pc := 699) (j := 0) dL_law_699 rfl rfl ?_
      refine sn_iload_n (pc := 700) (j := 3) dL_law_700 rfl rfl ?_
      refine sn_iconst (pc := 701) (v := 2) dL_law_701 (by decide) ?_
      refine sn_iadd (pc := 702) dL_law_702 ?_
      refine sn_xld (pc := 703) dL_law_703 (fun v1115 => ?_)
      rcases x2 with _ | a1116
      · exact sn_no
      refine sn_nn ?_
      refine sn_callV (ci := 12) (pc := 704) dL_law_704 iX12_tell wt7_89 wt7_90 wt7_88 ⟨_, rfl, rfl⟩ (by decide) (mX12_tell a1116 v1114 v1115) (Nat.le_of_ble_eq_true rfl) rfl rfl (Nat.le_of_ble_eq_true rfl) (fun v1117 => ?_)
      refine sn_icmp_eq (pc := 707) (tgt := 1494) dL_law_707 (by decide) ?_ ?_
      · exact sn_sub (lv' := [(0, .ref E.2.2.2.2.2.1), (1, .ref (E.1 + a1112)), (2, .ref (E.1 + a1116)), (3, .int x3)]) [0, 1, 2, 3] rfl (sfL_law_1494 k18 hk18 (some a1112) (some a1116) x3)
      · refine sn_iconst (pc := 710) (v := 0) dL_law_710 (by decide) ?_
        exact sn_zret (pc := 711) dL_law_711 rfl
    refine sw_case (tgt := 712) 14 dL_law_33 (by decide) (by decide) rfl (by decide) ?_ ?_
    · refine sn_aloadR_n (pc := 712) (r := x1) (j := 1) dL_law_712 rfl rfl ?_
      refine sn_aload_n (pc := 713) (j := 0) dL_law_713 rfl rfl ?_
      refine sn_iload_n (pc := 714) (j := 3) dL_law_714 rfl rfl ?_
      refine sn_iconst (pc := 715) (v := 1) dL_law_715 (by decide) ?_
      refine sn_iadd (pc := 716) dL_law_716 ?_
      refine sn_xld (pc := 717) dL_law_717 (fun v1118 => ?_)
      refine sn_aload_n (pc := 718) (j := 0) dL_law_718 rfl rfl ?_
      refine sn_iload_n (pc := 719) (j := 3) dL_law_719 rfl rfl ?_
      refine sn_iconst (pc := 720) (v := 2) dL_law_720 (by decide) ?_
      refine sn_iadd (pc := 721) dL_law_721 ?_
      refine sn_xld (pc := 722) dL_law_722 (fun v1119 => ?_)
      refine sn_aload_n (pc := 723) (j := 0) dL_law_723 rfl rfl ?_
      refine sn_iload_n (pc := 724) (j := 3) dL_law_724 rfl rfl ?_
      refine sn_iconst (pc := 725) (v := 3) dL_law_725 (by decide) ?_
      refine sn_iadd (pc := 726) dL_law_726 ?_
      refine sn_xld (pc := 727) dL_law_727 (fun v1120 => ?_)
      refine sn_aload_n (pc := 728) (j := 0) dL_law_728 rfl rfl ?_
      refine sn_iload_n (pc := 729) (j := 3) dL_law_729 rfl rfl ?_
      refine sn_iconst (pc := 730) (v := 4) dL_law_730 (by decide) ?_
      refine sn_iadd (pc := 731) dL_law_731 ?_
      refine sn_xld (pc := 732) dL_law_732 (fun v1121 => ?_)
      refine sn_aload_n (pc := 733) (j := 0) dL_law_733 rfl rfl ?_
      refine sn_iload_n (pc := 734) (j := 3) dL_law_734 rfl rfl ?_
      refine sn_iconst (pc := 735) (v := 5) dL_law_735 (by decide) ?_
      refine sn_iadd (pc := 736) dL_law_736 ?_
      refine sn_xld (pc := 737) dL_law_737 (fun v1122 => ?_)
      refine sn_aload_n (pc := 738) (j := 0) dL_law_738 rfl rfl ?_
      refine sn_iload_n (pc := 739) (j := 3) dL_law_739 rfl rfl ?_
      refine sn_bipush (pc := 740) (v := 6) dL_law_740 (by decide) ?_
      refine sn_iadd (pc := 742) dL_law_742 ?_
      refine sn_xld (pc := 743) dL_law_743 (fun v1123 => ?_)
      rcases x1 with _ | a1124
      · exact sn_no
      refine sn_nn ?_
      refine sn_callV (ci := 11) (pc := 744) dL_law_744 iX11_term wt4_88 wt4_89 wt4_87 ⟨_, rfl, rfl⟩ (by decide) (mX11_term a1124 v1118 v1119 v1120 v1121 v1122 v1123) (Nat.le_of_ble_eq_true rfl) rfl rfl (Nat.le_of_ble_eq_true rfl) (fun v1125 => ?_)
      refine sn_aloadR_n (pc := 747) (r := x2) (j := 2) dL_law_747 rfl rfl ?_
      refine sn_aload_n (pc := 748) (j := 0) dL_law_748 rfl rfl ?_
      refine sn_iload_n (pc := 749) (j := 3) dL_law_749 rfl rfl ?_
      refine sn_iconst (pc := 750) (v := 1) dL_law_750 (by decide) ?_
      refine sn_iadd (pc := 751) dL_law_751 ?_
      refine sn_xld (pc := 752) dL_law_752 (fun v1126 => ?_)
      refine sn_aload_n (pc := 753) (j := 0) dL_law_753 rfl rfl ?_
      refine sn_iload_n (pc := 754) (j := 3) dL_law_754 rfl rfl ?_
      refine sn_iconst (pc := 755) (v := 2) dL_law_755 (by decide) ?_
      refine sn_iadd (pc := 756) dL_law_756 ?_
      refine sn_xld (pc := 757) dL_law_757 (fun v1127 => ?_)
      refine sn_aload_n (pc := 758) (j := 0) dL_law_758 rfl rfl ?_
      refine sn_iload_n (pc := 759) (j := 3) dL_law_759 rfl rfl ?_
      refine sn_iconst (pc := 760) (v := 3) dL_law_760 (by decide) ?_
      refine sn_iadd (pc := 761) dL_law_761 ?_
      refine sn_xld (pc := 762) dL_law_762 (fun v1128 => ?_)
      refine sn_aload_n (pc := 763) (j := 0) dL_law_763 rfl rfl ?_
      refine sn_iload_n (pc := 764) (j := 3) dL_law_764 rfl rfl ?_
      refine sn_iconst (pc := 765) (v := 4) dL_law_765 (by decide) ?_
      refine sn_iadd (pc := 766) dL_law_766 ?_
      refine sn_xld (pc := 767) dL_law_767 (fun v1129 => ?_)
      refine sn_aload_n (pc := 768) (j := 0) dL_law_768 rfl rfl ?_
      refine sn_iload_n (pc := 769) (j := 3) dL_law_769 rfl rfl ?_
      refine sn_iconst (pc := 770) (v := 5) dL_law_770 (by decide) ?_
      refine sn_iadd (pc := 771) dL_law_771 ?_
      refine sn_xld (pc := 772) dL_law_772 (fun v1130 => ?_)
      refine sn_aload_n (pc := 773) (j := 0) dL_law_773 rfl rfl ?_
      refine sn_iload_n (pc := 774) (j := 3) dL_law_774 rfl rfl ?_
      refine sn_bipush (pc := 775) (v := 6) dL_law_775 (by decide) ?_
      refine sn_iadd (pc := 777) dL_law_777 ?_
      refine sn_xld (pc := 778) dL_law_778 (fun v1131 => ?_)
      rcases x2 with _ | a1132
      · exact sn_no
      refine sn_nn ?_
      refine sn_callV (ci := 12) (pc := 779) dL_law_779 iX12_term wt7_37 wt7_38 wt7_36 ⟨_, rfl, rfl⟩ (by decide) (mX12_term a1132 v1126 v1127 v1128 v1129 v1130 v1131) (Nat.le_of_ble_eq_true rfl) rfl rfl (Nat.le_of_ble_eq_true rfl) (fun v1133 => ?_)
      refine sn_icmp_eq (pc := 782) (tgt := 1494) dL_law_782 (by decide) ?_ ?_
      · exact sn_sub (lv' := [(0, .ref E.2.2.2.2.2.1), (1, .ref (E.1 + a1124)), (2, .ref (E.1 + a1132)), (3, .int x3)]) [0, 1, 2, 3] rfl (sfL_law_1494 k18 hk18 (some a1124) (some a1132) x3)
      · refine sn_iconst (pc := 785) (v := 0) dL_law_785 (by decide) ?_
        exact sn_zret (pc := 786) dL_law_786 rfl
    refine sw_case (tgt := 787) 15 dL_law_33 (by decide) (by decide) rfl (by decide) ?_ ?_
    · refine sn_aloadR_n (pc := 787) (r := x1) (j := 1) dL_law_787 rfl rfl ?_
      refine sn_aload_n (pc := 788) (j := 0) dL_law_788 rfl rfl ?_
      refine sn_iload_n (pc := 789) (j := 3) dL_law_789 rfl rfl ?_
      refine sn_iconst (pc := 790) (v := 1) dL_law_790 (by decide) ?_
      refine sn_iadd (pc := 791) dL_law_791 ?_
      refine sn_xld (pc := 792) dL_law_792 (fun v1134 => ?_)
      refine sn_aload_n (pc := 793) (j := 0) dL_law_793 rfl rfl ?_
      refine sn_iload_n (pc := 794) (j := 3) dL_law_794 rfl rfl ?_
      refine sn_iconst (pc := 795) (v := 2) dL_law_795 (by decide) ?_
      refine sn_iadd (pc := 796) dL_law_796 ?_
      refine sn_xld (pc := 797) dL_law_797 (fun v1135 => ?_)
      refine sn_aload_n (pc := 798) (j := 0) dL_law_798 rfl rfl ?_
      refine sn_iload_n (pc := 799) (j := 3) dL_law_799 rfl rfl ?_
      refine sn_iconst (pc := 800) (v := 3) dL_law_800 (by decide) ?_
      refine sn_iadd (pc := 801) dL_law_801 ?_
      refine sn_xld (pc := 802) dL_law_802 (fun v1136 => ?_)
      rcases x1 with _ | a1137
      · exact sn_no
      refine sn_nn ?_
      refine sn_callV (ci := 11) (pc := 803) dL_law_803 iX11_out wt4_127 wt4_128 wt4_126 ⟨_, rfl, rfl⟩ (by decide) (mX11_out a1137 v1134 v1135 v1136) (Nat.le_of_ble_eq_true rfl) rfl rfl (Nat.le_of_ble_eq_true rfl) (fun v1138 => ?_)
      refine sn_aloadR_n (pc := 806) (r := x2) (j := 2) dL_law_806 rfl rfl ?_
      refine sn_aload_n (pc := 807) (j := 0) dL_law_807 rfl rfl ?_
      refine sn_iload_n (pc := 808) (j := 3) dL_law_808 rfl rfl ?_
      refine sn_iconst (pc := 809) (v := 1) dL_law_809 (by decide) ?_
      refine sn_iadd (pc := 810) dL_law_810 ?_
      refine sn_xld (pc := 811) dL_law_811 (fun v1139 => ?_)
      refine sn_aload_n (pc := 812) (j := 0) dL_law_812 rfl rfl ?_
      refine sn_iload_n (pc := 813) (j := 3) dL_law_813 rfl rfl ?_
      refine sn_iconst (pc := 814) (v := 2) dL_law_814 (by decide) ?_
      refine sn_iadd (pc := 815) dL_law_815 ?_
      refine sn_xld (pc := 816) dL_law_816 (fun v1140 => ?_)
      refine sn_aload_n (pc := 817) (j := 0) dL_law_817 rfl rfl ?_
      refine sn_iload_n (pc := 818) (j := 3) dL_law_818 rfl rfl ?_
      refine sn_iconst (pc := 819) (v := 3) dL_law_819 (by decide) ?_
      refine sn_iadd (pc := 820) dL_law_820 ?_
      refine sn_xld (pc := 821) dL_law_821 (fun v1141 => ?_)
      rcases x2 with _ | a1142
      · exact sn_no
      refine sn_nn ?_
      refine sn_callV (ci := 12) (pc := 822) dL_law_822 iX12_out wt7_97 wt7_98 wt7_96 ⟨_, rfl, rfl⟩ (by decide) (mX12_out a1142 v1139 v1140 v1141) (Nat.le_of_ble_eq_true rfl) rfl rfl (Nat.le_of_ble_eq_true rfl) (fun v1143 => ?_)
      refine sn_icmp_eq (pc := 825) (tgt := 1494) dL_law_825 (by decide) ?_ ?_
      · exact sn_sub (lv' := [(0, .ref E.2.2.2.2.2.1), (1, .ref (E.1 + a1137)), (2, .ref (E.1 + a1142)), (3, .int x3)]) [0, 1, 2, 3] rfl (sfL_law_1494 k18 hk18 (some a1137) (some a1142) x3)
      · refine sn_iconst (pc := 828) (v := 0) dL_law_828 (by decide) ?_
        exact sn_zret (pc := 829) dL_law_829 rfl
    refine sw_case (tgt := 830) 16 dL_law_33 (by decide) (by decide) rfl (by decide) ?_ ?_
    · refine sn_aloadR_n (pc := 830) (r := x1) (j := 1) dL_law_830 rfl rfl ?_
      refine sn_aload_n (pc := 831) (j := 0) dL_law_831 rfl rfl ?_
      refine sn_iload_n (pc := 832) (j := 3) dL_law_832 rfl rfl ?_
      refine sn_iconst (pc := 833) (v := 1) dL_law_833 (by decide) ?_
      refine sn_iadd (pc := 834) dL_law_834 ?_
      refine sn_xld (pc := 835) dL_law_835 (fun v1144 => ?_)
      refine sn_aload_n (pc := 836) (j := 0) dL_law_836 rfl rfl ?_
      refine sn_iload_n (pc := 837) (j := 3) dL_law_837 rfl rfl ?_
      refine sn_iconst (pc := 838) (v := 2) dL_law_838 (by decide) ?_
      refine sn_iadd (pc := 839) dL_law_839 ?_
      refine sn_xld (pc := 840) dL_law_840 (fun v1145 => ?_)
      refine sn_aload_n (pc := 841) (j := 0) dL_law_841 rfl rfl ?_
      refine sn_iload_n (pc := 842) (j := 3) dL_law_842 rfl rfl ?_
      refine sn_iconst (pc := 843) (v := 3) dL_law_843 (by decide) ?_
      refine sn_iadd (pc := 844) dL_law_844 ?_
      refine sn_xld (pc := 845) dL_law_845 (fun v1146 => ?_)
      rcases x1 with _ | a1147
      · exact sn_no
      refine sn_nn ?_
      refine sn_callV (ci := 11) (pc := 846) dL_law_846 iX11_in wt4_201 wt4_202 wt4_200 ⟨_, rfl, rfl⟩ (by decide) (mX11_in a1147 v1144 v1145 v1146) (Nat.le_of_ble_eq_true rfl) rfl rfl (Nat.le_of_ble_eq_true rfl) (fun v1148 => ?_)
      refine sn_aloadR_n (pc := 849) (r := x2) (j := 2) dL_law_849 rfl rfl ?_
      refine sn_aload_n (pc := 850) (j := 0) dL_law_850 rfl rfl ?_
      refine sn_iload_n (pc := 851) (j := 3) dL_law_851 rfl rfl ?_
      refine sn_iconst (pc := 852) (v := 1) dL_law_852 (by decide) ?_
      refine sn_iadd (pc := 853) dL_law_853 ?_
      refine sn_xld (pc := 854) dL_law_854 (fun v1149 => ?_)
      refine sn_aload_n (pc := 855) (j := 0) dL_law_855 rfl rfl ?_
      refine sn_iload_n (pc := 856) (j := 3) dL_law_856 rfl rfl ?_
      refine sn_iconst (pc := 857) (v := 2) dL_law_857 (by decide) ?_
      refine sn_iadd (pc := 858) dL_law_858 ?_
      refine sn_xld (pc := 859) dL_law_859 (fun v1150 => ?_)
      refine sn_aload_n (pc := 860) (j := 0) dL_law_860 rfl rfl ?_
      refine sn_iload_n (pc := 861) (j := 3) dL_law_861 rfl rfl ?_
      refine sn_iconst (pc := 862) (v := 3) dL_law_862 (by decide) ?_
      refine sn_iadd (pc := 863) dL_law_863 ?_
      refine sn_xld (pc := 864) dL_law_864 (fun v1151 => ?_)
      rcases x2 with _ | a1152
      · exact sn_no
      refine sn_nn ?_
      refine sn_callV (ci := 12) (pc := 865) dL_law_865 iX12_in wt7_101 wt7_102 wt7_100 ⟨_, rfl, rfl⟩ (by decide) (mX12_in a1152 v1149 v1150 v1151) (Nat.le_of_ble_eq_true rfl) rfl rfl (Nat.le_of_ble_eq_true rfl) (fun v1153 => ?_)
      refine sn_icmp_eq (pc := 868) (tgt := 1494) dL_law_868 (by decide) ?_ ?_
      · exact sn_sub (lv' := [(0, .ref E.2.2.2.2.2.1), (1, .ref (E.1 + a1147)), (2, .ref (E.1 + a1152)), (3, .int x3)]) [0, 1, 2, 3] rfl (sfL_law_1494 k18 hk18 (some a1147) (some a1152) x3)
      · refine sn_iconst (pc := 871) (v := 0) dL_law_871 (by decide) ?_
        exact sn_zret (pc := 872) dL_law_872 rfl
    refine sw_case (tgt := 873) 17 dL_law_33 (by decide) (by decide) rfl (by decide) ?_ ?_
    · refine sn_aloadR_n (pc := 873) (r := x1) (j := 1) dL_law_873 rfl rfl ?_
      refine sn_aload_n (pc := 874) (j := 0) dL_law_874 rfl rfl ?_
      refine sn_iload_n (pc := 875) (j := 3) dL_law_875 rfl rfl ?_
      refine sn_iconst (pc := 876) (v := 1) dL_law_876 (by decide) ?_
      refine sn_iadd (pc := 877) dL_law_877 ?_
      refine sn_xld (pc := 878) dL_law_878 (fun v1154 => ?_)
      refine sn_aload_n (pc := 879) (j := 0) dL_law_879 rfl rfl ?_
      refine sn_iload_n (pc := 880) (j := 3) dL_law_880 rfl rfl ?_
      refine sn_iconst (pc := 881) (v := 2) dL_law_881 (by decide) ?_
      refine sn_iadd (pc := 882) dL_law_882 ?_
      refine sn_xld (pc := 883) dL_law_883 (fun v1155 => ?_)
      rcases x1 with _ | a1156
      · exact sn_no
      refine sn_nn ?_
      refine sn_callV (ci := 11) (pc := 884) dL_law_884 iX11_piece wt5_7 wt5_8 wt5_6 ⟨_, rfl, rfl⟩ (by decide) (mX11_piece a1156 v1154 v1155) (Nat.le_of_ble_eq_true rfl) rfl rfl (Nat.le_of_ble_eq_true rfl) (fun v1157 => ?_)
      refine sn_aloadR_n (pc := 887) (r := x2) (j := 2) dL_law_887 rfl rfl ?_
      refine sn_aload_n (pc := 888) (j := 0) dL_law_888 rfl rfl ?_
      refine sn_iload_n (pc := 889) (j := 3) dL_law_889 rfl rfl ?_
      refine sn_iconst (pc := 890) (v := 1) dL_law_890 (by decide) ?_
      refine sn_iadd (pc := 891) dL_law_891 ?_
      refine sn_xld (pc := 892) dL_law_892 (fun v1158 => ?_)
      refine sn_aload_n (pc := 893) (j := 0) dL_law_893 rfl rfl ?_
      refine sn_iload_n (pc := 894) (j := 3) dL_law_894 rfl rfl ?_
      refine sn_iconst (pc := 895) (v := 2) dL_law_895 (by decide) ?_
      refine sn_iadd (pc := 896) dL_law_896 ?_
      refine sn_xld (pc := 897) dL_law_897 (fun v1159 => ?_)
      rcases x2 with _ | a1160
      · exact sn_no
      refine sn_nn ?_
      refine sn_callV (ci := 12) (pc := 898) dL_law_898 iX12_piece wt7_110 wt7_111 wt7_109 ⟨_, rfl, rfl⟩ (by decide) (mX12_piece a1160 v1158 v1159) (Nat.le_of_ble_eq_true rfl) rfl rfl (Nat.le_of_ble_eq_true rfl) (fun v1161 => ?_)
      refine sn_icmp_eq (pc := 901) (tgt := 1494) dL_law_901 (by decide) ?_ ?_
      · exact sn_sub (lv' := [(0, .ref E.2.2.2.2.2.1), (1, .ref (E.1 + a1156)), (2, .ref (E.1 + a1160)), (3, .int x3)]) [0, 1, 2, 3] rfl (sfL_law_1494 k18 hk18 (some a1156) (some a1160) x3)
      · refine sn_iconst (pc := 904) (v := 0) dL_law_904 (by decide) ?_
        exact sn_zret (pc := 905) dL_law_905 rfl
    refine sw_case (tgt := 906) 18 dL_law_33 (by decide) (by decide) rfl (by decide) ?_ ?_
    · refine sn_aloadR_n (pc := 906) (r := x1) (j := 1) dL_law_906 rfl rfl ?_
      refine sn_aload_n (pc := 907) (j := 0) dL_law_907 rfl rfl ?_
      refine sn_iload_n (pc := 908) (j := 3) dL_law_908 rfl rfl ?_
      refine sn_iconst (pc := 909) (v := 1) dL_law_909 (by decide) ?_
      refine sn_iadd (pc := 910) dL_law_910 ?_
      refine sn_xld (pc := 911) dL_law_911 (fun v1162 => ?_)
      refine sn_aload_n (pc := 912) (j := 0) dL_law_912 rfl rfl ?_
      refine sn_iload_n (pc := 913) (j := 3) dL_law_913 rfl rfl ?_
      refine sn_iconst (pc := 914) (v := 2) dL_law_914 (by decide) ?_
      refine sn_iadd (pc := 915) dL_law_915 ?_
      refine sn_xld (pc := 916) dL_law_916 (fun v1163 => ?_)
      refine sn_aload_n (pc := 917) (j := 0) dL_law_917 rfl rfl ?_
      refine sn_iload_n (pc := 918) (j := 3) dL_law_918 rfl rfl ?_
      refine sn_iconst (pc := 919) (v := 3) dL_law_919 (by decide) ?_
      refine sn_iadd (pc := 920) dL_law_920 ?_
      refine sn_xld (pc := 921) dL_law_921 (fun v1164 => ?_)
      rcases x1 with _ | a1165
      · exact sn_no
      refine sn_nn ?_
      refine sn_callV (ci := 11) (pc := 922) dL_law_922 iX11_bill wt5_11 wt5_12 wt5_10 ⟨_, rfl, rfl⟩ (by decide) (mX11_bill a1165 v1162 v1163 v1164) (Nat.le_of_ble_eq_true rfl) rfl rfl (Nat.le_of_ble_eq_true rfl) (fun v1166 => ?_)
      refine sn_aloadR_n (pc := 925) (r := x2) (j := 2) dL_law_925 rfl rfl ?_
      refine sn_aload_n (pc := 926) (j := 0) dL_law_926 rfl rfl ?_
      refine sn_iload_n (pc := 927) (j := 3) dL_law_927 rfl rfl ?_
      refine sn_iconst (pc := 928) (v := 1) dL_law_928 (by decide) ?_
      refine sn_iadd (pc := 929) dL_law_929 ?_
      refine sn_xld (pc := 930) dL_law_930 (fun v1167 => ?_)
      refine sn_aload_n (pc := 931) (j := 0) dL_law_931 rfl rfl ?_
      refine sn_iload_n (pc := 932) (j := 3) dL_law_932 rfl rfl ?_
      refine sn_iconst (pc := 933) (v := 2) dL_law_933 (by decide) ?_
      refine sn_iadd (pc := 934) dL_law_934 ?_
      refine sn_xld (pc := 935) dL_law_935 (fun v1168 => ?_)
      refine sn_aload_n (pc := 936) (j := 0) dL_law_936 rfl rfl ?_
      refine sn_iload_n (pc := 937) (j := 3) dL_law_937 rfl rfl ?_
      refine sn_iconst (pc := 938) (v := 3) dL_law_938 (by decide) ?_
      refine sn_iadd (pc := 939) dL_law_939 ?_
      refine sn_xld (pc := 940) dL_law_940 (fun v1169 => ?_)
      rcases x2 with _ | a1170
      · exact sn_no
      refine sn_nn ?_
      refine sn_callV (ci := 12) (pc := 941) dL_law_941 iX12_bill wt7_114 wt7_115 wt7_113 ⟨_, rfl, rfl⟩ (by decide) (mX12_bill a1170 v1167 v1168 v1169) (Nat.le_of_ble_eq_true rfl) rfl rfl (Nat.le_of_ble_eq_true rfl) (fun v1171 => ?_)
      refine sn_icmp_eq (pc := 944) (tgt := 1494) dL_law_944 (by decide) ?_ ?_
      · exact sn_sub (lv' := [(0, .ref E.2.2.2.2.2.1), (1, .ref (E.1 + a1165)), (2, .ref (E.1 + a1170)), (3, .int x3)]) [0, 1, 2, 3] rfl (sfL_law_1494 k18 hk18 (some a1165) (some a1170) x3)
      · refine sn_iconst (pc := 947) (v := 0) dL_law_947 (by decide) ?_
        exact sn_zret (pc := 948) dL_law_948 rfl
    refine sw_case (tgt := 949) 19 dL_law_33 (by decide) (by decide) rfl (by decide) ?_ ?_
    · refine sn_aloadR_n (pc := 949) (r := x1) (j := 1) dL_law_949 rfl rfl ?_
      refine sn_aload_n (pc := 950) (j := 0) dL_law_950 rfl rfl ?_
      refine sn_iload_n (pc := 951) (j := 3) dL_law_951 rfl rfl ?_
      refine sn_iconst (pc := 952) (v := 1) dL_law_952 (by decide) ?_
      refine sn_iadd (pc := 953) dL_law_953 ?_
      refine sn_xld (pc := 954) dL_law_954 (fun v1172 => ?_)
      refine sn_aload_n (pc := 955) (j := 0) dL_law_955 rfl rfl ?_
      refine sn_iload_n (pc := 956) (j := 3) dL_law_956 rfl rfl ?_
      refine sn_iconst (pc := 957) (v := 2) dL_law_957 (by decide) ?_
      refine sn_iadd (pc := 958) dL_law_958 ?_
      refine sn_xld (pc := 959) dL_law_959 (fun v1173 => ?_)
      rcases x1 with _ | a1174
      · exact sn_no
      refine sn_nn ?_
      refine sn_callV (ci := 11) (pc := 960) dL_law_960 iX11_wronged wt5_15 wt5_16 wt5_14 ⟨_, rfl, rfl⟩ (by decide) (mX11_wronged a1174 v1172 v1173) (Nat.le_of_ble_eq_true rfl) rfl rfl (Nat.le_of_ble_eq_true rfl) (fun v1175 => ?_)
      refine sn_aloadR_n (pc := 963) (r := x2) (j := 2) dL_law_963 rfl rfl ?_
      refine sn_aload_n (pc := 964) (j := 0) dL_law_964 rfl rfl ?_
      refine sn_iload_n (pc := 965) (j := 3) dL_law_965 rfl rfl ?_
      refine sn_iconst (pc := 966) (v := 1) dL_law_966 (by decide) ?_
      refine sn_iadd (pc := 967) dL_law_967 ?_
      refine sn_xld (pc := 968) dL_law_968 (fun v1176 => ?_)
      refine sn_aload_n (pc := 969) (j := 0) dL_law_969 rfl rfl ?_
      refine sn_iload_n (pc := 970) (j := 3) dL_law_970 rfl rfl ?_
      refine sn_iconst (pc := 971) (v := 2) dL_law_971 (by decide) ?_
      refine sn_iadd (pc := 972) dL_law_972 ?_
      refine sn_xld (pc := 973) dL_law_973 (fun v1177 => ?_)
      rcases x2 with _ | a1178
      · exact sn_no
      refine sn_nn ?_
      refine sn_callV (ci := 12) (pc := 974) dL_law_974 iX12_wronged wt7_122 wt7_123 wt7_121 ⟨_, rfl, rfl⟩ (by decide) (mX12_wronged a1178 v1176 v1177) (Nat.le_of_ble_eq_true rfl) rfl rfl (Nat.le_of_ble_eq_true rfl) (fun v1179 => ?_)
      refine sn_icmp_eq (pc := 977) (tgt := 1494) dL_law_977 (by decide) ?_ ?_
      · exact sn_sub (lv' := [(0, .ref E.2.2.2.2.2.1), (1, .ref (E.1 + a1174)), (2, .ref (E.1 + a1178)), (3, .int x3)]) [0, 1, 2, 3] rfl (sfL_law_1494 k18 hk18 (some a1174) (some a1178) x3)
      · refine sn_iconst (pc := 980) (v := 0) dL_law_980 (by decide) ?_
        exact sn_zret (pc := 981) dL_law_981 rfl
    refine sw_case (tgt := 982) 20 dL_law_33 (by decide) (by decide) rfl (by decide) ?_ ?_
    · refine sn_aloadR_n (pc := 982) (r := x1) (j := 1) dL_law_982 rfl rfl ?_
      refine sn_aload_n (pc := 983) (j := 0) dL_law_983 rfl rfl ?_
      refine sn_iload_n (pc := 984) (j := 3) dL_law_984 rfl rfl ?_
      refine sn_iconst (pc := 985) (v := 1) dL_law_985 (by decide) ?_
      refine sn_iadd (pc := 986) dL_law_986 ?_
      refine sn_xld (pc := 987) dL_law_987 (fun v1180 => ?_)
      rcases x1 with _ | a1181
      · exact sn_no
      refine sn_nn ?_
      refine sn_callV (ci := 11) (pc := 988) dL_law_988 iX11_carried wt5_20 wt5_21 wt5_19 ⟨_, rfl, rfl⟩ (by decide) (mX11_carried a1181 v1180) (Nat.le_of_ble_eq_true rfl) rfl rfl (Nat.le_of_ble_eq_true rfl) (fun v1182 => ?_)
      refine sn_aloadR_n (pc := 991) (r := x2) (j := 2) dL_law_991 rfl rfl ?_
      refine sn_aload_n (pc := 992) (j := 0) dL_law_992 rfl rfl ?_
      refine sn_iload_n (pc := 993) (j := 3) dL_law_993 rfl rfl ?_
      refine sn_iconst (pc := 994) (v := 1) dL_law_994 (by decide) ?_
      refine sn_iadd (pc := 995) dL_law_995 ?_
      refine sn_xld (pc := 996) dL_law_996 (fun v1183 => ?_)
      rcases x2 with _ | a1184
      · exact sn_no
      refine sn_nn ?_
      refine sn_callV (ci := 12) (pc := 997) dL_law_997 iX12_carried wt7_127 wt7_128 wt7_126 ⟨_, rfl, rfl⟩ (by decide) (mX12_carried a1184 v1183) (Nat.le_of_ble_eq_true rfl) rfl rfl (Nat.le_of_ble_eq_true rfl) (fun v1185 => ?_)
      refine sn_icmp_eq (pc := 1000) (tgt := 1494) dL_law_1000 (by decide) ?_ ?_
      · exact sn_sub (lv' := [(0, .ref E.2.2.2.2.2.1), (1, .ref (E.1 + a1181)), (2, .ref (E.1 + a1184)), (3, .int x3)]) [0, 1, 2, 3] rfl (sfL_law_1494 k18 hk18 (some a1181) (some a1184) x3)
      · refine sn_iconst (pc := 1003) (v := 0) dL_law_1003 (by decide) ?_
        exact sn_zret (pc := 1004) dL_law_1004 rfl
    refine sw_case (tgt := 1005) 21 dL_law_33 (by decide) (by decide) rfl (by decide) ?_ ?_
    · refine sn_aloadR_n (pc := 1005) (r := x1) (j := 1) dL_law_1005 rfl rfl ?_
      refine sn_aload_n (pc := 1006) (j := 0) dL_law_1006 rfl rfl ?_
      refine sn_iload_n (pc := 1007) (j := 3) dL_law_1007 rfl rfl ?_
      refine sn_iconst (pc := 1008) (v := 1) dL_law_1008 (by decide) ?_
      refine sn_iadd (pc := 1009) dL_law_1009 ?_
      refine sn_xld (pc := 1010) dL_law_1010 (fun v1186 => ?_)
      refine sn_aload_n (pc := 1011) (j := 0) dL_law_1011 rfl rfl ?_
      refine sn_iload_n (pc := 1012) (j := 3) dL_law_1012 rfl rfl ?_
      refine sn_iconst (pc := 1013) (v := 2) dL_law_1013 (by decide) ?_
      refine sn_iadd (pc := 1014) dL_law_1014 ?_
      refine sn_xld (pc := 1015) dL_law_1015 (fun v1187 => ?_)
      refine sn_aload_n (pc := 1016) (j := 0) dL_law_1016 rfl rfl ?_
      refine sn_iload_n (pc := 1017) (j := 3) dL_law_1017 rfl rfl ?_
      refine sn_iconst (pc := 1018) (v := 3) dL_law_1018 (by decide) ?_
      refine sn_iadd (pc := 1019) dL_law_1019 ?_
      refine sn_xld (pc := 1020) dL_law_1020 (fun v1188 => ?_)
      refine sn_aload_n (pc := 1021) (j := 0) dL_law_1021 rfl rfl ?_
      refine sn_iload_n (pc := 1022) (j := 3) dL_law_1022 rfl rfl ?_
      refine sn_iconst (pc := 1023) (v := 4) dL_law_1023 (by decide) ?_
      refine sn_iadd (pc := 1024) dL_law_1024 ?_
      refine sn_xld (pc := 1025) dL_law_1025 (fun v1189 => ?_)
      rcases x1 with _ | a1190
      · exact sn_no
      refine sn_nn ?_
      refine sn_callV (ci := 11) (pc := 1026) dL_law_1026 iX11_write wt5_24 wt5_25 wt5_23 ⟨_, rfl, rfl⟩ (by decide) (mX11_write a1190 v1186 v1187 v1188 v1189) (Nat.le_of_ble_eq_true rfl) rfl rfl (Nat.le_of_ble_eq_true rfl) (fun v1191 => ?_)
      refine sn_aloadR_n (pc := 1029) (r := x2) (j := 2) dL_law_1029 rfl rfl ?_
      refine sn_aload_n (pc := 1030) (j := 0) dL_law_1030 rfl rfl ?_
      refine sn_iload_n (pc := 1031) (j := 3) dL_law_1031 rfl rfl ?_
      refine sn_iconst (pc := 1032) (v := 1) dL_law_1032 (by decide) ?_
      refine sn_iadd (pc := 1033) dL_law_1033 ?_
      refine sn_xld (pc := 1034) dL_law_1034 (fun v1192 => ?_)
      refine sn_aload_n (pc := 1035) (j := 0) dL_law_1035 rfl rfl ?_
      refine sn_iload_n (pc := 1036) (j := 3) dL_law_1036 rfl rfl ?_
      refine sn_iconst (pc := 1037) (v := 2) dL_law_1037 (by decide) ?_
      refine sn_iadd (pc := 1038) dL_law_1038 ?_
      refine sn_xld (pc := 1039) dL_law_1039 (fun v1193 => ?_)
      refine sn_aload_n (pc := 1040) (j := 0) dL_law_1040 rfl rfl ?_
      refine sn_iload_n (pc := 1041) (j := 3) dL_law_1041 rfl rfl ?_
      refine sn_iconst (pc := 1042) (v := 3) dL_law_1042 (by decide) ?_
      refine sn_iadd (pc := 1043) dL_law_1043 ?_
      refine sn_xld (pc := 1044) dL_law_1044 (fun v1194 => ?_)
      refine sn_aload_n (pc := 1045) (j := 0) dL_law_1045 rfl rfl ?_
      refine sn_iload_n (pc := 1046) (j := 3) dL_law_1046 rfl rfl ?_
      refine sn_iconst (pc := 1047) (v := 4) dL_law_1047 (by decide) ?_
      refine sn_iadd (pc := 1048) dL_law_1048 ?_
      refine sn_xld (pc := 1049) dL_law_1049 (fun v1195 => ?_)
      rcases x2 with _ | a1196
      · exact sn_no
      refine sn_nn ?_
      refine sn_callV (ci := 12) (pc := 1050) dL_law_1050 iX12_write wt7_131 wt7_132 wt7_130 ⟨_, rfl, rfl⟩ (by decide) (mX12_write a1196 v1192 v1193 v1194 v1195) (Nat.le_of_ble_eq_true rfl) rfl rfl (Nat.le_of_ble_eq_true rfl) (fun v1197 => ?_)
      refine sn_icmp_eq (pc := 1053) (tgt := 1494) dL_law_1053 (by decide) ?_ ?_
      · exact sn_sub (lv' := [(0, .ref E.2.2.2.2.2.1), (1, .ref (E.1 + a1190)), (2, .ref (E.1 + a1196)), (3, .int x3)]) [0, 1, 2, 3] rfl (sfL_law_1494 k18 hk18 (some a1190) (some a1196) x3)
      · refine sn_iconst (pc := 1056) (v := 0) dL_law_1056 (by decide) ?_
        exact sn_zret (pc := 1057) dL_law_1057 rfl
    refine sw_case (tgt := 1058) 22 dL_law_33 (by decide) (by decide) rfl (by decide) ?_ ?_
    · refine sn_aloadR_n (pc := 1058) (r := x1) (j := 1) dL_law_1058 rfl rfl ?_
      refine sn_aload_n (pc := 1059) (j := 0) dL_law_1059 rfl rfl ?_
      refine sn_iload_n (pc := 1060) (j := 3) dL_law_1060 rfl rfl ?_
      refine sn_iconst (pc := 1061) (v := 1) dL_law_1061 (by decide) ?_
      refine sn_iadd (pc := 1062) dL_law_1062 ?_
      refine sn_xld (pc := 1063) dL_law_1063 (fun v1198 => ?_)
      rcases x1 with _ | a1199
      · exact sn_no
      refine sn_nn ?_
      refine sn_callV (ci := 11) (pc := 1064) dL_law_1064 iX11_differ wt5_28 wt5_29 wt5_27 ⟨_, rfl, rfl⟩ (by decide) (mX11_differ a1199 v1198) (Nat.le_of_ble_eq_true rfl) rfl rfl (Nat.le_of_ble_eq_true rfl) (fun v1200 => ?_)
      refine sn_aloadR_n (pc := 1067) (r := x2) (j := 2) dL_law_1067 rfl rfl ?_
      refine sn_aload_n (pc := 1068) (j := 0) dL_law_1068 rfl rfl ?_
      refine sn_iload_n (pc := 1069) (j := 3) dL_law_1069 rfl rfl ?_
      refine sn_iconst (pc := 1070) (v := 1) dL_law_1070 (by decide) ?_
      refine sn_iadd (pc := 1071) dL_law_1071 ?_
      refine sn_xld (pc := 1072) dL_law_1072 (fun v1201 => ?_)
      rcases x2 with _ | a1202
      · exact sn_no
      refine sn_nn ?_
      refine sn_callV (ci := 12) (pc := 1073) dL_law_1073 iX12_differ wt7_135 wt7_136 wt7_134 ⟨_, rfl, rfl⟩ (by decide) (mX12_differ a1202 v1201) (Nat.le_of_ble_eq_true rfl) rfl rfl (Nat.le_of_ble_eq_true rfl) (fun v1203 => ?_)
      refine sn_icmp_eq (pc := 1076) (tgt := 1494) dL_law_1076 (by decide) ?_ ?_
      · exact sn_sub (lv' := [(0, .ref E.2.2.2.2.2.1), (1, .ref (E.1 + a1199)), (2, .ref (E.1 + a1202)), (3, .int x3)]) [0, 1, 2, 3] rfl (sfL_law_1494 k18 hk18 (some a1199) (some a1202) x3)
      · refine sn_iconst (pc := 1079) (v := 0) dL_law_1079 (by decide) ?_
        exact sn_zret (pc := 1080) dL_law_1080 rfl
    refine sw_case (tgt := 1081) 23 dL_law_33 (by decide) (by decide) rfl (by decide) ?_ ?_
    · refine sn_aloadR_n (pc := 1081) (r := x1) (j := 1) dL_law_1081 rfl rfl ?_
      refine sn_aload_n (pc := 1082) (j := 0) dL_law_1082 rfl rfl ?_
      refine sn_iload_n (pc := 1083) (j := 3) dL_law_1083 rfl rfl ?_
      refine sn_iconst (pc := 1084) (v := 1) dL_law_1084 (by decide) ?_
      refine sn_iadd (pc := 1085) dL_law_1085 ?_
      refine sn_xld (pc := 1086) dL_law_1086 (fun v1204 => ?_)
      refine sn_aload_n (pc := 1087) (j := 0) dL_law_1087 rfl rfl ?_
      refine sn_iload_n (pc := 1088) (j := 3) dL_law_1088 rfl rfl ?_
      refine sn_iconst (pc := 1089) (v := 2) dL_law_1089 (by decide) ?_
      refine sn_iadd (pc := 1090) dL_law_1090 ?_
      refine sn_xld (pc := 1091) dL_law_1091 (fun v1205 => ?_)
      refine sn_aload_n (pc := 1092) (j := 0) dL_law_1092 rfl rfl ?_
      refine sn_iload_n (pc := 1093) (j := 3) dL_law_1093 rfl rfl ?_
      refine sn_iconst (pc := 1094) (v := 3) dL_law_1094 (by decide) ?_
      refine sn_iadd (pc := 1095) dL_law_1095 ?_
      refine sn_xld (pc := 1096) dL_law_1096 (fun v1206 => ?_)
      refine sn_aload_n (pc := 1097) (j := 0) dL_law_1097 rfl rfl ?_
      refine sn_iload_n (pc := 1098) (j := 3) dL_law_1098 rfl rfl ?_
      refine sn_iconst (pc := 1099) (v := 4) dL_law_1099 (by decide) ?_
      refine sn_iadd (pc := 1100) dL_law_1100 ?_
      refine sn_xld (pc := 1101) dL_law_1101 (fun v1207 => ?_)
      rcases x1 with _ | a1208
      · exact sn_no
      refine sn_nn ?_
      refine sn_callV (ci := 11) (pc := 1102) dL_law_1102 iX11_part wt5_36 wt5_37 wt5_35 ⟨_, rfl, rfl⟩ (by decide) (mX11_part a1208 v1204 v1205 v1206 v1207) (Nat.le_of_ble_eq_true rfl) rfl rfl (Nat.le_of_ble_eq_true rfl) (fun v1209 => ?_)
      refine sn_aloadR_n (pc := 1105) (r := x2) (j := 2) dL_law_1105 rfl rfl ?_
      refine sn_aload_n (pc := 1106) (j := 0) dL_law_1106 rfl rfl ?_
      refine sn_iload_n (pc := 1107) (j := 3) dL_law_1107 rfl rfl ?_
      refine sn_iconst (pc := 1108) (v := 1) dL_law_1108 (by decide) ?_
      refine sn_iadd (pc := 1109) dL_law_1109 ?_
      refine sn_xld (pc := 1110) dL_law_1110 (fun v1210 => ?_)
      refine sn_aload_n (pc := 1111) (j := 0) dL_law_1111 rfl rfl ?_
      refine sn_iload_n (pc := 1112) (j := 3) dL_law_1112 rfl rfl ?_
      refine sn_iconst (pc := 1113) (v := 2) dL_law_1113 (by decide) ?_
      refine sn_iadd (pc := 1114) dL_law_1114 ?_
      refine sn_xld (pc := 1115) dL_law_1115 (fun v1211 => ?_)
      refine sn_aload_n (pc := 1116) (j := 0) dL_law_1116 rfl rfl ?_
      refine sn_iload_n (pc := 1117) (j := 3) dL_law_1117 rfl rfl ?_
      refine sn_iconst (pc := 1118) (v := 3) dL_law_1118 (by decide) ?_
      refine sn_iadd (pc := 1119) dL_law_1119 ?_
      refine sn_xld (pc := 1120) dL_law_1120 (fun v1212 => ?_)
      refine sn_aload_n (pc := 1121) (j := 0) dL_law_1121 rfl rfl ?_
      refine sn_iload_n (pc := 1122) (j := 3) dL_law_1122 rfl rfl ?_
      refine sn_iconst (pc := 1123) (v := 4) dL_law_1123 (by decide) ?_
      refine sn_iadd (pc := 1124) dL_law_1124 ?_
      refine sn_xld (pc := 1125) dL_law_1125 (fun v1213 => ?_)
      rcases x2 with _ | a1214
      · exact sn_no
      refine sn_nn ?_
      refine sn_callV (ci := 12) (pc := 1126) dL_law_1126 iX12_part wt7_143 wt7_144 wt7_142 ⟨_, rfl, rfl⟩ (by decide) (mX12_part a1214 v1210 v1211 v1212 v1213) (Nat.le_of_ble_eq_true rfl) rfl rfl (Nat.le_of_ble_eq_true rfl) (fun v1215 => ?_)
      refine sn_icmp_eq (pc := 1129) (tgt := 1494) dL_law_1129 (by decide) ?_ ?_
      · exact sn_sub (lv' := [(0, .ref E.2.2.2.2.2.1), (1, .ref (E.1 + a1208)), (2, .ref (E.1 + a1214)), (3, .int x3)]) [0, 1, 2, 3] rfl (sfL_law_1494 k18 hk18 (some a1208) (some a1214) x3)
      · refine sn_iconst (pc := 1132) (v := 0) dL_law_1132 (by decide) ?_
        exact sn_zret (pc := 1133) dL_law_1133 rfl
    refine sw_case (tgt := 1134) 24 dL_law_33 (by decide) (by decide) rfl (by decide) ?_ ?_
    · refine sn_aloadR_n (pc := 1134) (r := x1) (j := 1) dL_law_1134 rfl rfl ?_
      refine sn_aload_n (pc := 1135) (j := 0) dL_law_1135 rfl rfl ?_
      refine sn_iload_n (pc := 1136) (j := 3) dL_law_1136 rfl rfl ?_
      refine sn_iconst (pc := 1137) (v := 1) dL_law_1137 (by decide) ?_
      refine sn_iadd (pc := 1138) dL_law_1138 ?_
      refine sn_xld (pc := 1139) dL_law_1139 (fun v1216 => ?_)
      refine sn_aload_n (pc := 1140) (j := 0) dL_law_1140 rfl rfl ?_
      refine sn_iload_n (pc := 1141) (j := 3) dL_law_1141 rfl rfl ?_
      refine sn_iconst (pc := 1142) (v := 2) dL_law_1142 (by decide) ?_
      refine sn_iadd (pc := 1143) dL_law_1143 ?_
      refine sn_xld (pc := 1144) dL_law_1144 (fun v1217 => ?_)
      refine sn_aload_n (pc := 1145) (j := 0) dL_law_1145 rfl rfl ?_
      refine sn_iload_n (pc := 1146) (j := 3) dL_law_1146 rfl rfl ?_
      refine sn_iconst (pc := 1147) (v := 3) dL_law_1147 (by decide) ?_
      refine sn_iadd (pc := 1148) dL_law_1148 ?_
      refine sn_xld (pc := 1149) dL_law_1149 (fun v1218 => ?_)
      refine sn_aload_n (pc := 1150) (j := 0) dL_law_1150 rfl rfl ?_
      refine sn_iload_n (pc := 1151) (j := 3) dL_law_1151 rfl rfl ?_
      refine sn_iconst (pc := 1152) (v := 4) dL_law_1152 (by decide) ?_
      refine sn_iadd (pc := 1153) dL_law_1153 ?_
      refine sn_xld (pc := 1154) dL_law_1154 (fun v1219 => ?_)
      rcases x1 with _ | a1220
      · exact sn_no
      refine sn_nn ?_
      refine sn_callV (ci := 11) (pc := 1155) dL_law_1155 iX11_parted wt5_91 wt5_92 wt5_90 ⟨_, rfl, rfl⟩ (by decide) (mX11_parted a1220 v1216 v1217 v1218 v1219) (Nat.le_of_ble_eq_true rfl) rfl rfl (Nat.le_of_ble_eq_true rfl) (fun v1221 => ?_)
      refine sn_aloadR_n (pc := 1158) (r := x2) (j := 2) dL_law_1158 rfl rfl ?_
      refine sn_aload_n (pc := 1159) (j := 0) dL_law_1159 rfl rfl ?_
      refine sn_iload_n (pc := 1160) (j := 3) dL_law_1160 rfl rfl ?_
      refine sn_iconst (pc := 1161) (v := 1) dL_law_1161 (by decide) ?_
      refine sn_iadd (pc := 1162) dL_law_1162 ?_
      refine sn_xld (pc := 1163) dL_law_1163 (fun v1222 => ?_)
      refine sn_aload_n (pc := 1164) (j := 0) dL_law_1164 rfl rfl ?_
      refine sn_iload_n (pc := 1165) (j := 3) dL_law_1165 rfl rfl ?_
      refine sn_iconst (pc := 1166) (v := 2) dL_law_1166 (by decide) ?_
      refine sn_iadd (pc := 1167) dL_law_1167 ?_
      refine sn_xld (pc := 1168) dL_law_1168 (fun v1223 => ?_)
      refine sn_aload_n (pc := 1169) (j := 0) dL_law_1169 rfl rfl ?_
      refine sn_iload_n (pc := 1170) (j := 3) dL_law_1170 rfl rfl ?_
      refine sn_iconst (pc := 1171) (v := 3) dL_law_1171 (by decide) ?_
      refine sn_iadd (pc := 1172) dL_law_1172 ?_
      refine sn_xld (pc := 1173) dL_law_1173 (fun v1224 => ?_)
      refine sn_aload_n (pc := 1174) (j := 0) dL_law_1174 rfl rfl ?_
      refine sn_iload_n (pc := 1175) (j := 3) dL_law_1175 rfl rfl ?_
      refine sn_iconst (pc := 1176) (v := 4) dL_law_1176 (by decide) ?_
      refine sn_iadd (pc := 1177) dL_law_1177 ?_
      refine sn_xld (pc := 1178) dL_law_1178 (fun v1225 => ?_)
      rcases x2 with _ | a1226
      · exact sn_no
      refine sn_nn ?_
      refine sn_callV (ci := 12) (pc := 1179) dL_law_1179 iX12_parted wt7_163 wt7_164 wt7_162 ⟨_, rfl, rfl⟩ (by decide) (mX12_parted a1226 v1222 v1223 v1224 v1225) (Nat.le_of_ble_eq_true rfl) rfl rfl (Nat.le_of_ble_eq_true rfl) (fun v1227 => ?_)
      refine sn_icmp_eq (pc := 1182) (tgt := 1494) dL_law_1182 (by decide) ?_ ?_
      · exact sn_sub (lv' := [(0, .ref E.2.2.2.2.2.1), (1, .ref (E.1 + a1220)), (2, .ref (E.1 + a1226)), (3, .int x3)]) [0, 1, 2, 3] rfl (sfL_law_1494 k18 hk18 (some a1220) (some a1226) x3)
      · refine sn_iconst (pc := 1185) (v := 0) dL_law_1185 (by decide) ?_
        exact sn_zret (pc := 1186) dL_law_1186 rfl
    refine sw_case (tgt := 1187) 25 dL_law_33 (by decide) (by decide) rfl (by decide) ?_ ?_
    · refine sn_aloadR_n (pc := 1187) (r := x1) (j := 1) dL_law_1187 rfl rfl ?_
      refine sn_aload_n (pc := 1188) (j := 0) dL_law_1188 rfl rfl ?_
      refine sn_iload_n (pc := 1189) (j := 3) dL_law_1189 rfl rfl ?_
      refine sn_iconst (pc := 1190) (v := 1) dL_law_1190 (by decide) ?_
      refine sn_iadd (pc := 1191) dL_law_1191 ?_
      refine sn_xld (pc := 1192) dL_law_1192 (fun v1228 => ?_)
      refine sn_aload_n (pc := 1193) (j := 0) dL_law_1193 rfl rfl ?_
      refine sn_iload_n (pc := 1194) (j := 3) dL_law_1194 rfl rfl ?_
      refine sn_iconst (pc := 1195) (v := 2) dL_law_1195 (by decide) ?_
      refine sn_iadd (pc := 1196) dL_law_1196 ?_
      refine sn_xld (pc := 1197) dL_law_1197 (fun v1229 => ?_)
      refine sn_aload_n (pc := 1198) (j := 0) dL_law_1198 rfl rfl ?_
      refine sn_iload_n (pc := 1199) (j := 3) dL_law_1199 rfl rfl ?_
      refine sn_iconst (pc := 1200) (v := 3) dL_law_1200 (by decide) ?_
      refine sn_iadd (pc := 1201) dL_law_1201 ?_
      refine sn_xld (pc := 1202) dL_law_1202 (fun v1230 => ?_)
      refine sn_aload_n (pc := 1203) (j := 0) dL_law_1203 rfl rfl ?_
      refine sn_iload_n (pc := 1204) (j := 3) dL_law_1204 rfl rfl ?_
      refine sn_iconst (pc := 1205) (v := 4) dL_law_1205 (by decide) ?_
      refine sn_iadd (pc := 1206) dL_law_1206 ?_
      refine sn_xld (pc := 1207) dL_law_1207 (fun v1231 => ?_)
      rcases x1 with _ | a1232
      · exact sn_no
      refine sn_nn ?_
      refine sn_callV (ci := 11) (pc := 1208) dL_law_1208 iX11_look wt5_100 wt5_101 wt5_99 ⟨_, rfl, rfl⟩ (by decide) (mX11_look a1232 v1228 v1229 v1230 v1231) (Nat.le_of_ble_eq_true rfl) rfl rfl (Nat.le_of_ble_eq_true rfl) (fun v1233 => ?_)
      refine sn_aloadR_n (pc := 1211) (r := x2) (j := 2) dL_law_1211 rfl rfl ?_
      refine sn_aload_n (pc := 1212) (j := 0) dL_law_1212 rfl rfl ?_
      refine sn_iload_n (pc := 1213) (j := 3) dL_law_1213 rfl rfl ?_
      refine sn_iconst (pc := 1214) (v := 1) dL_law_1214 (by decide) ?_
      refine sn_iadd (pc := 1215) dL_law_1215 ?_
      refine sn_xld (pc := 1216) dL_law_1216 (fun v1234 => ?_)
      refine sn_aload_n (pc := 1217) (j := 0) dL_law_1217 rfl rfl ?_
      refine sn_iload_n (pc := 1218) (j := 3) dL_law_1218 rfl rfl ?_
      refine sn_iconst (pc := 1219) (v := 2) dL_law_1219 (by decide) ?_
      refine sn_iadd (pc := 1220) dL_law_1220 ?_
      refine sn_xld (pc := 1221) dL_law_1221 (fun v1235 => ?_)
      refine sn_aload_n (pc := 1222) (j := 0) dL_law_1222 rfl rfl ?_
      refine sn_iload_n (pc := 1223) (j := 3) dL_law_1223 rfl rfl ?_
      refine sn_iconst (pc := 1224) (v := 3) dL_law_1224 (by decide) ?_
      refine sn_iadd (pc := 1225) dL_law_1225 ?_
      refine sn_xld (pc := 1226) dL_law_1226 (fun v1236 => ?_)
      refine sn_aload_n (pc := 1227) (j := 0) dL_law_1227 rfl rfl ?_
      refine sn_iload_n (pc := 1228) (j := 3) dL_law_1228 rfl rfl ?_
      refine sn_iconst (pc := 1229) (v := 4) dL_law_1229 (by decide) ?_
      refine sn_iadd (pc := 1230) dL_law_1230 ?_
      refine sn_xld (pc := 1231) dL_law_1231 (fun v1237 => ?_)
      rcases x2 with _ | a1238
      · exact sn_no
      refine sn_nn ?_
      refine sn_callV (ci := 12) (pc := 1232) dL_law_1232 iX12_look wt7_167 wt7_168 wt7_166 ⟨_, rfl, rfl⟩ (by decide) (mX12_look a1238 v1234 v1235 v1236 v1237) (Nat.le_of_ble_eq_true rfl) rfl rfl (Nat.le_of_ble_eq_true rfl) (fun v1239 => ?_)
      refine sn_icmp_eq (pc := 1235) (tgt := 1494) dL_law_1235 (by decide) ?_ ?_
      · exact sn_sub (lv' := [(0, .ref E.2.2.2.2.2.1), (1, .ref (E.1 + a1232)), (2, .ref (E.1 + a1238)), (3, .int x3)]) [0, 1, 2, 3] rfl (sfL_law_1494 k18 hk18 (some a1232) (some a1238) x3)
      · refine sn_iconst (pc := 1238) (v := 0) dL_law_1238 (by decide) ?_
        exact sn_zret (pc := 1239) dL_law_1239 rfl
    refine sw_case (tgt := 1240) 26 dL_law_33 (by decide) (by decide) rfl (by decide) ?_ ?_
    · refine sn_aloadR_n (pc := 1240) (r := x1) (j := 1) dL_law_1240 rfl rfl ?_
      refine sn_aload_n (pc := 1241) (j := 0) dL_law_1241 rfl rfl ?_
      refine sn_iload_n (pc := 1242) (j := 3) dL_law_1242 rfl rfl ?_
      refine sn_iconst (pc := 1243) (v := 1) dL_law_1243 (by decide) ?_
      refine sn_iadd (pc := 1244) dL_law_1244 ?_
      refine sn_xld (pc := 1245) dL_law_1245 (fun v1240 => ?_)
      refine sn_aload_n (pc := 1246) (j := 0) dL_law_1246 rfl rfl ?_
      refine sn_iload_n (pc := 1247) (j := 3) dL_law_1247 rfl rfl ?_
      refine sn_iconst (pc := 1248) (v := 2) dL_law_1248 (by decide) ?_
      refine sn_iadd (pc := 1249) dL_law_1249 ?_
      refine sn_xld (pc := 1250) dL_law_1250 (fun v1241 => ?_)
      rcases x1 with _ | a1242
      · exact sn_no
      refine sn_nn ?_
      refine sn_callV (ci := 11) (pc := 1251) dL_law_1251 iX11_unlike wt5_104 wt5_105 wt5_103 ⟨_, rfl, rfl⟩ (by decide) (mX11_unlike a1242 v1240 v1241) (Nat.le_of_ble_eq_true rfl) rfl rfl (Nat.le_of_ble_eq_true rfl) (fun v1243 => ?_)
      refine sn_aloadR_n (pc := 1254) (r := x2) (j := 2) dL_law_1254 rfl rfl ?_
      refine sn_aload_n (pc := 1255) (j := 0) dL_law_1255 rfl rfl ?_
      refine sn_iload_n (pc := 1256) (j := 3) dL_law_1256 rfl rfl ?_
      refine sn_iconst (pc := 1257) (v := 1) dL_law_1257 (by decide) ?_
      refine sn_iadd (pc := 1258) dL_law_1258 ?_
      refine sn_xld (pc := 1259) dL_law_1259 (fun v1244 => ?_)
      refine sn_aload_n (pc := 1260) (j := 0) dL_law_1260 rfl rfl ?_
      refine sn_iload_n (pc := 1261) (j := 3) dL_law_1261 rfl rfl ?_
      refine sn_iconst (pc := 1262) (v := 2) dL_law_1262 (by decide) ?_
      refine sn_iadd (pc := 1263) dL_law_1263 ?_
      refine sn_xld (pc := 1264) dL_law_1264 (fun v1245 => ?_)
      rcases x2 with _ | a1246
      · exact sn_no
      refine sn_nn ?_
      refine sn_callV (ci := 12) (pc := 1265) dL_law_1265 iX12_unlike wt7_171 wt7_172 wt7_170 ⟨_, rfl, rfl⟩ (by decide) (mX12_unlike a1246 v1244 v1245) (Nat.le_of_ble_eq_true rfl) rfl rfl (Nat.le_of_ble_eq_true rfl) (fun v1247 => ?_)
      refine sn_icmp_eq (pc := 1268) (tgt := 1494) dL_law_1268 (by decide) ?_ ?_
      · exact sn_sub (lv' := [(0, .ref E.2.2.2.2.2.1), (1, .ref (E.1 + a1242)), (2, .ref (E.1 + a1246)), (3, .int x3)]) [0, 1, 2, 3] rfl (sfL_law_1494 k18 hk18 (some a1242) (some a1246) x3)
      · refine sn_iconst (pc := 1271) (v := 0) dL_law_1271 (by decide) ?_
        exact sn_zret (pc := 1272) dL_law_1272 rfl
    refine sw_case (tgt := 1273) 27 dL_law_33 (by decide) (by decide) rfl (by decide) ?_ ?_
    · refine sn_aloadR_n (pc := 1273) (r := x1) (j := 1) dL_law_1273 rfl rfl ?_
      refine sn_aload_n (pc := 1274) (j := 0) dL_law_1274 rfl rfl ?_
      refine sn_iload_n (pc := 1275) (j := 3) dL_law_1275 rfl rfl ?_
      refine sn_iconst (pc := 1276) (v := 1) dL_law_1276 (by decide) ?_
      refine sn_iadd (pc := 1277) dL_law_1277 ?_
      refine sn_xld (pc := 1278) dL_law_1278 (fun v1248 => ?_)
      refine sn_aload_n (pc := 1279) (j := 0) dL_law_1279 rfl rfl ?_
      refine sn_iload_n (pc := 1280) (j := 3) dL_law_1280 rfl rfl ?_
      refine sn_iconst (pc := 1281) (v := 2) dL_law_1281 (by decide) ?_
      refine sn_iadd (pc := 1282) dL_law_1282 ?_
      refine sn_xld (pc := 1283) dL_law_1283 (fun v1249 => ?_)
      rcases x1 with _ | a1250
      · exact sn_no
      refine sn_nn ?_
      refine sn_callV (ci := 11) (pc := 1284) dL_law_1284 iX11_who wt5_115 wt5_116 wt5_114 ⟨_, rfl, rfl⟩ (by decide) (mX11_who a1250 v1248 v1249) (Nat.le_of_ble_eq_true rfl) rfl rfl (Nat.le_of_ble_eq_true rfl) (fun v1251 => ?_)
      refine sn_aloadR_n (pc := 1287) (r := x2) (j := 2) dL_law_1287 rfl rfl ?_
      refine sn_aload_n (pc := 1288) (j := 0) dL_law_1288 rfl rfl ?_
      refine sn_iload_n (pc := 1289) (j := 3) dL_law_1289 rfl rfl ?_
      refine sn_iconst (pc := 1290) (v := 1) dL_law_1290 (by decide) ?_
      refine sn_iadd (pc := 1291) dL_law_1291 ?_
      refine sn_xld (pc := 1292) dL_law_1292 (fun v1252 => ?_)
      refine sn_aload_n (pc := 1293) (j := 0) dL_law_1293 rfl rfl ?_
      refine sn_iload_n (pc := 1294) (j := 3) dL_law_1294 rfl rfl ?_
      refine sn_iconst (pc := 1295) (v := 2) dL_law_1295 (by decide) ?_
      refine sn_iadd (pc := 1296) dL_law_1296 ?_
      refine sn_xld (pc := 1297) dL_law_1297 (fun v1253 => ?_)
      rcases x2 with _ | a1254
      · exact sn_no
      refine sn_nn ?_
      refine sn_callV (ci := 12) (pc := 1298) dL_law_1298 iX12_who wt7_179 wt7_180 wt7_178 ⟨_, rfl, rfl⟩ (by decide) (mX12_who a1254 v1252 v1253) (Nat.le_of_ble_eq_true rfl) rfl rfl (Nat.le_of_ble_eq_true rfl) (fun v1255 => ?_)
      refine sn_icmp_eq (pc := 1301) (tgt := 1494) dL_law_1301 (by decide) ?_ ?_
      · exact sn_sub (lv' := [(0, .ref E.2.2.2.2.2.1), (1, .ref (E.1 + a1250)), (2, .ref (E.1 + a1254)), (3, .int x3)]) [0, 1, 2, 3] rfl (sfL_law_1494 k18 hk18 (some a1250) (some a1254) x3)
      · refine sn_iconst (pc := 1304) (v := 0) dL_law_1304 (by decide) ?_
        exact sn_zret (pc := 1305) dL_law_1305 rfl
    refine sw_case (tgt := 1306) 28 dL_law_33 (by decide) (by decide) rfl (by decide) ?_ ?_
    · refine sn_aloadR_n (pc := 1306) (r := x1) (j := 1) dL_law_1306 rfl rfl ?_
      refine sn_aload_n (pc := 1307) (j := 0) dL_law_1307 rfl rfl ?_
      refine sn_iload_n (pc := 1308) (j := 3) dL_law_1308 rfl rfl ?_
      refine sn_iconst (pc := 1309) (v := 1) dL_law_1309 (by decide) ?_
      refine sn_iadd (pc := 1310) dL_law_1310 ?_
      refine sn_xld (pc := 1311) dL_law_1311 (fun v1256 => ?_)
      refine sn_aload_n (pc := 1312) (j := 0) dL_law_1312 rfl rfl ?_
      refine sn_iload_n (pc := 1313) (j := 3) dL_law_1313 rfl rfl ?_
      refine sn_iconst (pc := 1314) (v := 2) dL_law_1314 (by decide) ?_
      refine sn_iadd (pc := 1315) dL_law_1315 ?_
      refine sn_xld (pc := 1316) dL_law_1316 (fun v1257 => ?_)
      refine sn_aload_n (pc := 1317) (j := 0) dL_law_1317 rfl rfl ?_
      refine sn_iload_n (pc := 1318) (j := 3) dL_law_1318 rfl rfl ?_
      refine sn_iconst (pc := 1319) (v := 3) dL_law_1319 (by decide) ?_
      refine sn_iadd (pc := 1320) dL_law_1320 ?_
      refine sn_xld (pc := 1321) dL_law_1321 (fun v1258 => ?_)
      rcases x1 with _ | a1259
      · exact sn_no
      refine sn_nn ?_
      refine sn_callV (ci := 11) (pc := 1322) dL_law_1322 iX11_stolen wt5_129 wt5_130 wt5_128 ⟨_, rfl, rfl⟩ (by decide) (mX11_stolen a1259 v1256 v1257 v1258) (Nat.le_of_ble_eq_true rfl) rfl rfl (Nat.le_of_ble_eq_true rfl) (fun v1260 => ?_)
      refine sn_aloadR_n (pc := 1325) (r := x2) (j := 2) dL_law_1325 rfl rfl ?_
      refine sn_aload_n (pc := 1326) (j := 0) dL_law_1326 rfl rfl ?_
      refine sn_iload_n (pc := 1327) (j := 3) dL_law_1327 rfl rfl ?_
      refine sn_iconst (pc := 1328) (v := 1) dL_law_1328 (by decide) ?_
      refine sn_iadd (pc := 1329) dL_law_1329 ?_
      refine sn_xld (pc := 1330) dL_law_1330 (fun v1261 => ?_)
      refine sn_aload_n (pc := 1331) (j := 0) dL_law_1331 rfl rfl ?_
      refine sn_iload_n (pc := 1332) (j := 3) dL_law_1332 rfl rfl ?_
      refine sn_iconst (pc := 1333) (v := 2) dL_law_1333 (by decide) ?_
      refine sn_iadd (pc := 1334) dL_law_1334 ?_
      refine sn_xld (pc := 1335) dL_law_1335 (fun v1262 => ?_)
      refine sn_aload_n (pc := 1336) (j := 0) dL_law_1336 rfl rfl ?_
      refine sn_iload_n (pc := 1337) (j := 3) dL_law_1337 rfl rfl ?_
      refine sn_iconst (pc := 1338) (v := 3) dL_law_1338 (by decide) ?_
      refine sn_iadd (pc := 1339) dL_law_1339 ?_
      refine sn_xld (pc := 1340) dL_law_1340 (fun v1263 => ?_)
      rcases x2 with _ | a1264
      · exact sn_no
      refine sn_nn ?_
      refine sn_callV (ci := 12) (pc := 1341) dL_law_1341 iX12_stolen wt7_183 wt7_184 wt7_182 ⟨_, rfl, rfl⟩ (by decide) (mX12_stolen a1264 v1261 v1262 v1263) (Nat.le_of_ble_eq_true rfl) rfl rfl (Nat.le_of_ble_eq_true rfl) (fun v1265 => ?_)
      refine sn_icmp_eq (pc := 1344) (tgt := 1494) dL_law_1344 (by decide) ?_ ?_
      · exact sn_sub (lv' := [(0, .ref E.2.2.2.2.2.1), (1, .ref (E.1 + a1259)), (2, .ref (E.1 + a1264)), (3, .int x3)]) [0, 1, 2, 3] rfl (sfL_law_1494 k18 hk18 (some a1259) (some a1264) x3)
      · refine sn_iconst (pc := 1347) (v := 0) dL_law_1347 (by decide) ?_
        exact sn_zret (pc := 1348) dL_law_1348 rfl
    refine sw_case (tgt := 1349) 29 dL_law_33 (by decide) (by decide) rfl (by decide) ?_ ?_
    · refine sn_aloadR_n (pc := 1349) (r := x1) (j := 1) dL_law_1349 rfl rfl ?_
      refine sn_aload_n (pc := 1350) (j := 0) dL_law_1350 rfl rfl ?_
      refine sn_iload_n (pc := 1351) (j := 3) dL_law_1351 rfl rfl ?_
      refine sn_iconst (pc := 1352) (v := 1) dL_law_1352 (by decide) ?_
      refine sn_iadd (pc := 1353) dL_law_1353 ?_
      refine sn_xld (pc := 1354) dL_law_1354 (fun v1266 => ?_)
      refine sn_aload_n (pc := 1355) (j := 0) dL_law_1355 rfl rfl ?_
      refine sn_iload_n (pc := 1356) (j := 3) dL_law_1356 rfl rfl ?_
      refine sn_iconst (pc := 1357) (v := 2) dL_law_1357 (by decide) ?_
      refine sn_iadd (pc := 1358) dL_law_1358 ?_
      refine sn_xld (pc := 1359) dL_law_1359 (fun v1267 => ?_)
      rcases x1 with _ | a1268
      · exact sn_no
      refine sn_nn ?_
      refine sn_callV (ci := 11) (pc := 1360) dL_law_1360 iX11_time wt5_141 wt5_142 wt5_140 ⟨_, rfl, rfl⟩ (by decide) (mX11_time a1268 v1266 v1267) (Nat.le_of_ble_eq_true rfl) rfl rfl (Nat.le_of_ble_eq_true rfl) (fun v1269 => ?_)
      refine sn_aloadR_n (pc := 1363) (r := x2) (j := 2) dL_law_1363 rfl rfl ?_
      refine sn_aload_n (pc := 1364) (j := 0) dL_law_1364 rfl rfl ?_
      refine sn_iload_n (pc := 1365) (j := 3) dL_law_1365 rfl rfl ?_
      refine sn_iconst (pc := 1366) (v := 1) dL_law_1366 (by decide) ?_
      refine sn_iadd (pc := 1367) dL_law_1367 ?_
      refine sn_xld (pc := 1368) dL_law_1368 (fun v1270 => ?_)
      refine sn_aload_n (pc := 1369) (j := 0) dL_law_1369 rfl rfl ?_
      refine sn_iload_n (pc := 1370) (j := 3) dL_law_1370 rfl rfl ?_
      refine sn_iconst (pc := 1371) (v := 2) dL_law_1371 (by decide) ?_
      refine sn_iadd (pc := 1372) dL_law_1372 ?_
      refine sn_xld (pc := 1373) dL_law_1373 (fun v1271 => ?_)
      rcases x2 with _ | a1272
      · exact sn_no
      refine sn_nn ?_
      refine sn_callV (ci := 12) (pc := 1374) dL_law_1374 iX12_time wt7_191 wt7_192 wt7_190 ⟨_, rfl, rfl⟩ (by decide) (mX12_time a1272 v1270 v1271) (Nat.le_of_ble_eq_true rfl) rfl rfl (Nat.le_of_ble_eq_true rfl) (fun v1273 => ?_)
      refine sn_icmp_eq (pc := 1377) (tgt := 1494) dL_law_1377 (by decide) ?_ ?_
      · exact sn_sub (lv' := [(0, .ref E.2.2.2.2.2.1), (1, .ref (E.1 + a1268)), (2, .ref (E.1 + a1272)), (3, .int x3)]) [0, 1, 2, 3] rfl (sfL_law_1494 k18 hk18 (some a1268) (some a1272) x3)
      · refine sn_iconst (pc := 1380) (v := 0) dL_law_1380 (by decide) ?_
        exact sn_zret (pc := 1381) dL_law_1381 rfl
    refine sw_case (tgt := 1382) 30 dL_law_33 (by decide) (by decide) rfl (by decide) ?_ ?_
    · refine sn_aloadR_n (pc := 1382) (r := x1) (j := 1) dL_law_1382 rfl rfl ?_
      refine sn_aload_n (pc := 1383) (j := 0) dL_law_1383 rfl rfl ?_
      refine sn_iload_n (pc := 1384) (j := 3) dL_law_1384 rfl rfl ?_
      refine sn_iconst (pc := 1385) (v := 1) dL_law_1385 (by decide) ?_
      refine sn_iadd (pc := 1386) dL_law_1386 ?_
      refine sn_xld (pc := 1387) dL_law_1387 (fun v1274 => ?_)
      refine sn_aload_n (pc := 1388) (j := 0) dL_law_1388 rfl rfl ?_
      refine sn_iload_n (pc := 1389) (j := 3) dL_law_1389 rfl rfl ?_
      refine sn_iconst (pc := 1390) (v := 2) dL_law_1390 (by decide) ?_
      refine sn_iadd (pc := 1391) dL_law_1391 ?_
      refine sn_xld (pc := 1392) dL_law_1392 (fun v1275 => ?_)
      refine sn_aload_n (pc := 1393) (j := 0) dL_law_1393 rfl rfl ?_
      refine sn_iload_n (pc := 1394) (j := 3) dL_law_1394 rfl rfl ?_
      refine sn_iconst (pc := 1395) (v := 3) dL_law_1395 (by decide) ?_
      refine sn_iadd (pc := 1396) dL_law_1396 ?_
      refine sn_xld (pc := 1397) dL_law_1397 (fun v1276 => ?_)
      rcases x1 with _ | a1277
      · exact sn_no
      refine sn_nn ?_
      refine sn_callV (ci := 11) (pc := 1398) dL_law_1398 iX11_even wt5_145 wt5_146 wt5_144 ⟨_, rfl, rfl⟩ (by decide) (mX11_even a1277 v1274 v1275 v1276) (Nat.le_of_ble_eq_true rfl) rfl rfl (Nat.le_of_ble_eq_true rfl) (fun v1278 => ?_)
      refine sn_aloadR_n (pc := 1401) (r := x2) (j := 2) dL_law_1401 rfl rfl ?_
      refine sn_aload_n (pc := 1402) (j := 0) dL_law_1402 rfl rfl ?_
      refine sn_iload_n (pc := 1403) (j := 3) dL_law_1403 rfl rfl ?_
      refine sn_iconst (pc := 1404) (v := 1) dL_law_1404 (by decide) ?_
      refine sn_iadd (pc := 1405) dL_law_1405 ?_
      refine sn_xld (pc := 1406) dL_law_1406 (fun v1279 => ?_)
      refine sn_aload_n (pc := 1407) (j := 0) dL_law_1407 rfl rfl ?_
      refine sn_iload_n (pc := 1408) (j := 3) dL_law_1408 rfl rfl ?_
      refine sn_iconst (pc := 1409) (v := 2) dL_law_1409 (by decide) ?_
      refine sn_iadd (pc := 1410) dL_law_1410 ?_
      refine sn_xld (pc := 1411) dL_law_1411 (fun v1280 => ?_)
      refine sn_aload_n (pc := 1412) (j := 0) dL_law_1412 rfl rfl ?_
      refine sn_iload_n (pc := 1413) (j := 3) dL_law_1413 rfl rfl ?_
      refine sn_iconst (pc := 1414) (v := 3) dL_law_1414 (by decide) ?_
      refine sn_iadd (pc := 1415) dL_law_1415 ?_
      refine sn_xld (pc := 1416) dL_law_1416 (fun v1281 => ?_)
      rcases x2 with _ | a1282
      · exact sn_no
      refine sn_nn ?_
      refine sn_callV (ci := 12) (pc := 1417) dL_law_1417 iX12_even wt7_195 wt7_196 wt7_194 ⟨_, rfl, rfl⟩ (by decide) (mX12_even a1282 v1279 v1280 v1281) (Nat.le_of_ble_eq_true rfl) rfl rfl (Nat.le_of_ble_eq_true rfl) (fun v1283 => ?_)
      refine sn_icmp_eq (pc := 1420) (tgt := 1494) dL_law_1420 (by decide) ?_ ?_
      · exact sn_sub (lv' := [(0, .ref E.2.2.2.2.2.1), (1, .ref (E.1 + a1277)), (2, .ref (E.1 + a1282)), (3, .int x3)]) [0, 1, 2, 3] rfl (sfL_law_1494 k18 hk18 (some a1277) (some a1282) x3)
      · refine sn_iconst (pc := 1423) (v := 0) dL_law_1423 (by decide) ?_
        exact sn_zret (pc := 1424) dL_law_1424 rfl
    refine sw_case (tgt := 1425) 31 dL_law_33 (by decide) (by decide) rfl (by decide) ?_ ?_
    · refine sn_aloadR_n (pc := 1425) (r := x1) (j := 1) dL_law_1425 rfl rfl ?_
      refine sn_aload_n (pc := 1426) (j := 0) dL_law_1426 rfl rfl ?_
      refine sn_iload_n (pc := 1427) (j := 3) dL_law_1427 rfl rfl ?_
      refine sn_iconst (pc := 1428) (v := 1) dL_law_1428 (by decide) ?_
      refine sn_iadd (pc := 1429) dL_law_1429 ?_
      refine sn_xld (pc := 1430) dL_law_1430 (fun v1284 => ?_)
      rcases x1 with _ | a1285
      · exact sn_no
      refine sn_nn ?_
      refine sn_callV (ci := 11) (pc := 1431) dL_law_1431 iX11_count wt5_185 wt5_186 wt5_184 ⟨_, rfl, rfl⟩ (by decide) (mX11_count a1285 v1284) (Nat.le_of_ble_eq_true rfl) rfl rfl (Nat.le_of_ble_eq_true rfl) (fun v1286 => ?_)
      refine sn_aloadR_n (pc := 1434) (r := x2) (j := 2) dL_law_1434 rfl rfl ?_
      refine sn_aload_n (pc := 1435) (j := 0) dL_law_1435 rfl rfl ?_
      refine sn_iload_n (pc := 1436) (j := 3) dL_law_1436 rfl rfl ?_
      refine sn_iconst (pc := 1437) (v := 1) dL_law_1437 (by decide) ?_
      refine sn_iadd (pc := 1438) dL_law_1438 ?_
      refine sn_xld (pc := 1439) dL_law_1439 (fun v1287 => ?_)
      rcases x2 with _ | a1288
      · exact sn_no
      refine sn_nn ?_
      refine sn_callV (ci := 12) (pc := 1440) dL_law_1440 iX12_count wt7_203 wt7_204 wt7_202 ⟨_, rfl, rfl⟩ (by decide) (mX12_count a1288 v1287) (Nat.le_of_ble_eq_true rfl) rfl rfl (Nat.le_of_ble_eq_true rfl) (fun v1289 => ?_)
      refine sn_icmp_eq (pc := 1443) (tgt := 1494) dL_law_1443 (by decide) ?_ ?_
      · exact sn_sub (lv' := [(0, .ref E.2.2.2.2.2.1), (1, .ref (E.1 + a1285)), (2, .ref (E.1 + a1288)), (3, .int x3)]) [0, 1, 2, 3] rfl (sfL_law_1494 k18 hk18 (some a1285) (some a1288) x3)
      · refine sn_iconst (pc := 1446) (v := 0) dL_law_1446 (by decide) ?_
        exact sn_zret (pc := 1447) dL_law_1447 rfl
    refine sw_case (tgt := 1448) 32 dL_law_33 (by decide) (by decide) rfl (by decide) ?_ ?_
    · refine sn_aloadR_n (pc := 1448) (r := x1) (j := 1) dL_law_1448 rfl rfl ?_
      refine sn_aload_n (pc := 1449) (j := 0) dL_law_1449 rfl rfl ?_
      refine sn_iload_n (pc := 1450) (j := 3) dL_law_1450 rfl rfl ?_
      refine sn_iconst (pc := 1451) (v := 1) dL_law_1451 (by decide) ?_
      refine sn_iadd (pc := 1452) dL_law_1452 ?_
      refine sn_xld (pc := 1453) dL_law_1453 (fun v1290 => ?_)
      rcases x1 with _ | a1291
      · exact sn_no
      refine sn_nn ?_
      refine sn_callV (ci := 11) (pc := 1454) dL_law_1454 iX11_image wt5_202 wt5_203 wt5_201 ⟨_, rfl, rfl⟩ (by decide) (mX11_image a1291 v1290) (Nat.le_of_ble_eq_true rfl) rfl rfl (Nat.le_of_ble_eq_true rfl) (fun v1292 => ?_)
      refine sn_aloadR_n (pc := 1457) (r := x2) (j := 2) dL_law_1457 rfl rfl ?_
      refine sn_aload_n (pc := 1458) (j := 0) dL_law_1458 rfl rfl ?_
      refine sn_iload_n (pc := 1459) (j := 3) dL_law_1459 rfl rfl ?_
      refine sn_iconst (pc := 1460) (v := 1) dL_law_1460 (by decide) ?_
      refine sn_iadd (pc := 1461) dL_law_1461 ?_
      refine sn_xld (pc := 1462) dL_law_1462 (fun v1293 => ?_)
      rcases x2 with _ | a1294
      · exact sn_no
      refine sn_nn ?_
      refine sn_callV (ci := 12) (pc := 1463) dL_law_1463 iX12_image wt7_207 wt7_208 wt7_206 ⟨_, rfl, rfl⟩ (by decide) (mX12_image a1294 v1293) (Nat.le_of_ble_eq_true rfl) rfl rfl (Nat.le_of_ble_eq_true rfl) (fun v1295 => ?_)
      refine sn_icmp_eq (pc := 1466) (tgt := 1494) dL_law_1466 (by decide) ?_ ?_
      · exact sn_sub (lv' := [(0, .ref E.2.2.2.2.2.1), (1, .ref (E.1 + a1291)), (2, .ref (E.1 + a1294)), (3, .int x3)]) [0, 1, 2, 3] rfl (sfL_law_1494 k18 hk18 (some a1291) (some a1294) x3)
      · refine sn_iconst (pc := 1469) (v := 0) dL_law_1469 (by decide) ?_
        exact sn_zret (pc := 1470) dL_law_1470 rfl
    refine sw_case (tgt := 1471) 33 dL_law_33 (by decide) (by decide) rfl (by decide) ?_ ?_
    · refine sn_aloadR_n (pc := 1471) (r := x1) (j := 1) dL_law_1471 rfl rfl ?_
      refine sn_aload_n (pc := 1472) (j := 0) dL_law_1472 rfl rfl ?_
      refine sn_iload_n (pc := 1473) (j := 3) dL_law_1473 rfl rfl ?_
      refine sn_iconst (pc := 1474) (v := 1) dL_law_1474 (by decide) ?_
      refine sn_iadd (pc := 1475) dL_law_1475 ?_
      refine sn_xld (pc := 1476) dL_law_1476 (fun v1296 => ?_)
      rcases x1 with _ | a1297
      · exact sn_no
      refine sn_nn ?_
      refine sn_callV (ci := 11) (pc := 1477) dL_law_1477 iX11_again wt5_235 wt5_236 wt5_234 ⟨_, rfl, rfl⟩ (by decide) (mX11_again a1297 v1296) (Nat.le_of_ble_eq_true rfl) rfl rfl (Nat.le_of_ble_eq_true rfl) (fun v1298 => ?_)
      refine sn_aloadR_n (pc := 1480) (r := x2) (j := 2) dL_law_1480 rfl rfl ?_
      refine sn_aload_n (pc := 1481) (j := 0) dL_law_1481 rfl rfl ?_
      refine sn_iload_n (pc := 1482) (j := 3) dL_law_1482 rfl rfl ?_
      refine sn_iconst (pc := 1483) (v := 1) dL_law_1483 (by decide) ?_
      refine sn_iadd (pc := 1484) dL_law_1484 ?_
      refine sn_xld (pc := 1485) dL_law_1485 (fun v1299 => ?_)
      rcases x2 with _ | a1300
      · exact sn_no
      refine sn_nn ?_
      refine sn_callV (ci := 12) (pc := 1486) dL_law_1486 iX12_again wt7_211 wt7_212 wt7_210 ⟨_, rfl, rfl⟩ (by decide) (mX12_again a1300 v1299) (Nat.le_of_ble_eq_true rfl) rfl rfl (Nat.le_of_ble_eq_true rfl) (fun v1301 => ?_)
      refine sn_icmp_eq (pc := 1489) (tgt := 1494) dL_law_1489 (by decide) ?_ ?_
      · exact sn_sub (lv' := [(0, .ref E.2.2.2.2.2.1), (1, .ref (E.1 + a1297)), (2, .ref (E.1 + a1300)), (3, .int x3)]) [0, 1, 2, 3] rfl (sfL_law_1494 k18 hk18 (some a1297) (some a1300) x3)
      · refine sn_iconst (pc := 1492) (v := 0) dL_law_1492 (by decide) ?_
        exact sn_zret (pc := 1493) dL_law_1493 rfl
    refine sw_dflt (tgt := 1494) dL_law_33 (fun hc => ?_) (by decide) ?_
    · obtain ⟨⟨⟨⟨⟨⟨⟨⟨⟨⟨⟨⟨⟨⟨⟨⟨⟨⟨⟨⟨⟨⟨⟨⟨⟨⟨⟨⟨⟨⟨⟨⟨⟨⟨-, q0⟩, q1⟩, q2⟩, q3⟩, q4⟩, q5⟩, q6⟩, q7⟩, q8⟩, q9⟩, q10⟩, q11⟩, q12⟩, q13⟩, q14⟩, q15⟩, q16⟩, q17⟩, q18⟩, q19⟩, q20⟩, q21⟩, q22⟩, q23⟩, q24⟩, q25⟩, q26⟩, q27⟩, q28⟩, q29⟩, q30⟩, q31⟩, q32⟩, q33⟩ := hc
      have q0 := ne_toInt q0
      have q1 := ne_toInt q1
      have q2 := ne_toInt q2
      have q3 := ne_toInt q3
      have q4 := ne_toInt q4
      have q5 := ne_toInt q5
      have q6 := ne_toInt q6
      have q7 := ne_toInt q7
      have q8 := ne_toInt q8
      have q9 := ne_toInt q9
      have q10 := ne_toInt q10
      have q11 := ne_toInt q11
      have q12 := ne_toInt q12
      have q13 := ne_toInt q13
      have q14 := ne_toInt q14
      have q15 := ne_toInt q15
      have q16 := ne_toInt q16
      have q17 := ne_toInt q17
      have q18 := ne_toInt q18
      have q19 := ne_toInt q19
      have q20 := ne_toInt q20
      have q21 := ne_toInt q21
      have q22 := ne_toInt q22
      have q23 := ne_toInt q23
      have q24 := ne_toInt q24
      have q25 := ne_toInt q25
      have q26 := ne_toInt q26
      have q27 := ne_toInt q27
      have q28 := ne_toInt q28
      have q29 := ne_toInt q29
      have q30 := ne_toInt q30
      have q31 := ne_toInt q31
      have q32 := ne_toInt q32
      have q33 := ne_toInt q33
      have e0 : (0 : Int32).toInt = 0 := by decide
      have e1 : (1 : Int32).toInt = 1 := by decide
      have e2 : (2 : Int32).toInt = 2 := by decide
      have e3 : (3 : Int32).toInt = 3 := by decide
      have e4 : (4 : Int32).toInt = 4 := by decide
      have e5 : (5 : Int32).toInt = 5 := by decide
      have e6 : (6 : Int32).toInt = 6 := by decide
      have e7 : (7 : Int32).toInt = 7 := by decide
      have e8 : (8 : Int32).toInt = 8 := by decide
      have e9 : (9 : Int32).toInt = 9 := by decide
      have e10 : (10 : Int32).toInt = 10 := by decide
      have e11 : (11 : Int32).toInt = 11 := by decide
      have e12 : (12 : Int32).toInt = 12 := by decide
      have e13 : (13 : Int32).toInt = 13 := by decide
      have e14 : (14 : Int32).toInt = 14 := by decide
      have e15 : (15 : Int32).toInt = 15 := by decide
      have e16 : (16 : Int32).toInt = 16 := by decide
      have e17 : (17 : Int32).toInt = 17 := by decide
      have e18 : (18 : Int32).toInt = 18 := by decide
      have e19 : (19 : Int32).toInt = 19 := by decide
      have e20 : (20 : Int32).toInt = 20 := by decide
      have e21 : (21 : Int32).toInt = 21 := by decide
      have e22 : (22 : Int32).toInt = 22 := by decide
      have e23 : (23 : Int32).toInt = 23 := by decide
      have e24 : (24 : Int32).toInt = 24 := by decide
      have e25 : (25 : Int32).toInt = 25 := by decide
      have e26 : (26 : Int32).toInt = 26 := by decide
      have e27 : (27 : Int32).toInt = 27 := by decide
      have e28 : (28 : Int32).toInt = 28 := by decide
      have e29 : (29 : Int32).toInt = 29 := by decide
      have e30 : (30 : Int32).toInt = 30 := by decide
      have e31 : (31 : Int32).toInt = 31 := by decide
      have e32 : (32 : Int32).toInt = 32 := by decide
      have e33 : (33 : Int32).toInt = 33 := by decide
      rw [e0] at q0
      rw [e1] at q1
      rw [e2] at q2
      rw [e3] at q3
      rw [e4] at q4
      rw [e5] at q5
      rw [e6] at q6
      rw [e7] at q7
      rw [e8] at q8
      rw [e9] at q9
      rw [e10] at q10
      rw [e11] at q11
      rw [e12] at q12
      rw [e13] at q13
      rw [e14] at q14
      rw [e15] at q15
      rw [e16] at q16
      rw [e17] at q17
      rw [e18] at q18
      rw [e19] at q19
      rw [e20] at q20
      rw [e21] at q21
      rw [e22] at q22
      rw [e23] at q23
      rw [e24] at q24
      rw [e25] at q25
      rw [e26] at q26
      rw [e27] at q27
      rw [e28] at q28
      rw [e29] at q29
      rw [e30] at q30
      rw [e31] at q31
      rw [e32] at q32
      rw [e33] at q33
      omega
    · exact sn_sub (lv' := [(0, .ref E.2.2.2.2.2.1), (1, rf E.1 x1), (2, rf E.1 x2), (3, .int x3)]) [0, 1, 2, 3] rfl (sfL_law_1494 k18 hk18 x1 x2 x3)
def fL_law (L : Nat) (xs : Nat → Int32) : St → Option (Bool × St) :=
 nO 12 8 fun a1 =>
 cl (fX11_init a1) fun v2 =>
 nO 13 38 fun a3 =>
 cl (fX12_init a3) fun v4 =>
 itr (fun k (p : Option Nat × Option Nat × Int32) => fL_law_18 L xs  k p.1 p.2.1 p.2.2) FU ((some a1), (some a3), 0)
set_option maxHeartbeats 4000000 in
set_option maxRecDepth 100000 in
theorem sfL_law {E : Ev} {l : Launch} {nm : String} : Snd E l (dpL_law, RL, cL_law, 4, (some .boolean), nm) rvZ 0 [(0, .ref E.2.2.2.2.2.1)] [] (fL_law E.2.2.2.2.2.2.1 E.2.2.2.2.2.2.2) := by
  unfold fL_law
  refine sn_new (pc := 0) dL_law_0 ci_X11 wt1_22 (fun a1 => ?_)
  refine sn_dup (pc := 3) dL_law_3 rfl ?_
  refine sn_callI (pc := 4) dL_law_4 iX11_init rfl rfl wt1_25 wt1_24 (mX11_init a1) (Nat.le_of_ble_eq_true rfl) rfl rfl (Nat.le_of_ble_eq_true rfl) (fun v2 => ?_)
  refine sn_astore_n (pc := 7) (i := 1) (lv' := [(1, .ref (E.1 + a1)), (0, .ref E.2.2.2.2.2.1)]) dL_law_7 rfl (Nat.le_of_ble_eq_true rfl) rfl ?_
  refine sn_new (pc := 8) dL_law_8 ci_X12 wt5_238 (fun a3 => ?_)
  refine sn_dup (pc := 11) dL_law_11 rfl ?_
  refine sn_callI (pc := 12) dL_law_12 iX12_init rfl rfl wt6_1 wt6_0 (mX12_init a3) (Nat.le_of_ble_eq_true rfl) rfl rfl (Nat.le_of_ble_eq_true rfl) (fun v4 => ?_)
  refine sn_astore_n (pc := 15) (i := 2) (lv' := [(2, .ref (E.1 + a3)), (1, .ref (E.1 + a1)), (0, .ref E.2.2.2.2.2.1)]) dL_law_15 rfl (Nat.le_of_ble_eq_true rfl) rfl ?_
  refine sn_iconst (pc := 16) (v := 0) dL_law_16 (by decide) ?_
  refine sn_istore_n (pc := 17) (i := 3) (lv' := [(3, .int 0), (2, .ref (E.1 + a3)), (1, .ref (E.1 + a1)), (0, .ref E.2.2.2.2.2.1)]) dL_law_17 rfl (Nat.le_of_ble_eq_true rfl) rfl ?_
  exact sn_sub (lv' := [(0, .ref E.2.2.2.2.2.1), (1, .ref (E.1 + a1)), (2, .ref (E.1 + a3)), (3, .int 0)]) [3, 2, 1, 0] rfl (sn_itr (lvf := fun p => [(0, .ref E.2.2.2.2.2.1), (1, rf E.1 p.1), (2, rf E.1 p.2.1), (3, .int p.2.2)]) (stf := fun p => []) (fun k hk p => sfL_law_18  k hk p.1 p.2.1 p.2.2) FU ((some a1), (some a3), 0))

