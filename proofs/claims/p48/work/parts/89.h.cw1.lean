/-! the constructors that call none -/
theorem cq_vp {i : Int32} {k n : Nat} (h : i = nI k) (h2 : k < n) (h3 : n < 2 ^ 31) : vp_in i n := by
  rw [h]
  exact vp_in_nI h2 h3
set_option maxRecDepth 1000000 in
theorem cv_obj : Cond.code Lib.objectInit ⟨#[0xb1]⟩ 1 none ∈ lw_tbl := am_t1 (List.mem_of_getElem? (i := 32) (by decide +kernel))
set_option maxRecDepth 1000000 in
theorem cv_31 : (Jvm.Cond.instanceMethod ({ cls := "java/lang/Object", name := "<init>", desc := "()V" } : Jvm.MethodName)) ∈ lw_tbl := am_t1 (List.mem_of_getElem? (i := 31) (by decide +kernel))
set_option maxRecDepth 1000000 in
theorem cv_38 : (Jvm.Cond.methodLink "DoorsForThree$Calendar" (1 : Nat) ({ cls := "java/lang/Object", name := "<init>", desc := "()V" } : Jvm.MethodName)) ∈ lw_tbl := am_t1 (List.mem_of_getElem? (i := 38) (by decide +kernel))
set_option maxRecDepth 1000000 in
theorem cv_39 : (Jvm.Cond.classLink "DoorsForThree$Calendar" (9 : Nat) "[[I") ∈ lw_tbl := am_t1 (List.mem_of_getElem? (i := 39) (by decide +kernel))
set_option maxRecDepth 1000000 in
theorem cv_41 : (Jvm.Cond.fieldLink "DoorsForThree$Calendar" (11 : Nat) "DoorsForThree$Calendar" "numbers" "[[I") ∈ lw_tbl := am_t1 (List.mem_of_getElem? (i := 41) (by decide +kernel))
set_option maxRecDepth 1000000 in
theorem cv_64 : (Jvm.Cond.arrayClass Jvm.ClassFile.FieldType.int) ∈ lw_tbl := am_t1 (List.mem_of_getElem? (i := 64) (by decide +kernel))
set_option maxRecDepth 1000000 in
theorem cv_70 : (Jvm.Cond.methodLink "DoorsForThree$Changes" (1 : Nat) ({ cls := "java/lang/Object", name := "<init>", desc := "()V" } : Jvm.MethodName)) ∈ lw_tbl := am_t1 (List.mem_of_getElem? (i := 70) (by decide +kernel))
set_option maxRecDepth 1000000 in
theorem cv_71 : (Jvm.Cond.fieldLink "DoorsForThree$Changes" (9 : Nat) "DoorsForThree$Changes" "kept" "[I") ∈ lw_tbl := am_t1 (List.mem_of_getElem? (i := 71) (by decide +kernel))
set_option maxRecDepth 1000000 in
theorem cv_87 : (Jvm.Cond.methodLink "DoorsForThree$Law" (3 : Nat) ({ cls := "java/lang/Object", name := "<init>", desc := "()V" } : Jvm.MethodName)) ∈ lw_tbl := am_t1 (List.mem_of_getElem? (i := 87) (by decide +kernel))
set_option maxRecDepth 1000000 in
theorem cv_88 : (Jvm.Cond.fieldLink "DoorsForThree$Law" (9 : Nat) "DoorsForThree$Law" "tape" "[I") ∈ lw_tbl := am_t1 (List.mem_of_getElem? (i := 88) (by decide +kernel))
set_option maxRecDepth 1000000 in
theorem cv_92 : (Jvm.Cond.fieldLink "DoorsForThree$Law" (13 : Nat) "DoorsForThree$Law" "draft" "[I") ∈ lw_tbl := am_t1 (List.mem_of_getElem? (i := 92) (by decide +kernel))
set_option maxRecDepth 1000000 in
theorem cv_94 : (Jvm.Cond.fieldLink "DoorsForThree$Law" (16 : Nat) "DoorsForThree$Law" "steps" "[I") ∈ lw_tbl := am_t1 (List.mem_of_getElem? (i := 94) (by decide +kernel))
set_option maxRecDepth 1000000 in
theorem cv_98 : (Jvm.Cond.fieldLink "DoorsForThree$Law" (19 : Nat) "DoorsForThree$Law" "stack" "[I") ∈ lw_tbl := am_t1 (List.mem_of_getElem? (i := 98) (by decide +kernel))
set_option maxRecDepth 1000000 in
theorem cv_126 : (Jvm.Cond.methodLink "DoorsForThree$Worths" (1 : Nat) ({ cls := "java/lang/Object", name := "<init>", desc := "()V" } : Jvm.MethodName)) ∈ lw_tbl := am_t1 (List.mem_of_getElem? (i := 126) (by decide +kernel))
set_option maxRecDepth 1000000 in
theorem cv_127 : (Jvm.Cond.fieldLink "DoorsForThree$Worths" (13 : Nat) "DoorsForThree$Worths" "calendar" "LDoorsForThree$Calendar;") ∈ lw_tbl := am_t1 (List.mem_of_getElem? (i := 127) (by decide +kernel))
set_option maxRecDepth 1000000 in
theorem cv_128 : (Jvm.Cond.fieldLink "DoorsForThree$Worths" (17 : Nat) "DoorsForThree$Worths" "law" "LDoorsForThree$Law;") ∈ lw_tbl := am_t1 (List.mem_of_getElem? (i := 128) (by decide +kernel))
set_option maxRecDepth 1000000 in
theorem cv_129 : (Jvm.Cond.fieldLink "DoorsForThree$Worths" (7 : Nat) "DoorsForThree$Worths" "named" "[I") ∈ lw_tbl := am_t1 (List.mem_of_getElem? (i := 129) (by decide +kernel))
set_option maxRecDepth 1000000 in
theorem cv_142 : (Jvm.Cond.methodLink "DoorsForThree$Givings" (3 : Nat) ({ cls := "java/lang/Object", name := "<init>", desc := "()V" } : Jvm.MethodName)) ∈ lw_tbl := am_t1 (List.mem_of_getElem? (i := 142) (by decide +kernel))
set_option maxRecDepth 1000000 in
theorem cv_143 : (Jvm.Cond.classLink "DoorsForThree$Givings" (24 : Nat) "[[I") ∈ lw_tbl := am_t1 (List.mem_of_getElem? (i := 143) (by decide +kernel))
set_option maxRecDepth 1000000 in
theorem cv_144 : (Jvm.Cond.fieldLink "DoorsForThree$Givings" (47 : Nat) "DoorsForThree$Givings" "calendar" "LDoorsForThree$Calendar;") ∈ lw_tbl := am_t1 (List.mem_of_getElem? (i := 144) (by decide +kernel))
set_option maxRecDepth 1000000 in
theorem cv_145 : (Jvm.Cond.fieldLink "DoorsForThree$Givings" (51 : Nat) "DoorsForThree$Givings" "worths" "LDoorsForThree$Worths;") ∈ lw_tbl := am_t1 (List.mem_of_getElem? (i := 145) (by decide +kernel))
set_option maxRecDepth 1000000 in
theorem cv_146 : (Jvm.Cond.fieldLink "DoorsForThree$Givings" (9 : Nat) "DoorsForThree$Givings" "seenVersion" "I") ∈ lw_tbl := am_t1 (List.mem_of_getElem? (i := 146) (by decide +kernel))
set_option maxRecDepth 1000000 in
theorem cv_148 : (Jvm.Cond.fieldLink "DoorsForThree$Givings" (17 : Nat) "DoorsForThree$Givings" "byDay" "[I") ∈ lw_tbl := am_t1 (List.mem_of_getElem? (i := 148) (by decide +kernel))
set_option maxRecDepth 1000000 in
theorem cv_149 : (Jvm.Cond.fieldLink "DoorsForThree$Givings" (21 : Nat) "DoorsForThree$Givings" "byAge" "[I") ∈ lw_tbl := am_t1 (List.mem_of_getElem? (i := 149) (by decide +kernel))
set_option maxRecDepth 1000000 in
theorem cv_150 : (Jvm.Cond.fieldLink "DoorsForThree$Givings" (26 : Nat) "DoorsForThree$Givings" "eaten" "[[I") ∈ lw_tbl := am_t1 (List.mem_of_getElem? (i := 150) (by decide +kernel))
set_option maxRecDepth 1000000 in
theorem cv_152 : (Jvm.Cond.fieldLink "DoorsForThree$Givings" (29 : Nat) "DoorsForThree$Givings" "given" "[[I") ∈ lw_tbl := am_t1 (List.mem_of_getElem? (i := 152) (by decide +kernel))
set_option maxRecDepth 1000000 in
theorem cv_153 : (Jvm.Cond.fieldLink "DoorsForThree$Givings" (32 : Nat) "DoorsForThree$Givings" "sums" "[[I") ∈ lw_tbl := am_t1 (List.mem_of_getElem? (i := 153) (by decide +kernel))
set_option maxRecDepth 1000000 in
theorem cv_154 : (Jvm.Cond.fieldLink "DoorsForThree$Givings" (35 : Nat) "DoorsForThree$Givings" "offered" "[I") ∈ lw_tbl := am_t1 (List.mem_of_getElem? (i := 154) (by decide +kernel))
set_option maxRecDepth 1000000 in
theorem cv_155 : (Jvm.Cond.fieldLink "DoorsForThree$Givings" (38 : Nat) "DoorsForThree$Givings" "tried" "[I") ∈ lw_tbl := am_t1 (List.mem_of_getElem? (i := 155) (by decide +kernel))
set_option maxRecDepth 1000000 in
theorem cv_156 : (Jvm.Cond.fieldLink "DoorsForThree$Givings" (41 : Nat) "DoorsForThree$Givings" "triedSums" "[I") ∈ lw_tbl := am_t1 (List.mem_of_getElem? (i := 156) (by decide +kernel))
set_option maxRecDepth 1000000 in
theorem cv_157 : (Jvm.Cond.fieldLink "DoorsForThree$Givings" (44 : Nat) "DoorsForThree$Givings" "mine" "[I") ∈ lw_tbl := am_t1 (List.mem_of_getElem? (i := 157) (by decide +kernel))
set_option maxRecDepth 1000000 in
theorem cv_191 : (Jvm.Cond.methodLink "DoorsForThree$Fairest" (3 : Nat) ({ cls := "java/lang/Object", name := "<init>", desc := "()V" } : Jvm.MethodName)) ∈ lw_tbl := am_t1 (List.mem_of_getElem? (i := 191) (by decide +kernel))
set_option maxRecDepth 1000000 in
theorem cv_192 : (Jvm.Cond.classLink "DoorsForThree$Fairest" (15 : Nat) "[[I") ∈ lw_tbl := am_t1 (List.mem_of_getElem? (i := 192) (by decide +kernel))
set_option maxRecDepth 1000000 in
theorem cv_193 : (Jvm.Cond.fieldLink "DoorsForThree$Fairest" (30 : Nat) "DoorsForThree$Fairest" "calendar" "LDoorsForThree$Calendar;") ∈ lw_tbl := am_t1 (List.mem_of_getElem? (i := 193) (by decide +kernel))
set_option maxRecDepth 1000000 in
theorem cv_194 : (Jvm.Cond.fieldLink "DoorsForThree$Fairest" (34 : Nat) "DoorsForThree$Fairest" "givings" "LDoorsForThree$Givings;") ∈ lw_tbl := am_t1 (List.mem_of_getElem? (i := 194) (by decide +kernel))
set_option maxRecDepth 1000000 in
theorem cv_195 : (Jvm.Cond.fieldLink "DoorsForThree$Fairest" (9 : Nat) "DoorsForThree$Fairest" "seenVersion" "I") ∈ lw_tbl := am_t1 (List.mem_of_getElem? (i := 195) (by decide +kernel))
set_option maxRecDepth 1000000 in
theorem cv_196 : (Jvm.Cond.fieldLink "DoorsForThree$Fairest" (17 : Nat) "DoorsForThree$Fairest" "eaten" "[[I") ∈ lw_tbl := am_t1 (List.mem_of_getElem? (i := 196) (by decide +kernel))
set_option maxRecDepth 1000000 in
theorem cv_197 : (Jvm.Cond.fieldLink "DoorsForThree$Fairest" (20 : Nat) "DoorsForThree$Fairest" "whose" "[I") ∈ lw_tbl := am_t1 (List.mem_of_getElem? (i := 197) (by decide +kernel))
set_option maxRecDepth 1000000 in
theorem cv_198 : (Jvm.Cond.fieldLink "DoorsForThree$Fairest" (24 : Nat) "DoorsForThree$Fairest" "fairest" "[I") ∈ lw_tbl := am_t1 (List.mem_of_getElem? (i := 198) (by decide +kernel))
set_option maxRecDepth 1000000 in
theorem cv_199 : (Jvm.Cond.fieldLink "DoorsForThree$Fairest" (27 : Nat) "DoorsForThree$Fairest" "held" "[[I") ∈ lw_tbl := am_t1 (List.mem_of_getElem? (i := 199) (by decide +kernel))
set_option maxRecDepth 1000000 in
theorem cv_232 : (Jvm.Cond.methodLink "DoorsForThree$Signs" (3 : Nat) ({ cls := "java/lang/Object", name := "<init>", desc := "()V" } : Jvm.MethodName)) ∈ lw_tbl := am_t1 (List.mem_of_getElem? (i := 232) (by decide +kernel))
set_option maxRecDepth 1000000 in
theorem cv_233 : (Jvm.Cond.fieldLink "DoorsForThree$Signs" (9 : Nat) "DoorsForThree$Signs" "calendar" "LDoorsForThree$Calendar;") ∈ lw_tbl := am_t1 (List.mem_of_getElem? (i := 233) (by decide +kernel))
set_option maxRecDepth 1000000 in
theorem cv_234 : (Jvm.Cond.fieldLink "DoorsForThree$Signs" (15 : Nat) "DoorsForThree$Signs" "givings" "LDoorsForThree$Givings;") ∈ lw_tbl := am_t1 (List.mem_of_getElem? (i := 234) (by decide +kernel))
set_option maxRecDepth 1000000 in
theorem cv_295 : (Jvm.Cond.methodLink "DoorsForThree$Pictures" (1 : Nat) ({ cls := "java/lang/Object", name := "<init>", desc := "()V" } : Jvm.MethodName)) ∈ lw_tbl := am_t1 (List.mem_of_getElem? (i := 295) (by decide +kernel))
set_option maxRecDepth 1000000 in
theorem cv_296 : (Jvm.Cond.fieldLink "DoorsForThree$Pictures" (9 : Nat) "DoorsForThree$Pictures" "kinds" "[I") ∈ lw_tbl := am_t1 (List.mem_of_getElem? (i := 296) (by decide +kernel))
set_option maxRecDepth 1000000 in
theorem cv_299 : (Jvm.Cond.fieldLink "DoorsForThree$Pictures" (13 : Nat) "DoorsForThree$Pictures" "trace" "[I") ∈ lw_tbl := am_t1 (List.mem_of_getElem? (i := 299) (by decide +kernel))
set_option maxRecDepth 1000000 in
theorem cv_316 : (Jvm.Cond.methodLink "DoorsForThree$Shelf" (3 : Nat) ({ cls := "java/lang/Object", name := "<init>", desc := "()V" } : Jvm.MethodName)) ∈ lw_tbl := am_t1 (List.mem_of_getElem? (i := 316) (by decide +kernel))
set_option maxRecDepth 1000000 in
theorem cv_317 : (Jvm.Cond.fieldLink "DoorsForThree$Shelf" (11 : Nat) "DoorsForThree$Shelf" "holds" "I") ∈ lw_tbl := am_t1 (List.mem_of_getElem? (i := 317) (by decide +kernel))
set_option maxRecDepth 1000000 in
theorem cv_321 : (Jvm.Cond.fieldLink "DoorsForThree$Shelf" (15 : Nat) "DoorsForThree$Shelf" "cells" "[J") ∈ lw_tbl := am_t1 (List.mem_of_getElem? (i := 321) (by decide +kernel))
set_option maxRecDepth 1000000 in
theorem cv_333 : (Jvm.Cond.arrayClass Jvm.ClassFile.FieldType.long) ∈ lw_tbl := am_t1 (List.mem_of_getElem? (i := 333) (by decide +kernel))
theorem dX0_init_0 : decode cX0_init 0 = .ok (.aload_n 0, 1) := by decide +kernel
theorem dX0_init_1 : decode cX0_init 1 = .ok (.invokespecial 1, 3) := by decide +kernel
theorem dX0_init_4 : decode cX0_init 4 = .ok (.aload_n 0, 1) := by decide +kernel
theorem dX0_init_5 : decode cX0_init 5 = .ok (.bipush 10, 2) := by decide +kernel
theorem dX0_init_7 : decode cX0_init 7 = .ok (.bipush 12, 2) := by decide +kernel
theorem dX0_init_9 : decode cX0_init 9 = .ok (.multianewarray 9 2, 4) := by decide +kernel
theorem dX0_init_13 : decode cX0_init 13 = .ok (.putfield 11, 3) := by decide +kernel
theorem dX0_init_16 : decode cX0_init 16 = .ok (.aload_n 0, 1) := by decide +kernel
theorem dX0_init_17 : decode cX0_init 17 = .ok (.getfield 11, 3) := by decide +kernel
theorem dX0_init_20 : decode cX0_init 20 = .ok (.bipush 9, 2) := by decide +kernel
theorem dX0_init_22 : decode cX0_init 22 = .ok (.aaload, 1) := by decide +kernel
theorem dX0_init_23 : decode cX0_init 23 = .ok (.iconst 0, 1) := by decide +kernel
theorem dX0_init_24 : decode cX0_init 24 = .ok (.iconst 1, 1) := by decide +kernel
theorem dX0_init_25 : decode cX0_init 25 = .ok (.iastore, 1) := by decide +kernel
theorem dX0_init_26 : decode cX0_init 26 = .ok (.return_, 1) := by decide +kernel
theorem dX1_init_0 : decode cX1_init 0 = .ok (.aload_n 0, 1) := by decide +kernel
theorem dX1_init_1 : decode cX1_init 1 = .ok (.invokespecial 1, 3) := by decide +kernel
theorem dX1_init_4 : decode cX1_init 4 = .ok (.aload_n 0, 1) := by decide +kernel
theorem dX1_init_5 : decode cX1_init 5 = .ok (.sipush 160, 3) := by decide +kernel
theorem dX1_init_8 : decode cX1_init 8 = .ok (.newarray .int, 2) := by decide +kernel
theorem dX1_init_10 : decode cX1_init 10 = .ok (.putfield 9, 3) := by decide +kernel
theorem dX1_init_13 : decode cX1_init 13 = .ok (.return_, 1) := by decide +kernel
theorem dX5_init_0 : decode cX5_init 0 = .ok (.aload_n 0, 1) := by decide +kernel
theorem dX5_init_1 : decode cX5_init 1 = .ok (.invokespecial 3, 3) := by decide +kernel
theorem dX5_init_4 : decode cX5_init 4 = .ok (.aload_n 0, 1) := by decide +kernel
theorem dX5_init_5 : decode cX5_init 5 = .ok (.bipush 120, 2) := by decide +kernel
theorem dX5_init_7 : decode cX5_init 7 = .ok (.newarray .int, 2) := by decide +kernel
theorem dX5_init_9 : decode cX5_init 9 = .ok (.putfield 9, 3) := by decide +kernel
theorem dX5_init_12 : decode cX5_init 12 = .ok (.aload_n 0, 1) := by decide +kernel
theorem dX5_init_13 : decode cX5_init 13 = .ok (.bipush 121, 2) := by decide +kernel
theorem dX5_init_15 : decode cX5_init 15 = .ok (.newarray .int, 2) := by decide +kernel
theorem dX5_init_17 : decode cX5_init 17 = .ok (.putfield 13, 3) := by decide +kernel
theorem dX5_init_20 : decode cX5_init 20 = .ok (.aload_n 0, 1) := by decide +kernel
theorem dX5_init_21 : decode cX5_init 21 = .ok (.bipush 121, 2) := by decide +kernel
theorem dX5_init_23 : decode cX5_init 23 = .ok (.newarray .int, 2) := by decide +kernel
theorem dX5_init_25 : decode cX5_init 25 = .ok (.putfield 16, 3) := by decide +kernel
theorem dX5_init_28 : decode cX5_init 28 = .ok (.aload_n 0, 1) := by decide +kernel
theorem dX5_init_29 : decode cX5_init 29 = .ok (.bipush 121, 2) := by decide +kernel
theorem dX5_init_31 : decode cX5_init 31 = .ok (.newarray .int, 2) := by decide +kernel
theorem dX5_init_33 : decode cX5_init 33 = .ok (.putfield 19, 3) := by decide +kernel
theorem dX5_init_36 : decode cX5_init 36 = .ok (.return_, 1) := by decide +kernel
theorem dX9_init_0 : decode cX9_init 0 = .ok (.aload_n 0, 1) := by decide +kernel
theorem dX9_init_1 : decode cX9_init 1 = .ok (.invokespecial 1, 3) := by decide +kernel
theorem dX9_init_4 : decode cX9_init 4 = .ok (.aload_n 0, 1) := by decide +kernel
theorem dX9_init_5 : decode cX9_init 5 = .ok (.bipush 6, 2) := by decide +kernel
theorem dX9_init_7 : decode cX9_init 7 = .ok (.newarray .int, 2) := by decide +kernel
theorem dX9_init_9 : decode cX9_init 9 = .ok (.putfield 7, 3) := by decide +kernel
theorem dX9_init_12 : decode cX9_init 12 = .ok (.aload_n 0, 1) := by decide +kernel
theorem dX9_init_13 : decode cX9_init 13 = .ok (.aload_n 1, 1) := by decide +kernel
theorem dX9_init_14 : decode cX9_init 14 = .ok (.putfield 13, 3) := by decide +kernel
theorem dX9_init_17 : decode cX9_init 17 = .ok (.aload_n 0, 1) := by decide +kernel
theorem dX9_init_18 : decode cX9_init 18 = .ok (.aload_n 2, 1) := by decide +kernel
theorem dX9_init_19 : decode cX9_init 19 = .ok (.putfield 17, 3) := by decide +kernel
theorem dX9_init_22 : decode cX9_init 22 = .ok (.return_, 1) := by decide +kernel
theorem dX4_init_0 : decode cX4_init 0 = .ok (.aload_n 0, 1) := by decide +kernel
theorem dX4_init_1 : decode cX4_init 1 = .ok (.invokespecial 3, 3) := by decide +kernel
theorem dX4_init_4 : decode cX4_init 4 = .ok (.aload_n 0, 1) := by decide +kernel
theorem dX4_init_5 : decode cX4_init 5 = .ok (.iconst (-1), 1) := by decide +kernel
theorem dX4_init_6 : decode cX4_init 6 = .ok (.putfield 9, 3) := by decide +kernel
theorem dX4_init_9 : decode cX4_init 9 = .ok (.aload_n 0, 1) := by decide +kernel
theorem dX4_init_10 : decode cX4_init 10 = .ok (.bipush 12, 2) := by decide +kernel
theorem dX4_init_12 : decode cX4_init 12 = .ok (.newarray .int, 2) := by decide +kernel
theorem dX4_init_14 : decode cX4_init 14 = .ok (.putfield 17, 3) := by decide +kernel
theorem dX4_init_17 : decode cX4_init 17 = .ok (.aload_n 0, 1) := by decide +kernel
theorem dX4_init_18 : decode cX4_init 18 = .ok (.iconst 5, 1) := by decide +kernel
theorem dX4_init_19 : decode cX4_init 19 = .ok (.newarray .int, 2) := by decide +kernel
theorem dX4_init_21 : decode cX4_init 21 = .ok (.putfield 21, 3) := by decide +kernel
theorem dX4_init_24 : decode cX4_init 24 = .ok (.aload_n 0, 1) := by decide +kernel
theorem dX4_init_25 : decode cX4_init 25 = .ok (.iconst 5, 1) := by decide +kernel
theorem dX4_init_26 : decode cX4_init 26 = .ok (.bipush 12, 2) := by decide +kernel
theorem dX4_init_28 : decode cX4_init 28 = .ok (.multianewarray 24 2, 4) := by decide +kernel
theorem dX4_init_32 : decode cX4_init 32 = .ok (.putfield 26, 3) := by decide +kernel
theorem dX4_init_35 : decode cX4_init 35 = .ok (.aload_n 0, 1) := by decide +kernel
theorem dX4_init_36 : decode cX4_init 36 = .ok (.iconst 5, 1) := by decide +kernel
theorem dX4_init_37 : decode cX4_init 37 = .ok (.bipush 12, 2) := by decide +kernel
theorem dX4_init_39 : decode cX4_init 39 = .ok (.multianewarray 24 2, 4) := by decide +kernel
theorem dX4_init_43 : decode cX4_init 43 = .ok (.putfield 29, 3) := by decide +kernel
theorem dX4_init_46 : decode cX4_init 46 = .ok (.aload_n 0, 1) := by decide +kernel
theorem dX4_init_47 : decode cX4_init 47 = .ok (.iconst 5, 1) := by decide +kernel
theorem dX4_init_48 : decode cX4_init 48 = .ok (.iconst 5, 1) := by decide +kernel
theorem dX4_init_49 : decode cX4_init 49 = .ok (.multianewarray 24 2, 4) := by decide +kernel
theorem dX4_init_53 : decode cX4_init 53 = .ok (.putfield 32, 3) := by decide +kernel
theorem dX4_init_56 : decode cX4_init 56 = .ok (.aload_n 0, 1) := by decide +kernel
theorem dX4_init_57 : decode cX4_init 57 = .ok (.iconst 5, 1) := by decide +kernel
theorem dX4_init_58 : decode cX4_init 58 = .ok (.newarray .int, 2) := by decide +kernel
theorem dX4_init_60 : decode cX4_init 60 = .ok (.putfield 35, 3) := by decide +kernel
theorem dX4_init_63 : decode cX4_init 63 = .ok (.aload_n 0, 1) := by decide +kernel
theorem dX4_init_64 : decode cX4_init 64 = .ok (.bipush 12, 2) := by decide +kernel
theorem dX4_init_66 : decode cX4_init 66 = .ok (.newarray .int, 2) := by decide +kernel
theorem dX4_init_68 : decode cX4_init 68 = .ok (.putfield 38, 3) := by decide +kernel
theorem dX4_init_71 : decode cX4_init 71 = .ok (.aload_n 0, 1) := by decide +kernel
theorem dX4_init_72 : decode cX4_init 72 = .ok (.iconst 5, 1) := by decide +kernel
theorem dX4_init_73 : decode cX4_init 73 = .ok (.newarray .int, 2) := by decide +kernel
theorem dX4_init_75 : decode cX4_init 75 = .ok (.putfield 41, 3) := by decide +kernel
theorem dX4_init_78 : decode cX4_init 78 = .ok (.aload_n 0, 1) := by decide +kernel
theorem dX4_init_79 : decode cX4_init 79 = .ok (.bipush 12, 2) := by decide +kernel
theorem dX4_init_81 : decode cX4_init 81 = .ok (.newarray .int, 2) := by decide +kernel
theorem dX4_init_83 : decode cX4_init 83 = .ok (.putfield 44, 3) := by decide +kernel
theorem dX4_init_86 : decode cX4_init 86 = .ok (.aload_n 0, 1) := by decide +kernel
theorem dX4_init_87 : decode cX4_init 87 = .ok (.aload_n 1, 1) := by decide +kernel
theorem dX4_init_88 : decode cX4_init 88 = .ok (.putfield 47, 3) := by decide +kernel
theorem dX4_init_91 : decode cX4_init 91 = .ok (.aload_n 0, 1) := by decide +kernel
theorem dX4_init_92 : decode cX4_init 92 = .ok (.aload_n 2, 1) := by decide +kernel
theorem dX4_init_93 : decode cX4_init 93 = .ok (.putfield 51, 3) := by decide +kernel
theorem dX4_init_96 : decode cX4_init 96 = .ok (.return_, 1) := by decide +kernel
theorem dX3_init_0 : decode cX3_init 0 = .ok (.aload_n 0, 1) := by decide +kernel
theorem dX3_init_1 : decode cX3_init 1 = .ok (.invokespecial 3, 3) := by decide +kernel
theorem dX3_init_4 : decode cX3_init 4 = .ok (.aload_n 0, 1) := by decide +kernel
theorem dX3_init_5 : decode cX3_init 5 = .ok (.iconst (-1), 1) := by decide +kernel
theorem dX3_init_6 : decode cX3_init 6 = .ok (.putfield 9, 3) := by decide +kernel
theorem dX3_init_9 : decode cX3_init 9 = .ok (.aload_n 0, 1) := by decide +kernel
theorem dX3_init_10 : decode cX3_init 10 = .ok (.iconst 3, 1) := by decide +kernel
theorem dX3_init_11 : decode cX3_init 11 = .ok (.bipush 8, 2) := by decide +kernel
theorem dX3_init_13 : decode cX3_init 13 = .ok (.multianewarray 15 2, 4) := by decide +kernel
theorem dX3_init_17 : decode cX3_init 17 = .ok (.putfield 17, 3) := by decide +kernel
theorem dX3_init_20 : decode cX3_init 20 = .ok (.aload_n 0, 1) := by decide +kernel
theorem dX3_init_21 : decode cX3_init 21 = .ok (.bipush 8, 2) := by decide +kernel
theorem dX3_init_23 : decode cX3_init 23 = .ok (.newarray .int, 2) := by decide +kernel
theorem dX3_init_25 : decode cX3_init 25 = .ok (.putfield 20, 3) := by decide +kernel
theorem dX3_init_28 : decode cX3_init 28 = .ok (.aload_n 0, 1) := by decide +kernel
theorem dX3_init_29 : decode cX3_init 29 = .ok (.bipush 8, 2) := by decide +kernel
theorem dX3_init_31 : decode cX3_init 31 = .ok (.newarray .int, 2) := by decide +kernel
theorem dX3_init_33 : decode cX3_init 33 = .ok (.putfield 24, 3) := by decide +kernel
theorem dX3_init_36 : decode cX3_init 36 = .ok (.aload_n 0, 1) := by decide +kernel
theorem dX3_init_37 : decode cX3_init 37 = .ok (.iconst 3, 1) := by decide +kernel
theorem dX3_init_38 : decode cX3_init 38 = .ok (.iconst 3, 1) := by decide +kernel
theorem dX3_init_39 : decode cX3_init 39 = .ok (.multianewarray 15 2, 4) := by decide +kernel
theorem dX3_init_43 : decode cX3_init 43 = .ok (.putfield 27, 3) := by decide +kernel
theorem dX3_init_46 : decode cX3_init 46 = .ok (.aload_n 0, 1) := by decide +kernel
theorem dX3_init_47 : decode cX3_init 47 = .ok (.aload_n 1, 1) := by decide +kernel
theorem dX3_init_48 : decode cX3_init 48 = .ok (.putfield 30, 3) := by decide +kernel
theorem dX3_init_51 : decode cX3_init 51 = .ok (.aload_n 0, 1) := by decide +kernel
theorem dX3_init_52 : decode cX3_init 52 = .ok (.aload_n 2, 1) := by decide +kernel
theorem dX3_init_53 : decode cX3_init 53 = .ok (.putfield 34, 3) := by decide +kernel
theorem dX3_init_56 : decode cX3_init 56 = .ok (.return_, 1) := by decide +kernel
theorem dX8_init_0 : decode cX8_init 0 = .ok (.aload_n 0, 1) := by decide +kernel
theorem dX8_init_1 : decode cX8_init 1 = .ok (.invokespecial 3, 3) := by decide +kernel
theorem dX8_init_4 : decode cX8_init 4 = .ok (.aload_n 0, 1) := by decide +kernel
theorem dX8_init_5 : decode cX8_init 5 = .ok (.aload_n 1, 1) := by decide +kernel
theorem dX8_init_6 : decode cX8_init 6 = .ok (.putfield 9, 3) := by decide +kernel
theorem dX8_init_9 : decode cX8_init 9 = .ok (.aload_n 0, 1) := by decide +kernel
theorem dX8_init_10 : decode cX8_init 10 = .ok (.aload_n 2, 1) := by decide +kernel
theorem dX8_init_11 : decode cX8_init 11 = .ok (.putfield 15, 3) := by decide +kernel
theorem dX8_init_14 : decode cX8_init 14 = .ok (.return_, 1) := by decide +kernel
theorem dX6_init_0 : decode cX6_init 0 = .ok (.aload_n 0, 1) := by decide +kernel
theorem dX6_init_1 : decode cX6_init 1 = .ok (.invokespecial 1, 3) := by decide +kernel
theorem dX6_init_4 : decode cX6_init 4 = .ok (.aload_n 0, 1) := by decide +kernel
theorem dX6_init_5 : decode cX6_init 5 = .ok (.bipush 50, 2) := by decide +kernel
theorem dX6_init_7 : decode cX6_init 7 = .ok (.newarray .int, 2) := by decide +kernel
theorem dX6_init_9 : decode cX6_init 9 = .ok (.putfield 9, 3) := by decide +kernel
theorem dX6_init_12 : decode cX6_init 12 = .ok (.aload_n 0, 1) := by decide +kernel
theorem dX6_init_13 : decode cX6_init 13 = .ok (.bipush 24, 2) := by decide +kernel
theorem dX6_init_15 : decode cX6_init 15 = .ok (.newarray .int, 2) := by decide +kernel
theorem dX6_init_17 : decode cX6_init 17 = .ok (.putfield 13, 3) := by decide +kernel
theorem dX6_init_20 : decode cX6_init 20 = .ok (.return_, 1) := by decide +kernel
theorem dX7_init_0 : decode cX7_init 0 = .ok (.aload_n 0, 1) := by decide +kernel
theorem dX7_init_1 : decode cX7_init 1 = .ok (.invokespecial 3, 3) := by decide +kernel
theorem dX7_init_4 : decode cX7_init 4 = .ok (.aload_n 0, 1) := by decide +kernel
theorem dX7_init_5 : decode cX7_init 5 = .ok (.iconst 0, 1) := by decide +kernel
theorem dX7_init_6 : decode cX7_init 6 = .ok (.putfield 11, 3) := by decide +kernel
theorem dX7_init_9 : decode cX7_init 9 = .ok (.aload_n 0, 1) := by decide +kernel
theorem dX7_init_10 : decode cX7_init 10 = .ok (.bipush 60, 2) := by decide +kernel
theorem dX7_init_12 : decode cX7_init 12 = .ok (.newarray .long, 2) := by decide +kernel
theorem dX7_init_14 : decode cX7_init 14 = .ok (.putfield 15, 3) := by decide +kernel
theorem dX7_init_17 : decode cX7_init 17 = .ok (.return_, 1) := by decide +kernel
section SP83
variable {l : Launch} {G : am_G} {B : Nat} {mi : am_MI} {ml : am_ML}
theorem ct_0_1 (hG : cm_ad G B) : cm_met l G B yX0_init cX0_init 1 2 11 130 [.ref (G.1 1)] 2 mi ml 13 (am_ui (am_ui mi 1 0 1) 12 0 1) ml := by
  refine Met.ofW (cc := cX0_init) (maxL := 1) (ret := none) (by decide) rfl ?_
  intro p e s m args below meth c s1 Bd hml hv
  obtain ⟨rfl, g1, hK, hX⟩ := hv
  have F : cm_fr p s m _ meth c G yX0_init cX0_init 1 none := ⟨Bd.exec, Bd.bytes, hml, Bd.returns, Bd.notSynchronized, fun w hw => atoms_spec (ws := cm_ws yX0_init cX0_init 1) Bd.pre w (List.mem_cons_of_mem _ hw), findClass_of_methodNamed Bd.named, (name_of_methodNamed Bd.named Bd.method).1, hK, hX⟩
  have hx := F.1
  have hb := F.2.1
  have hB : B ≤ s.heap.size := by
    rw [g1.2.1]
    exact Nat.le_add_right _ _
  have hl := lv_entry ([.ref (G.1 1)]) (n := 1) (Nat.le_of_ble_eq_true rfl)
  rw [lg_entry_eq]
  generalize (lg_sl ([.ref (G.1 1)]) ++ List.replicate (1 - (lg_sl ([.ref (G.1 1)])).length) Slot.unset).toArray = ls at hl ⊢
  have hl : lv_has ls 1 [(0, .ref (G.1 1))] := hl
  refine (?_ : cm_go p l e _ s m _ below meth c _ G B 0 ls [] 2 mi ml 0 0) s.heap [] g1 va_S.rf
  refine cq_pure (fun H locs => lv_aload_n hx hb dX0_init_0 rfl (lv_at hl 0 rfl)) ?_
  refine cq_obj F (a := 1) cv_38 cv_31 cv_obj dX0_init_1 hl.1 (by decide) (Nat.le_of_ble_eq_true rfl) (Nat.le_of_ble_eq_true rfl) ?_
  refine cq_pure (fun H locs => lv_aload_n hx hb dX0_init_4 rfl (lv_at hl 0 rfl)) ?_
  refine cq_pure (fun H locs => lv_bipush (v := (10 : Int32)) hx hb dX0_init_5 rfl) ?_
  refine cq_pure (fun H locs => lv_bipush (v := (12 : Int32)) hx hb dX0_init_7 rfl) ?_
  refine cq_multi F hG hB (N := 10) (M := 12) rfl rfl rfl rfl (by decide) (by decide) (by decide) (by decide) rfl rfl cv_39 cv_64 dX0_init_9 (Nat.le_of_ble_eq_true rfl) (Nat.le_of_ble_eq_true rfl) ?_
  refine cq_putF F hG (a := 1) (b := 2) (k := 0) (ty := (.array (.array .int))) rfl rfl rfl (by decide) rfl rfl (by decide) rfl rfl rfl rfl (by decide +kernel) (by decide +kernel) (fun _ => rfl) (fun _ => rfl) cv_41 dX0_init_13 ?_
  refine cq_pure (fun H locs => lv_aload_n hx hb dX0_init_16 rfl (lv_at hl 0 rfl)) ?_
  refine cq_get F (a := 1) (b := 2) (k := 0) rfl rfl rfl (by decide) rfl (by simp [am_ui]) rfl (by decide) rfl (by decide +kernel) cv_41 dX0_init_17 ?_
  refine cq_pure (fun H locs => lv_bipush (v := (9 : Int32)) hx hb dX0_init_20 rfl) ?_
  refine cq_aald F (a := 2) (b := 12) rfl rfl (by decide) (cq_vp (k := 9) rfl (by decide) (by decide)) rfl dX0_init_22 ?_
  refine cq_pure (fun H locs => lv_iconst (v := (0 : Int32)) hx hb dX0_init_23 rfl) ?_
  refine cq_pure (fun H locs => lv_iconst (v := (1 : Int32)) hx hb dX0_init_24 rfl) ?_
  refine cq_iast F hG (a := 12) rfl (by decide) (cq_vp (k := 0) rfl (by decide) (by decide)) dX0_init_25 ?_
  exact cq_ret F dX0_init_26

theorem ct_1_13 (hG : cm_ad G B) : cm_met l G B yX1_init cX1_init 1 2 1 160 [.ref (G.1 13)] 14 mi ml 15 (am_ui mi 13 0 1) ml := by
  refine Met.ofW (cc := cX1_init) (maxL := 1) (ret := none) (by decide) rfl ?_
  intro p e s m args below meth c s1 Bd hml hv
  obtain ⟨rfl, g1, hK, hX⟩ := hv
  have F : cm_fr p s m _ meth c G yX1_init cX1_init 1 none := ⟨Bd.exec, Bd.bytes, hml, Bd.returns, Bd.notSynchronized, fun w hw => atoms_spec (ws := cm_ws yX1_init cX1_init 1) Bd.pre w (List.mem_cons_of_mem _ hw), findClass_of_methodNamed Bd.named, (name_of_methodNamed Bd.named Bd.method).1, hK, hX⟩
  have hx := F.1
  have hb := F.2.1
  have hB : B ≤ s.heap.size := by
    rw [g1.2.1]
    exact Nat.le_add_right _ _
  have hl := lv_entry ([.ref (G.1 13)]) (n := 1) (Nat.le_of_ble_eq_true rfl)
  rw [lg_entry_eq]
  generalize (lg_sl ([.ref (G.1 13)]) ++ List.replicate (1 - (lg_sl ([.ref (G.1 13)])).length) Slot.unset).toArray = ls at hl ⊢
  have hl : lv_has ls 1 [(0, .ref (G.1 13))] := hl
  refine (?_ : cm_go p l e _ s m _ below meth c _ G B 0 ls [] 14 mi ml 0 0) s.heap [] g1 va_S.rf
  refine cq_pure (fun H locs => lv_aload_n hx hb dX1_init_0 rfl (lv_at hl 0 rfl)) ?_
  refine cq_obj F (a := 13) cv_70 cv_31 cv_obj dX1_init_1 hl.1 (by decide) (Nat.le_of_ble_eq_true rfl) (Nat.le_of_ble_eq_true rfl) ?_
  refine cq_pure (fun H locs => lv_aload_n hx hb dX1_init_4 rfl (lv_at hl 0 rfl)) ?_
  refine cq_pure (fun H locs => lv_sipush (v := (160 : Int32)) hx hb dX1_init_5 rfl) ?_
  refine cq_newa F hG hB (ty := .int) (N := 160) rfl (Or.inl ⟨rfl, rfl⟩) rfl (by decide) (by decide) rfl cv_64 dX1_init_8 (Nat.le_of_ble_eq_true rfl) (Nat.le_of_ble_eq_true rfl) ?_
  refine cq_putF F hG (a := 13) (b := 14) (k := 0) (ty := (.array .int)) rfl rfl rfl (by decide) rfl rfl (by decide) rfl rfl rfl rfl (by decide +kernel) (by decide +kernel) (fun _ => rfl) (fun _ => rfl) cv_71 dX1_init_10 ?_
  exact cq_ret F dX1_init_13

theorem ct_5_15 (hG : cm_ad G B) : cm_met l G B yX5_init cX5_init 1 2 4 483 [.ref (G.1 15)] 16 mi ml 20 (am_ui (am_ui (am_ui (am_ui mi 15 0 1) 15 3 1) 15 5 1) 15 8 1) ml := by
  refine Met.ofW (cc := cX5_init) (maxL := 1) (ret := none) (by decide) rfl ?_
  intro p e s m args below meth c s1 Bd hml hv
  obtain ⟨rfl, g1, hK, hX⟩ := hv
  have F : cm_fr p s m _ meth c G yX5_init cX5_init 1 none := ⟨Bd.exec, Bd.bytes, hml, Bd.returns, Bd.notSynchronized, fun w hw => atoms_spec (ws := cm_ws yX5_init cX5_init 1) Bd.pre w (List.mem_cons_of_mem _ hw), findClass_of_methodNamed Bd.named, (name_of_methodNamed Bd.named Bd.method).1, hK, hX⟩
  have hx := F.1
  have hb := F.2.1
  have hB : B ≤ s.heap.size := by
    rw [g1.2.1]
    exact Nat.le_add_right _ _
  have hl := lv_entry ([.ref (G.1 15)]) (n := 1) (Nat.le_of_ble_eq_true rfl)
  rw [lg_entry_eq]
  generalize (lg_sl ([.ref (G.1 15)]) ++ List.replicate (1 - (lg_sl ([.ref (G.1 15)])).length) Slot.unset).toArray = ls at hl ⊢
  have hl : lv_has ls 1 [(0, .ref (G.1 15))] := hl
  refine (?_ : cm_go p l e _ s m _ below meth c _ G B 0 ls [] 16 mi ml 0 0) s.heap [] g1 va_S.rf
  refine cq_pure (fun H locs => lv_aload_n hx hb dX5_init_0 rfl (lv_at hl 0 rfl)) ?_
  refine cq_obj F (a := 15) cv_87 cv_31 cv_obj dX5_init_1 hl.1 (by decide) (Nat.le_of_ble_eq_true rfl) (Nat.le_of_ble_eq_true rfl) ?_
  refine cq_pure (fun H locs => lv_aload_n hx hb dX5_init_4 rfl (lv_at hl 0 rfl)) ?_
  refine cq_pure (fun H locs => lv_bipush (v := (120 : Int32)) hx hb dX5_init_5 rfl) ?_
  refine cq_newa F hG hB (ty := .int) (N := 120) rfl (Or.inl ⟨rfl, rfl⟩) rfl (by decide) (by decide) rfl cv_64 dX5_init_7 (Nat.le_of_ble_eq_true rfl) (Nat.le_of_ble_eq_true rfl) ?_
  refine cq_putF F hG (a := 15) (b := 16) (k := 0) (ty := (.array .int)) rfl rfl rfl (by decide) rfl rfl (by decide) rfl rfl rfl rfl (by decide +kernel) (by decide +kernel) (fun _ => rfl) (fun _ => rfl) cv_88 dX5_init_9 ?_
  refine cq_pure (fun H locs => lv_aload_n hx hb dX5_init_12 rfl (lv_at hl 0 rfl)) ?_
  refine cq_pure (fun H locs => lv_bipush (v := (121 : Int32)) hx hb dX5_init_13 rfl) ?_
  refine cq_newa F hG hB (ty := .int) (N := 121) rfl (Or.inl ⟨rfl, rfl⟩) rfl (by decide) (by decide) rfl cv_64 dX5_init_15 (Nat.le_of_ble_eq_true rfl) (Nat.le_of_ble_eq_true rfl) ?_
  refine cq_putF F hG (a := 15) (b := 17) (k := 3) (ty := (.array .int)) rfl rfl rfl (by decide) rfl rfl (by decide) rfl rfl rfl rfl (by decide +kernel) (by decide +kernel) (fun _ => rfl) (fun _ => rfl) cv_92 dX5_init_17 ?_
  refine cq_pure (fun H locs => lv_aload_n hx hb dX5_init_20 rfl (lv_at hl 0 rfl)) ?_
  refine cq_pure (fun H locs => lv_bipush (v := (121 : Int32)) hx hb dX5_init_21 rfl) ?_
  refine cq_newa F hG hB (ty := .int) (N := 121) rfl (Or.inl ⟨rfl, rfl⟩) rfl (by decide) (by decide) rfl cv_64 dX5_init_23 (Nat.le_of_ble_eq_true rfl) (Nat.le_of_ble_eq_true rfl) ?_
  refine cq_putF F hG (a := 15) (b := 18) (k := 5) (ty := (.array .int)) rfl rfl rfl (by decide) rfl rfl (by decide) rfl rfl rfl rfl (by decide +kernel) (by decide +kernel) (fun _ => rfl) (fun _ => rfl) cv_94 dX5_init_25 ?_
  refine cq_pure (fun H locs => lv_aload_n hx hb dX5_init_28 rfl (lv_at hl 0 rfl)) ?_
  refine cq_pure (fun H locs => lv_bipush (v := (121 : Int32)) hx hb dX5_init_29 rfl) ?_
  refine cq_newa F hG hB (ty := .int) (N := 121) rfl (Or.inl ⟨rfl, rfl⟩) rfl (by decide) (by decide) rfl cv_64 dX5_init_31 (Nat.le_of_ble_eq_true rfl) (Nat.le_of_ble_eq_true rfl) ?_
  refine cq_putF F hG (a := 15) (b := 19) (k := 8) (ty := (.array .int)) rfl rfl rfl (by decide) rfl rfl (by decide) rfl rfl rfl rfl (by decide +kernel) (by decide +kernel) (fun _ => rfl) (fun _ => rfl) cv_98 dX5_init_33 ?_
  exact cq_ret F dX5_init_36

theorem ct_9_20 (hG : cm_ad G B) : cm_met l G B yX9_init cX9_init 3 2 1 6 [.ref (G.1 20), .ref (G.1 1), .ref (G.1 15)] 21 mi ml 22 (am_ui (am_ui (am_ui mi 20 2 1) 20 0 1) 20 1 1) ml := by
  refine Met.ofW (cc := cX9_init) (maxL := 3) (ret := none) (by decide) rfl ?_
  intro p e s m args below meth c s1 Bd hml hv
  obtain ⟨rfl, g1, hK, hX⟩ := hv
  have F : cm_fr p s m _ meth c G yX9_init cX9_init 3 none := ⟨Bd.exec, Bd.bytes, hml, Bd.returns, Bd.notSynchronized, fun w hw => atoms_spec (ws := cm_ws yX9_init cX9_init 3) Bd.pre w (List.mem_cons_of_mem _ hw), findClass_of_methodNamed Bd.named, (name_of_methodNamed Bd.named Bd.method).1, hK, hX⟩
  have hx := F.1
  have hb := F.2.1
  have hB : B ≤ s.heap.size := by
    rw [g1.2.1]
    exact Nat.le_add_right _ _
  have hl := lv_entry ([.ref (G.1 20), .ref (G.1 1), .ref (G.1 15)]) (n := 3) (Nat.le_of_ble_eq_true rfl)
  rw [lg_entry_eq]
  generalize (lg_sl ([.ref (G.1 20), .ref (G.1 1), .ref (G.1 15)]) ++ List.replicate (3 - (lg_sl ([.ref (G.1 20), .ref (G.1 1), .ref (G.1 15)])).length) Slot.unset).toArray = ls at hl ⊢
  have hl : lv_has ls 3 [(0, .ref (G.1 20)), (1, .ref (G.1 1)), (2, .ref (G.1 15))] := hl
  refine (?_ : cm_go p l e _ s m _ below meth c _ G B 0 ls [] 21 mi ml 0 0) s.heap [] g1 va_S.rf
  refine cq_pure (fun H locs => lv_aload_n hx hb dX9_init_0 rfl (lv_at hl 0 rfl)) ?_
  refine cq_obj F (a := 20) cv_126 cv_31 cv_obj dX9_init_1 hl.1 (by decide) (Nat.le_of_ble_eq_true rfl) (Nat.le_of_ble_eq_true rfl) ?_
  refine cq_pure (fun H locs => lv_aload_n hx hb dX9_init_4 rfl (lv_at hl 0 rfl)) ?_
  refine cq_pure (fun H locs => lv_bipush (v := (6 : Int32)) hx hb dX9_init_5 rfl) ?_
  refine cq_newa F hG hB (ty := .int) (N := 6) rfl (Or.inl ⟨rfl, rfl⟩) rfl (by decide) (by decide) rfl cv_64 dX9_init_7 (Nat.le_of_ble_eq_true rfl) (Nat.le_of_ble_eq_true rfl) ?_
  refine cq_putF F hG (a := 20) (b := 21) (k := 2) (ty := (.array .int)) rfl rfl rfl (by decide) rfl rfl (by decide) rfl rfl rfl rfl (by decide +kernel) (by decide +kernel) (fun _ => rfl) (fun _ => rfl) cv_129 dX9_init_9 ?_
  refine cq_pure (fun H locs => lv_aload_n hx hb dX9_init_12 rfl (lv_at hl 0 rfl)) ?_
  refine cq_pure (fun H locs => lv_aload_n hx hb dX9_init_13 rfl (lv_at hl 1 rfl)) ?_
  refine cq_putF F hG (a := 20) (b := 1) (k := 0) (ty := (.object "DoorsForThree$Calendar")) rfl rfl rfl (by decide) rfl rfl (by decide) rfl rfl rfl rfl (by decide +kernel) (by decide +kernel) (fun _ => rfl) (fun _ => rfl) cv_127 dX9_init_14 ?_
  refine cq_pure (fun H locs => lv_aload_n hx hb dX9_init_17 rfl (lv_at hl 0 rfl)) ?_
  refine cq_pure (fun H locs => lv_aload_n hx hb dX9_init_18 rfl (lv_at hl 2 rfl)) ?_
  refine cq_putF F hG (a := 20) (b := 15) (k := 1) (ty := (.object "DoorsForThree$Law")) rfl rfl rfl (by decide) rfl rfl (by decide) rfl rfl rfl rfl (by decide +kernel) (by decide +kernel) (fun _ => rfl) (fun _ => rfl) cv_128 dX9_init_19 ?_
  exact cq_ret F dX9_init_22

theorem ct_4_22 (hG : cm_ad G B) : cm_met l G B yX4_init cX4_init 3 2 24 211 [.ref (G.1 22), .ref (G.1 1), .ref (G.1 20)] 23 mi ml 47 (am_ui (am_ui (am_ui (am_ui (am_ui (am_ui (am_ui (am_ui (am_ui (am_ui (am_ui (am_ui mi 22 2 (-1)) 22 3 1) 22 4 1) 22 5 1) 22 6 1) 22 7 1) 22 8 1) 22 9 1) 22 10 1) 22 11 1) 22 0 1) 22 1 1) ml := by
  refine Met.ofW (cc := cX4_init) (maxL := 3) (ret := none) (by decide) rfl ?_
  intro p e s m args below meth c s1 Bd hml hv
  obtain ⟨rfl, g1, hK, hX⟩ := hv
  have F : cm_fr p s m _ meth c G yX4_init cX4_init 3 none := ⟨Bd.exec, Bd.bytes, hml, Bd.returns, Bd.notSynchronized, fun w hw => atoms_spec (ws := cm_ws yX4_init cX4_init 3) Bd.pre w (List.mem_cons_of_mem _ hw), findClass_of_methodNamed Bd.named, (name_of_methodNamed Bd.named Bd.method).1, hK, hX⟩
  have hx := F.1
  have hb := F.2.1
  have hB : B ≤ s.heap.size := by
    rw [g1.2.1]
    exact Nat.le_add_right _ _
  have hl := lv_entry ([.ref (G.1 22), .ref (G.1 1), .ref (G.1 20)]) (n := 3) (Nat.le_of_ble_eq_true rfl)
  rw [lg_entry_eq]
  generalize (lg_sl ([.ref (G.1 22), .ref (G.1 1), .ref (G.1 20)]) ++ List.replicate (3 - (lg_sl ([.ref (G.1 22), .ref (G.1 1), .ref (G.1 20)])).length) Slot.unset).toArray = ls at hl ⊢
  have hl : lv_has ls 3 [(0, .ref (G.1 22)), (1, .ref (G.1 1)), (2, .ref (G.1 20))] := hl
  refine (?_ : cm_go p l e _ s m _ below meth c _ G B 0 ls [] 23 mi ml 0 0) s.heap [] g1 va_S.rf
  refine cq_pure (fun H locs => lv_aload_n hx hb dX4_init_0 rfl (lv_at hl 0 rfl)) ?_
  refine cq_obj F (a := 22) cv_142 cv_31 cv_obj dX4_init_1 hl.1 (by decide) (Nat.le_of_ble_eq_true rfl) (Nat.le_of_ble_eq_true rfl) ?_
  refine cq_pure (fun H locs => lv_aload_n hx hb dX4_init_4 rfl (lv_at hl 0 rfl)) ?_
  refine cq_pure (fun H locs => lv_iconst (v := (-1 : Int32)) hx hb dX4_init_5 rfl) ?_
  refine cq_puti F hG (a := 22) (k := 2) rfl rfl rfl (by decide) rfl (by decide) rfl rfl rfl cv_146 dX4_init_6 ?_
  refine cq_pure (fun H locs => lv_aload_n hx hb dX4_init_9 rfl (lv_at hl 0 rfl)) ?_
  refine cq_pure (fun H locs => lv_bipush (v := (12 : Int32)) hx hb dX4_init_10 rfl) ?_
  refine cq_newa F hG hB (ty := .int) (N := 12) rfl (Or.inl ⟨rfl, rfl⟩) rfl (by decide) (by decide) rfl cv_64 dX4_init_12 (Nat.le_of_ble_eq_true rfl) (Nat.le_of_ble_eq_true rfl) ?_
  refine cq_putF F hG (a := 22) (b := 23) (k := 3) (ty := (.array .int)) rfl rfl rfl (by decide) rfl rfl (by decide) rfl rfl rfl rfl (by decide +kernel) (by decide +kernel) (fun _ => rfl) (fun _ => rfl) cv_148 dX4_init_14 ?_
  refine cq_pure (fun H locs => lv_aload_n hx hb dX4_init_17 rfl (lv_at hl 0 rfl)) ?_
  refine cq_pure (fun H locs => lv_iconst (v := (5 : Int32)) hx hb dX4_init_18 rfl) ?_
  refine cq_newa F hG hB (ty := .int) (N := 5) rfl (Or.inl ⟨rfl, rfl⟩) rfl (by decide) (by decide) rfl cv_64 dX4_init_19 (Nat.le_of_ble_eq_true rfl) (Nat.le_of_ble_eq_true rfl) ?_
  refine cq_putF F hG (a := 22) (b := 24) (k := 4) (ty := (.array .int)) rfl rfl rfl (by decide) rfl rfl (by decide) rfl rfl rfl rfl (by decide +kernel) (by decide +kernel) (fun _ => rfl) (fun _ => rfl) cv_149 dX4_init_21 ?_
  refine cq_pure (fun H locs => lv_aload_n hx hb dX4_init_24 rfl (lv_at hl 0 rfl)) ?_
  refine cq_pure (fun H locs => lv_iconst (v := (5 : Int32)) hx hb dX4_init_25 rfl) ?_
  refine cq_pure (fun H locs => lv_bipush (v := (12 : Int32)) hx hb dX4_init_26 rfl) ?_
  refine cq_multi F hG hB (N := 5) (M := 12) rfl rfl rfl rfl (by decide) (by decide) (by decide) (by decide) rfl rfl cv_143 cv_64 dX4_init_28 (Nat.le_of_ble_eq_true rfl) (Nat.le_of_ble_eq_true rfl) ?_
  refine cq_putF F hG (a := 22) (b := 25) (k := 5) (ty := (.array (.array .int))) rfl rfl rfl (by decide) rfl rfl (by decide) rfl rfl rfl rfl (by decide +kernel) (by decide +kernel) (fun _ => rfl) (fun _ => rfl) cv_150 dX4_init_32 ?_
  refine cq_pure (fun H locs => lv_aload_n hx hb dX4_init_35 rfl (lv_at hl 0 rfl)) ?_
  refine cq_pure (fun H locs => lv_iconst (v := (5 : Int32)) hx hb dX4_init_36 rfl) ?_
  refine cq_pure (fun H locs => lv_bipush (v := (12 : Int32)) hx hb dX4_init_37 rfl) ?_
  refine cq_multi F hG hB (N := 5) (M := 12) rfl rfl rfl rfl (by decide) (by decide) (by decide) (by decide) rfl rfl cv_143 cv_64 dX4_init_39 (Nat.le_of_ble_eq_true rfl) (Nat.le_of_ble_eq_true rfl) ?_
  refine cq_putF F hG (a := 22) (b := 31) (k := 6) (ty := (.array (.array .int))) rfl rfl rfl (by decide) rfl rfl (by decide) rfl rfl rfl rfl (by decide +kernel) (by decide +kernel) (fun _ => rfl) (fun _ => rfl) cv_152 dX4_init_43 ?_
  refine cq_pure (fun H locs => lv_aload_n hx hb dX4_init_46 rfl (lv_at hl 0 rfl)) ?_
  refine cq_pure (fun H locs => lv_iconst (v := (5 : Int32)) hx hb dX4_init_47 rfl) ?_
  refine cq_pure (fun H locs => lv_iconst (v := (5 : Int32)) hx hb dX4_init_48 rfl) ?_
  refine cq_multi F hG hB (N := 5) (M := 5) rfl rfl rfl rfl (by decide) (by decide) (by decide) (by decide) rfl rfl cv_143 cv_64 dX4_init_49 (Nat.le_of_ble_eq_true rfl) (Nat.le_of_ble_eq_true rfl) ?_
  refine cq_putF F hG (a := 22) (b := 37) (k := 7) (ty := (.array (.array .int))) rfl rfl rfl (by decide) rfl rfl (by decide) rfl rfl rfl rfl (by decide +kernel) (by decide +kernel) (fun _ => rfl) (fun _ => rfl) cv_153 dX4_init_53 ?_
  refine cq_pure (fun H locs => lv_aload_n hx hb dX4_init_56 rfl (lv_at hl 0 rfl)) ?_
  refine cq_pure (fun H locs => lv_iconst (v := (5 : Int32)) hx hb dX4_init_57 rfl) ?_
  refine cq_newa F hG hB (ty := .int) (N := 5) rfl (Or.inl ⟨rfl, rfl⟩) rfl (by decide) (by decide) rfl cv_64 dX4_init_58 (Nat.le_of_ble_eq_true rfl) (Nat.le_of_ble_eq_true rfl) ?_
  refine cq_putF F hG (a := 22) (b := 43) (k := 8) (ty := (.array .int)) rfl rfl rfl (by decide) rfl rfl (by decide) rfl rfl rfl rfl (by decide +kernel) (by decide +kernel) (fun _ => rfl) (fun _ => rfl) cv_154 dX4_init_60 ?_
  refine cq_pure (fun H locs => lv_aload_n hx hb dX4_init_63 rfl (lv_at hl 0 rfl)) ?_
  refine cq_pure (fun H locs => lv_bipush (v := (12 : Int32)) hx hb dX4_init_64 rfl) ?_
  refine cq_newa F hG hB (ty := .int) (N := 12) rfl (Or.inl ⟨rfl, rfl⟩) rfl (by decide) (by decide) rfl cv_64 dX4_init_66 (Nat.le_of_ble_eq_true rfl) (Nat.le_of_ble_eq_true rfl) ?_
  refine cq_putF F hG (a := 22) (b := 44) (k := 9) (ty := (.array .int)) rfl rfl rfl (by decide) rfl rfl (by decide) rfl rfl rfl rfl (by decide +kernel) (by decide +kernel) (fun _ => rfl) (fun _ => rfl) cv_155 dX4_init_68 ?_
  refine cq_pure (fun H locs => lv_aload_n hx hb dX4_init_71 rfl (lv_at hl 0 rfl)) ?_
  refine cq_pure (fun H locs => lv_iconst (v := (5 : Int32)) hx hb dX4_init_72 rfl) ?_
  refine cq_newa F hG hB (ty := .int) (N := 5) rfl (Or.inl ⟨rfl, rfl⟩) rfl (by decide) (by decide) rfl cv_64 dX4_init_73 (Nat.le_of_ble_eq_true rfl) (Nat.le_of_ble_eq_true rfl) ?_
  refine cq_putF F hG (a := 22) (b := 45) (k := 10) (ty := (.array .int)) rfl rfl rfl (by decide) rfl rfl (by decide) rfl rfl rfl rfl (by decide +kernel) (by decide +kernel) (fun _ => rfl) (fun _ => rfl) cv_156 dX4_init_75 ?_
  refine cq_pure (fun H locs => lv_aload_n hx hb dX4_init_78 rfl (lv_at hl 0 rfl)) ?_
  refine cq_pure (fun H locs => lv_bipush (v := (12 : Int32)) hx hb dX4_init_79 rfl) ?_
  refine cq_newa F hG hB (ty := .int) (N := 12) rfl (Or.inl ⟨rfl, rfl⟩) rfl (by decide) (by decide) rfl cv_64 dX4_init_81 (Nat.le_of_ble_eq_true rfl) (Nat.le_of_ble_eq_true rfl) ?_
  refine cq_putF F hG (a := 22) (b := 46) (k := 11) (ty := (.array .int)) rfl rfl rfl (by decide) rfl rfl (by decide) rfl rfl rfl rfl (by decide +kernel) (by decide +kernel) (fun _ => rfl) (fun _ => rfl) cv_157 dX4_init_83 ?_
  refine cq_pure (fun H locs => lv_aload_n hx hb dX4_init_86 rfl (lv_at hl 0 rfl)) ?_
  refine cq_pure (fun H locs => lv_aload_n hx hb dX4_init_87 rfl (lv_at hl 1 rfl)) ?_
  refine cq_putF F hG (a := 22) (b := 1) (k := 0) (ty := (.object "DoorsForThree$Calendar")) rfl rfl rfl (by decide) rfl rfl (by decide) rfl rfl rfl rfl (by decide +kernel) (by decide +kernel) (fun _ => rfl) (fun _ => rfl) cv_144 dX4_init_88 ?_
  refine cq_pure (fun H locs => lv_aload_n hx hb dX4_init_91 rfl (lv_at hl 0 rfl)) ?_
  refine cq_pure (fun H locs => lv_aload_n hx hb dX4_init_92 rfl (lv_at hl 2 rfl)) ?_
  refine cq_putF F hG (a := 22) (b := 20) (k := 1) (ty := (.object "DoorsForThree$Worths")) rfl rfl rfl (by decide) rfl rfl (by decide) rfl rfl rfl rfl (by decide +kernel) (by decide +kernel) (fun _ => rfl) (fun _ => rfl) cv_145 dX4_init_93 ?_
  exact cq_ret F dX4_init_96

theorem ct_3_47 (hG : cm_ad G B) : cm_met l G B yX3_init cX3_init 3 2 10 55 [.ref (G.1 47), .ref (G.1 1), .ref (G.1 22)] 48 mi ml 58 (am_ui (am_ui (am_ui (am_ui (am_ui (am_ui (am_ui mi 47 2 (-1)) 47 3 1) 47 4 1) 47 5 1) 47 6 1) 47 0 1) 47 1 1) ml := by
  refine Met.ofW (cc := cX3_init) (maxL := 3) (ret := none) (by decide) rfl ?_
  intro p e s m args below meth c s1 Bd hml hv
  obtain ⟨rfl, g1, hK, hX⟩ := hv
  have F : cm_fr p s m _ meth c G yX3_init cX3_init 3 none := ⟨Bd.exec, Bd.bytes, hml, Bd.returns, Bd.notSynchronized, fun w hw => atoms_spec (ws := cm_ws yX3_init cX3_init 3) Bd.pre w (List.mem_cons_of_mem _ hw), findClass_of_methodNamed Bd.named, (name_of_methodNamed Bd.named Bd.method).1, hK, hX⟩
  have hx := F.1
  have hb := F.2.1
  have hB : B ≤ s.heap.size := by
    rw [g1.2.1]
    exact Nat.le_add_right _ _
  have hl := lv_entry ([.ref (G.1 47), .ref (G.1 1), .ref (G.1 22)]) (n := 3) (Nat.le_of_ble_eq_true rfl)
  rw [lg_entry_eq]
  generalize (lg_sl ([.ref (G.1 47), .ref (G.1 1), .ref (G.1 22)]) ++ List.replicate (3 - (lg_sl ([.ref (G.1 47), .ref (G.1 1), .ref (G.1 22)])).length) Slot.unset).toArray = ls at hl ⊢
  have hl : lv_has ls 3 [(0, .ref (G.1 47)), (1, .ref (G.1 1)), (2, .ref (G.1 22))] := hl
  refine (?_ : cm_go p l e _ s m _ below meth c _ G B 0 ls [] 48 mi ml 0 0) s.heap [] g1 va_S.rf
  refine cq_pure (fun H locs => lv_aload_n hx hb dX3_init_0 rfl (lv_at hl 0 rfl)) ?_
  refine cq_obj F (a := 47) cv_191 cv_31 cv_obj dX3_init_1 hl.1 (by decide) (Nat.le_of_ble_eq_true rfl) (Nat.le_of_ble_eq_true rfl) ?_
  refine cq_pure (fun H locs => lv_aload_n hx hb dX3_init_4 rfl (lv_at hl 0 rfl)) ?_
  refine cq_pure (fun H locs => lv_iconst (v := (-1 : Int32)) hx hb dX3_init_5 rfl) ?_
  refine cq_puti F hG (a := 47) (k := 2) rfl rfl rfl (by decide) rfl (by decide) rfl rfl rfl cv_195 dX3_init_6 ?_
  refine cq_pure (fun H locs => lv_aload_n hx hb dX3_init_9 rfl (lv_at hl 0 rfl)) ?_
  refine cq_pure (fun H locs => lv_iconst (v := (3 : Int32)) hx hb dX3_init_10 rfl) ?_
  refine cq_pure (fun H locs => lv_bipush (v := (8 : Int32)) hx hb dX3_init_11 rfl) ?_
  refine cq_multi F hG hB (N := 3) (M := 8) rfl rfl rfl rfl (by decide) (by decide) (by decide) (by decide) rfl rfl cv_192 cv_64 dX3_init_13 (Nat.le_of_ble_eq_true rfl) (Nat.le_of_ble_eq_true rfl) ?_
  refine cq_putF F hG (a := 47) (b := 48) (k := 3) (ty := (.array (.array .int))) rfl rfl rfl (by decide) rfl rfl (by decide) rfl rfl rfl rfl (by decide +kernel) (by decide +kernel) (fun _ => rfl) (fun _ => rfl) cv_196 dX3_init_17 ?_
  refine cq_pure (fun H locs => lv_aload_n hx hb dX3_init_20 rfl (lv_at hl 0 rfl)) ?_
  refine cq_pure (fun H locs => lv_bipush (v := (8 : Int32)) hx hb dX3_init_21 rfl) ?_
  refine cq_newa F hG hB (ty := .int) (N := 8) rfl (Or.inl ⟨rfl, rfl⟩) rfl (by decide) (by decide) rfl cv_64 dX3_init_23 (Nat.le_of_ble_eq_true rfl) (Nat.le_of_ble_eq_true rfl) ?_
  refine cq_putF F hG (a := 47) (b := 52) (k := 4) (ty := (.array .int)) rfl rfl rfl (by decide) rfl rfl (by decide) rfl rfl rfl rfl (by decide +kernel) (by decide +kernel) (fun _ => rfl) (fun _ => rfl) cv_197 dX3_init_25 ?_
  refine cq_pure (fun H locs => lv_aload_n hx hb dX3_init_28 rfl (lv_at hl 0 rfl)) ?_
  refine cq_pure (fun H locs => lv_bipush (v := (8 : Int32)) hx hb dX3_init_29 rfl) ?_
  refine cq_newa F hG hB (ty := .int) (N := 8) rfl (Or.inl ⟨rfl, rfl⟩) rfl (by decide) (by decide) rfl cv_64 dX3_init_31 (Nat.le_of_ble_eq_true rfl) (Nat.le_of_ble_eq_true rfl) ?_
  refine cq_putF F hG (a := 47) (b := 53) (k := 5) (ty := (.array .int)) rfl rfl rfl (by decide) rfl rfl (by decide) rfl rfl rfl rfl (by decide +kernel) (by decide +kernel) (fun _ => rfl) (fun _ => rfl) cv_198 dX3_init_33 ?_
  refine cq_pure (fun H locs => lv_aload_n hx hb dX3_init_36 rfl (lv_at hl 0 rfl)) ?_
  refine cq_pure (fun H locs => lv_iconst (v := (3 : Int32)) hx hb dX3_init_37 rfl) ?_
  refine cq_pure (fun H locs => lv_iconst (v := (3 : Int32)) hx hb dX3_init_38 rfl) ?_
  refine cq_multi F hG hB (N := 3) (M := 3) rfl rfl rfl rfl (by decide) (by decide) (by decide) (by decide) rfl rfl cv_192 cv_64 dX3_init_39 (Nat.le_of_ble_eq_true rfl) (Nat.le_of_ble_eq_true rfl) ?_
  refine cq_putF F hG (a := 47) (b := 54) (k := 6) (ty := (.array (.array .int))) rfl rfl rfl (by decide) rfl rfl (by decide) rfl rfl rfl rfl (by decide +kernel) (by decide +kernel) (fun _ => rfl) (fun _ => rfl) cv_199 dX3_init_43 ?_
  refine cq_pure (fun H locs => lv_aload_n hx hb dX3_init_46 rfl (lv_at hl 0 rfl)) ?_
  refine cq_pure (fun H locs => lv_aload_n hx hb dX3_init_47 rfl (lv_at hl 1 rfl)) ?_
  refine cq_putF F hG (a := 47) (b := 1) (k := 0) (ty := (.object "DoorsForThree$Calendar")) rfl rfl rfl (by decide) rfl rfl (by decide) rfl rfl rfl rfl (by decide +kernel) (by decide +kernel) (fun _ => rfl) (fun _ => rfl) cv_193 dX3_init_48 ?_
  refine cq_pure (fun H locs => lv_aload_n hx hb dX3_init_51 rfl (lv_at hl 0 rfl)) ?_
  refine cq_pure (fun H locs => lv_aload_n hx hb dX3_init_52 rfl (lv_at hl 2 rfl)) ?_
  refine cq_putF F hG (a := 47) (b := 22) (k := 1) (ty := (.object "DoorsForThree$Givings")) rfl rfl rfl (by decide) rfl rfl (by decide) rfl rfl rfl rfl (by decide +kernel) (by decide +kernel) (fun _ => rfl) (fun _ => rfl) cv_194 dX3_init_53 ?_
  exact cq_ret F dX3_init_56

theorem ct_8_58 (hG : cm_ad G B) : cm_met l G B yX8_init cX8_init 3 2 0 0 [.ref (G.1 58), .ref (G.1 1), .ref (G.1 22)] 59 mi ml 59 (am_ui (am_ui mi 58 0 1) 58 1 1) ml := by
  refine Met.ofW (cc := cX8_init) (maxL := 3) (ret := none) (by decide) rfl ?_
  intro p e s m args below meth c s1 Bd hml hv
  obtain ⟨rfl, g1, hK, hX⟩ := hv
  have F : cm_fr p s m _ meth c G yX8_init cX8_init 3 none := ⟨Bd.exec, Bd.bytes, hml, Bd.returns, Bd.notSynchronized, fun w hw => atoms_spec (ws := cm_ws yX8_init cX8_init 3) Bd.pre w (List.mem_cons_of_mem _ hw), findClass_of_methodNamed Bd.named, (name_of_methodNamed Bd.named Bd.method).1, hK, hX⟩
  have hx := F.1
  have hb := F.2.1
  have hB : B ≤ s.heap.size := by
    rw [g1.2.1]
    exact Nat.le_add_right _ _
  have hl := lv_entry ([.ref (G.1 58), .ref (G.1 1), .ref (G.1 22)]) (n := 3) (Nat.le_of_ble_eq_true rfl)
  rw [lg_entry_eq]
  generalize (lg_sl ([.ref (G.1 58), .ref (G.1 1), .ref (G.1 22)]) ++ List.replicate (3 - (lg_sl ([.ref (G.1 58), .ref (G.1 1), .ref (G.1 22)])).length) Slot.unset).toArray = ls at hl ⊢
  have hl : lv_has ls 3 [(0, .ref (G.1 58)), (1, .ref (G.1 1)), (2, .ref (G.1 22))] := hl
  refine (?_ : cm_go p l e _ s m _ below meth c _ G B 0 ls [] 59 mi ml 0 0) s.heap [] g1 va_S.rf
  refine cq_pure (fun H locs => lv_aload_n hx hb dX8_init_0 rfl (lv_at hl 0 rfl)) ?_
  refine cq_obj F (a := 58) cv_232 cv_31 cv_obj dX8_init_1 hl.1 (by decide) (Nat.le_of_ble_eq_true rfl) (Nat.le_of_ble_eq_true rfl) ?_
  refine cq_pure (fun H locs => lv_aload_n hx hb dX8_init_4 rfl (lv_at hl 0 rfl)) ?_
  refine cq_pure (fun H locs => lv_aload_n hx hb dX8_init_5 rfl (lv_at hl 1 rfl)) ?_
  refine cq_putF F hG (a := 58) (b := 1) (k := 0) (ty := (.object "DoorsForThree$Calendar")) rfl rfl rfl (by decide) rfl rfl (by decide) rfl rfl rfl rfl (by decide +kernel) (by decide +kernel) (fun _ => rfl) (fun _ => rfl) cv_233 dX8_init_6 ?_
  refine cq_pure (fun H locs => lv_aload_n hx hb dX8_init_9 rfl (lv_at hl 0 rfl)) ?_
  refine cq_pure (fun H locs => lv_aload_n hx hb dX8_init_10 rfl (lv_at hl 2 rfl)) ?_
  refine cq_putF F hG (a := 58) (b := 22) (k := 1) (ty := (.object "DoorsForThree$Givings")) rfl rfl rfl (by decide) rfl rfl (by decide) rfl rfl rfl rfl (by decide +kernel) (by decide +kernel) (fun _ => rfl) (fun _ => rfl) cv_234 dX8_init_11 ?_
  exact cq_ret F dX8_init_14

theorem ct_6_62 (hG : cm_ad G B) : cm_met l G B yX6_init cX6_init 1 2 2 74 [.ref (G.1 62)] 63 mi ml 65 (am_ui (am_ui mi 62 0 1) 62 2 1) ml := by
  refine Met.ofW (cc := cX6_init) (maxL := 1) (ret := none) (by decide) rfl ?_
  intro p e s m args below meth c s1 Bd hml hv
  obtain ⟨rfl, g1, hK, hX⟩ := hv
  have F : cm_fr p s m _ meth c G yX6_init cX6_init 1 none := ⟨Bd.exec, Bd.bytes, hml, Bd.returns, Bd.notSynchronized, fun w hw => atoms_spec (ws := cm_ws yX6_init cX6_init 1) Bd.pre w (List.mem_cons_of_mem _ hw), findClass_of_methodNamed Bd.named, (name_of_methodNamed Bd.named Bd.method).1, hK, hX⟩
  have hx := F.1
  have hb := F.2.1
  have hB : B ≤ s.heap.size := by
    rw [g1.2.1]
    exact Nat.le_add_right _ _
  have hl := lv_entry ([.ref (G.1 62)]) (n := 1) (Nat.le_of_ble_eq_true rfl)
  rw [lg_entry_eq]
  generalize (lg_sl ([.ref (G.1 62)]) ++ List.replicate (1 - (lg_sl ([.ref (G.1 62)])).length) Slot.unset).toArray = ls at hl ⊢
  have hl : lv_has ls 1 [(0, .ref (G.1 62))] := hl
  refine (?_ : cm_go p l e _ s m _ below meth c _ G B 0 ls [] 63 mi ml 0 0) s.heap [] g1 va_S.rf
  refine cq_pure (fun H locs => lv_aload_n hx hb dX6_init_0 rfl (lv_at hl 0 rfl)) ?_
  refine cq_obj F (a := 62) cv_295 cv_31 cv_obj dX6_init_1 hl.1 (by decide) (Nat.le_of_ble_eq_true rfl) (Nat.le_of_ble_eq_true rfl) ?_
  refine cq_pure (fun H locs => lv_aload_n hx hb dX6_init_4 rfl (lv_at hl 0 rfl)) ?_
  refine cq_pure (fun H locs => lv_bipush (v := (50 : Int32)) hx hb dX6_init_5 rfl) ?_
  refine cq_newa F hG hB (ty := .int) (N := 50) rfl (Or.inl ⟨rfl, rfl⟩) rfl (by decide) (by decide) rfl cv_64 dX6_init_7 (Nat.le_of_ble_eq_true rfl) (Nat.le_of_ble_eq_true rfl) ?_
  refine cq_putF F hG (a := 62) (b := 63) (k := 0) (ty := (.array .int)) rfl rfl rfl (by decide) rfl rfl (by decide) rfl rfl rfl rfl (by decide +kernel) (by decide +kernel) (fun _ => rfl) (fun _ => rfl) cv_296 dX6_init_9 ?_
  refine cq_pure (fun H locs => lv_aload_n hx hb dX6_init_12 rfl (lv_at hl 0 rfl)) ?_
  refine cq_pure (fun H locs => lv_bipush (v := (24 : Int32)) hx hb dX6_init_13 rfl) ?_
  refine cq_newa F hG hB (ty := .int) (N := 24) rfl (Or.inl ⟨rfl, rfl⟩) rfl (by decide) (by decide) rfl cv_64 dX6_init_15 (Nat.le_of_ble_eq_true rfl) (Nat.le_of_ble_eq_true rfl) ?_
  refine cq_putF F hG (a := 62) (b := 64) (k := 2) (ty := (.array .int)) rfl rfl rfl (by decide) rfl rfl (by decide) rfl rfl rfl rfl (by decide +kernel) (by decide +kernel) (fun _ => rfl) (fun _ => rfl) cv_299 dX6_init_17 ?_
  exact cq_ret F dX6_init_20

theorem ct_7_66 (hG : cm_ad G B) : cm_met l G B yX7_init cX7_init 1 2 1 60 [.ref (G.1 66)] 67 mi ml 68 (am_ui (am_ui mi 66 0 0) 66 4 1) ml := by
  refine Met.ofW (cc := cX7_init) (maxL := 1) (ret := none) (by decide) rfl ?_
  intro p e s m args below meth c s1 Bd hml hv
  obtain ⟨rfl, g1, hK, hX⟩ := hv
  have F : cm_fr p s m _ meth c G yX7_init cX7_init 1 none := ⟨Bd.exec, Bd.bytes, hml, Bd.returns, Bd.notSynchronized, fun w hw => atoms_spec (ws := cm_ws yX7_init cX7_init 1) Bd.pre w (List.mem_cons_of_mem _ hw), findClass_of_methodNamed Bd.named, (name_of_methodNamed Bd.named Bd.method).1, hK, hX⟩
  have hx := F.1
  have hb := F.2.1
  have hB : B ≤ s.heap.size := by
    rw [g1.2.1]
    exact Nat.le_add_right _ _
  have hl := lv_entry ([.ref (G.1 66)]) (n := 1) (Nat.le_of_ble_eq_true rfl)
  rw [lg_entry_eq]
  generalize (lg_sl ([.ref (G.1 66)]) ++ List.replicate (1 - (lg_sl ([.ref (G.1 66)])).length) Slot.unset).toArray = ls at hl ⊢
  have hl : lv_has ls 1 [(0, .ref (G.1 66))] := hl
  refine (?_ : cm_go p l e _ s m _ below meth c _ G B 0 ls [] 67 mi ml 0 0) s.heap [] g1 va_S.rf
  refine cq_pure (fun H locs => lv_aload_n hx hb dX7_init_0 rfl (lv_at hl 0 rfl)) ?_
  refine cq_obj F (a := 66) cv_316 cv_31 cv_obj dX7_init_1 hl.1 (by decide) (Nat.le_of_ble_eq_true rfl) (Nat.le_of_ble_eq_true rfl) ?_
  refine cq_pure (fun H locs => lv_aload_n hx hb dX7_init_4 rfl (lv_at hl 0 rfl)) ?_
  refine cq_pure (fun H locs => lv_iconst (v := (0 : Int32)) hx hb dX7_init_5 rfl) ?_
  refine cq_puti F hG (a := 66) (k := 0) rfl rfl rfl (by decide) rfl (by decide) rfl rfl rfl cv_317 dX7_init_6 ?_
  refine cq_pure (fun H locs => lv_aload_n hx hb dX7_init_9 rfl (lv_at hl 0 rfl)) ?_
  refine cq_pure (fun H locs => lv_bipush (v := (60 : Int32)) hx hb dX7_init_10 rfl) ?_
  refine cq_newa F hG hB (ty := .long) (N := 60) rfl (Or.inr ⟨rfl, rfl⟩) rfl (by decide) (by decide) rfl cv_333 dX7_init_12 (Nat.le_of_ble_eq_true rfl) (Nat.le_of_ble_eq_true rfl) ?_
  refine cq_putF F hG (a := 66) (b := 67) (k := 4) (ty := (.array .long)) rfl rfl rfl (by decide) rfl rfl (by decide) rfl rfl rfl rfl (by decide +kernel) (by decide +kernel) (fun _ => rfl) (fun _ => rfl) cv_321 dX7_init_14 ?_
  exact cq_ret F dX7_init_17

theorem ct_7_68 (hG : cm_ad G B) : cm_met l G B yX7_init cX7_init 1 2 1 60 [.ref (G.1 68)] 69 mi ml 70 (am_ui (am_ui mi 68 0 0) 68 4 1) ml := by
  refine Met.ofW (cc := cX7_init) (maxL := 1) (ret := none) (by decide) rfl ?_
  intro p e s m args below meth c s1 Bd hml hv
  obtain ⟨rfl, g1, hK, hX⟩ := hv
  have F : cm_fr p s m _ meth c G yX7_init cX7_init 1 none := ⟨Bd.exec, Bd.bytes, hml, Bd.returns, Bd.notSynchronized, fun w hw => atoms_spec (ws := cm_ws yX7_init cX7_init 1) Bd.pre w (List.mem_cons_of_mem _ hw), findClass_of_methodNamed Bd.named, (name_of_methodNamed Bd.named Bd.method).1, hK, hX⟩
  have hx := F.1
  have hb := F.2.1
  have hB : B ≤ s.heap.size := by
    rw [g1.2.1]
    exact Nat.le_add_right _ _
  have hl := lv_entry ([.ref (G.1 68)]) (n := 1) (Nat.le_of_ble_eq_true rfl)
  rw [lg_entry_eq]
  generalize (lg_sl ([.ref (G.1 68)]) ++ List.replicate (1 - (lg_sl ([.ref (G.1 68)])).length) Slot.unset).toArray = ls at hl ⊢
  have hl : lv_has ls 1 [(0, .ref (G.1 68))] := hl
  refine (?_ : cm_go p l e _ s m _ below meth c _ G B 0 ls [] 69 mi ml 0 0) s.heap [] g1 va_S.rf
  refine cq_pure (fun H locs => lv_aload_n hx hb dX7_init_0 rfl (lv_at hl 0 rfl)) ?_
  refine cq_obj F (a := 68) cv_316 cv_31 cv_obj dX7_init_1 hl.1 (by decide) (Nat.le_of_ble_eq_true rfl) (Nat.le_of_ble_eq_true rfl) ?_
  refine cq_pure (fun H locs => lv_aload_n hx hb dX7_init_4 rfl (lv_at hl 0 rfl)) ?_
  refine cq_pure (fun H locs => lv_iconst (v := (0 : Int32)) hx hb dX7_init_5 rfl) ?_
  refine cq_puti F hG (a := 68) (k := 0) rfl rfl rfl (by decide) rfl (by decide) rfl rfl rfl cv_317 dX7_init_6 ?_
  refine cq_pure (fun H locs => lv_aload_n hx hb dX7_init_9 rfl (lv_at hl 0 rfl)) ?_
  refine cq_pure (fun H locs => lv_bipush (v := (60 : Int32)) hx hb dX7_init_10 rfl) ?_
  refine cq_newa F hG hB (ty := .long) (N := 60) rfl (Or.inr ⟨rfl, rfl⟩) rfl (by decide) (by decide) rfl cv_333 dX7_init_12 (Nat.le_of_ble_eq_true rfl) (Nat.le_of_ble_eq_true rfl) ?_
  refine cq_putF F hG (a := 68) (b := 69) (k := 4) (ty := (.array .long)) rfl rfl rfl (by decide) rfl rfl (by decide) rfl rfl rfl rfl (by decide +kernel) (by decide +kernel) (fun _ => rfl) (fun _ => rfl) cv_321 dX7_init_14 ?_
  exact cq_ret F dX7_init_17

theorem ct_7_70 (hG : cm_ad G B) : cm_met l G B yX7_init cX7_init 1 2 1 60 [.ref (G.1 70)] 71 mi ml 72 (am_ui (am_ui mi 70 0 0) 70 4 1) ml := by
  refine Met.ofW (cc := cX7_init) (maxL := 1) (ret := none) (by decide) rfl ?_
  intro p e s m args below meth c s1 Bd hml hv
  obtain ⟨rfl, g1, hK, hX⟩ := hv
  have F : cm_fr p s m _ meth c G yX7_init cX7_init 1 none := ⟨Bd.exec, Bd.bytes, hml, Bd.returns, Bd.notSynchronized, fun w hw => atoms_spec (ws := cm_ws yX7_init cX7_init 1) Bd.pre w (List.mem_cons_of_mem _ hw), findClass_of_methodNamed Bd.named, (name_of_methodNamed Bd.named Bd.method).1, hK, hX⟩
  have hx := F.1
  have hb := F.2.1
  have hB : B ≤ s.heap.size := by
    rw [g1.2.1]
    exact Nat.le_add_right _ _
  have hl := lv_entry ([.ref (G.1 70)]) (n := 1) (Nat.le_of_ble_eq_true rfl)
  rw [lg_entry_eq]
  generalize (lg_sl ([.ref (G.1 70)]) ++ List.replicate (1 - (lg_sl ([.ref (G.1 70)])).length) Slot.unset).toArray = ls at hl ⊢
  have hl : lv_has ls 1 [(0, .ref (G.1 70))] := hl
  refine (?_ : cm_go p l e _ s m _ below meth c _ G B 0 ls [] 71 mi ml 0 0) s.heap [] g1 va_S.rf
  refine cq_pure (fun H locs => lv_aload_n hx hb dX7_init_0 rfl (lv_at hl 0 rfl)) ?_
  refine cq_obj F (a := 70) cv_316 cv_31 cv_obj dX7_init_1 hl.1 (by decide) (Nat.le_of_ble_eq_true rfl) (Nat.le_of_ble_eq_true rfl) ?_
  refine cq_pure (fun H locs => lv_aload_n hx hb dX7_init_4 rfl (lv_at hl 0 rfl)) ?_
  refine cq_pure (fun H locs => lv_iconst (v := (0 : Int32)) hx hb dX7_init_5 rfl) ?_
  refine cq_puti F hG (a := 70) (k := 0) rfl rfl rfl (by decide) rfl (by decide) rfl rfl rfl cv_317 dX7_init_6 ?_
  refine cq_pure (fun H locs => lv_aload_n hx hb dX7_init_9 rfl (lv_at hl 0 rfl)) ?_
  refine cq_pure (fun H locs => lv_bipush (v := (60 : Int32)) hx hb dX7_init_10 rfl) ?_
  refine cq_newa F hG hB (ty := .long) (N := 60) rfl (Or.inr ⟨rfl, rfl⟩) rfl (by decide) (by decide) rfl cv_333 dX7_init_12 (Nat.le_of_ble_eq_true rfl) (Nat.le_of_ble_eq_true rfl) ?_
  refine cq_putF F hG (a := 70) (b := 71) (k := 4) (ty := (.array .long)) rfl rfl rfl (by decide) rfl rfl (by decide) rfl rfl rfl rfl (by decide +kernel) (by decide +kernel) (fun _ => rfl) (fun _ => rfl) cv_321 dX7_init_14 ?_
  exact cq_ret F dX7_init_17

theorem ct_7_72 (hG : cm_ad G B) : cm_met l G B yX7_init cX7_init 1 2 1 60 [.ref (G.1 72)] 73 mi ml 74 (am_ui (am_ui mi 72 0 0) 72 4 1) ml := by
  refine Met.ofW (cc := cX7_init) (maxL := 1) (ret := none) (by decide) rfl ?_
  intro p e s m args below meth c s1 Bd hml hv
  obtain ⟨rfl, g1, hK, hX⟩ := hv
  have F : cm_fr p s m _ meth c G yX7_init cX7_init 1 none := ⟨Bd.exec, Bd.bytes, hml, Bd.returns, Bd.notSynchronized, fun w hw => atoms_spec (ws := cm_ws yX7_init cX7_init 1) Bd.pre w (List.mem_cons_of_mem _ hw), findClass_of_methodNamed Bd.named, (name_of_methodNamed Bd.named Bd.method).1, hK, hX⟩
  have hx := F.1
  have hb := F.2.1
  have hB : B ≤ s.heap.size := by
    rw [g1.2.1]
    exact Nat.le_add_right _ _
  have hl := lv_entry ([.ref (G.1 72)]) (n := 1) (Nat.le_of_ble_eq_true rfl)
  rw [lg_entry_eq]
  generalize (lg_sl ([.ref (G.1 72)]) ++ List.replicate (1 - (lg_sl ([.ref (G.1 72)])).length) Slot.unset).toArray = ls at hl ⊢
  have hl : lv_has ls 1 [(0, .ref (G.1 72))] := hl
  refine (?_ : cm_go p l e _ s m _ below meth c _ G B 0 ls [] 73 mi ml 0 0) s.heap [] g1 va_S.rf
  refine cq_pure (fun H locs => lv_aload_n hx hb dX7_init_0 rfl (lv_at hl 0 rfl)) ?_
  refine cq_obj F (a := 72) cv_316 cv_31 cv_obj dX7_init_1 hl.1 (by decide) (Nat.le_of_ble_eq_true rfl) (Nat.le_of_ble_eq_true rfl) ?_
  refine cq_pure (fun H locs => lv_aload_n hx hb dX7_init_4 rfl (lv_at hl 0 rfl)) ?_
  refine cq_pure (fun H locs => lv_iconst (v := (0 : Int32)) hx hb dX7_init_5 rfl) ?_
  refine cq_puti F hG (a := 72) (k := 0) rfl rfl rfl (by decide) rfl (by decide) rfl rfl rfl cv_317 dX7_init_6 ?_
  refine cq_pure (fun H locs => lv_aload_n hx hb dX7_init_9 rfl (lv_at hl 0 rfl)) ?_
  refine cq_pure (fun H locs => lv_bipush (v := (60 : Int32)) hx hb dX7_init_10 rfl) ?_
  refine cq_newa F hG hB (ty := .long) (N := 60) rfl (Or.inr ⟨rfl, rfl⟩) rfl (by decide) (by decide) rfl cv_333 dX7_init_12 (Nat.le_of_ble_eq_true rfl) (Nat.le_of_ble_eq_true rfl) ?_
  refine cq_putF F hG (a := 72) (b := 73) (k := 4) (ty := (.array .long)) rfl rfl rfl (by decide) rfl rfl (by decide) rfl rfl rfl rfl (by decide +kernel) (by decide +kernel) (fun _ => rfl) (fun _ => rfl) cv_321 dX7_init_14 ?_
  exact cq_ret F dX7_init_17

theorem ct_7_74 (hG : cm_ad G B) : cm_met l G B yX7_init cX7_init 1 2 1 60 [.ref (G.1 74)] 75 mi ml 76 (am_ui (am_ui mi 74 0 0) 74 4 1) ml := by
  refine Met.ofW (cc := cX7_init) (maxL := 1) (ret := none) (by decide) rfl ?_
  intro p e s m args below meth c s1 Bd hml hv
  obtain ⟨rfl, g1, hK, hX⟩ := hv
  have F : cm_fr p s m _ meth c G yX7_init cX7_init 1 none := ⟨Bd.exec, Bd.bytes, hml, Bd.returns, Bd.notSynchronized, fun w hw => atoms_spec (ws := cm_ws yX7_init cX7_init 1) Bd.pre w (List.mem_cons_of_mem _ hw), findClass_of_methodNamed Bd.named, (name_of_methodNamed Bd.named Bd.method).1, hK, hX⟩
  have hx := F.1
  have hb := F.2.1
  have hB : B ≤ s.heap.size := by
    rw [g1.2.1]
    exact Nat.le_add_right _ _
  have hl := lv_entry ([.ref (G.1 74)]) (n := 1) (Nat.le_of_ble_eq_true rfl)
  rw [lg_entry_eq]
  generalize (lg_sl ([.ref (G.1 74)]) ++ List.replicate (1 - (lg_sl ([.ref (G.1 74)])).length) Slot.unset).toArray = ls at hl ⊢
  have hl : lv_has ls 1 [(0, .ref (G.1 74))] := hl
  refine (?_ : cm_go p l e _ s m _ below meth c _ G B 0 ls [] 75 mi ml 0 0) s.heap [] g1 va_S.rf
  refine cq_pure (fun H locs => lv_aload_n hx hb dX7_init_0 rfl (lv_at hl 0 rfl)) ?_
  refine cq_obj F (a := 74) cv_316 cv_31 cv_obj dX7_init_1 hl.1 (by decide) (Nat.le_of_ble_eq_true rfl) (Nat.le_of_ble_eq_true rfl) ?_
  refine cq_pure (fun H locs => lv_aload_n hx hb dX7_init_4 rfl (lv_at hl 0 rfl)) ?_
  refine cq_pure (fun H locs => lv_iconst (v := (0 : Int32)) hx hb dX7_init_5 rfl) ?_
  refine cq_puti F hG (a := 74) (k := 0) rfl rfl rfl (by decide) rfl (by decide) rfl rfl rfl cv_317 dX7_init_6 ?_
  refine cq_pure (fun H locs => lv_aload_n hx hb dX7_init_9 rfl (lv_at hl 0 rfl)) ?_
  refine cq_pure (fun H locs => lv_bipush (v := (60 : Int32)) hx hb dX7_init_10 rfl) ?_
  refine cq_newa F hG hB (ty := .long) (N := 60) rfl (Or.inr ⟨rfl, rfl⟩) rfl (by decide) (by decide) rfl cv_333 dX7_init_12 (Nat.le_of_ble_eq_true rfl) (Nat.le_of_ble_eq_true rfl) ?_
  refine cq_putF F hG (a := 74) (b := 75) (k := 4) (ty := (.array .long)) rfl rfl rfl (by decide) rfl rfl (by decide) rfl rfl rfl rfl (by decide +kernel) (by decide +kernel) (fun _ => rfl) (fun _ => rfl) cv_321 dX7_init_14 ?_
  exact cq_ret F dX7_init_17

theorem ct_7_76 (hG : cm_ad G B) : cm_met l G B yX7_init cX7_init 1 2 1 60 [.ref (G.1 76)] 77 mi ml 78 (am_ui (am_ui mi 76 0 0) 76 4 1) ml := by
  refine Met.ofW (cc := cX7_init) (maxL := 1) (ret := none) (by decide) rfl ?_
  intro p e s m args below meth c s1 Bd hml hv
  obtain ⟨rfl, g1, hK, hX⟩ := hv
  have F : cm_fr p s m _ meth c G yX7_init cX7_init 1 none := ⟨Bd.exec, Bd.bytes, hml, Bd.returns, Bd.notSynchronized, fun w hw => atoms_spec (ws := cm_ws yX7_init cX7_init 1) Bd.pre w (List.mem_cons_of_mem _ hw), findClass_of_methodNamed Bd.named, (name_of_methodNamed Bd.named Bd.method).1, hK, hX⟩
  have hx := F.1
  have hb := F.2.1
  have hB : B ≤ s.heap.size := by
    rw [g1.2.1]
    exact Nat.le_add_right _ _
  have hl := lv_entry ([.ref (G.1 76)]) (n := 1) (Nat.le_of_ble_eq_true rfl)
  rw [lg_entry_eq]
  generalize (lg_sl ([.ref (G.1 76)]) ++ List.replicate (1 - (lg_sl ([.ref (G.1 76)])).length) Slot.unset).toArray = ls at hl ⊢
  have hl : lv_has ls 1 [(0, .ref (G.1 76))] := hl
  refine (?_ : cm_go p l e _ s m _ below meth c _ G B 0 ls [] 77 mi ml 0 0) s.heap [] g1 va_S.rf
  refine cq_pure (fun H locs => lv_aload_n hx hb dX7_init_0 rfl (lv_at hl 0 rfl)) ?_
  refine cq_obj F (a := 76) cv_316 cv_31 cv_obj dX7_init_1 hl.1 (by decide) (Nat.le_of_ble_eq_true rfl) (Nat.le_of_ble_eq_true rfl) ?_
  refine cq_pure (fun H locs => lv_aload_n hx hb dX7_init_4 rfl (lv_at hl 0 rfl)) ?_
  refine cq_pure (fun H locs => lv_iconst (v := (0 : Int32)) hx hb dX7_init_5 rfl) ?_
  refine cq_puti F hG (a := 76) (k := 0) rfl rfl rfl (by decide) rfl (by decide) rfl rfl rfl cv_317 dX7_init_6 ?_
  refine cq_pure (fun H locs => lv_aload_n hx hb dX7_init_9 rfl (lv_at hl 0 rfl)) ?_
  refine cq_pure (fun H locs => lv_bipush (v := (60 : Int32)) hx hb dX7_init_10 rfl) ?_
  refine cq_newa F hG hB (ty := .long) (N := 60) rfl (Or.inr ⟨rfl, rfl⟩) rfl (by decide) (by decide) rfl cv_333 dX7_init_12 (Nat.le_of_ble_eq_true rfl) (Nat.le_of_ble_eq_true rfl) ?_
  refine cq_putF F hG (a := 76) (b := 77) (k := 4) (ty := (.array .long)) rfl rfl rfl (by decide) rfl rfl (by decide) rfl rfl rfl rfl (by decide +kernel) (by decide +kernel) (fun _ => rfl) (fun _ => rfl) cv_321 dX7_init_14 ?_
  exact cq_ret F dX7_init_17
end SP83
