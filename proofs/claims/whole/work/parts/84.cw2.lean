/-! the reference's constructor -/
section SP84a
variable {p : Program} {l : Launch} {e : Env} {Rm : Room} {s : State} {m : MethodId} {args : Array Value} {below : List Frame} {meth : Method} {c : Code} {Q : State → Prop}
variable {G : am_G} {B : Nat} {y : MethodName} {bc : ByteArray} {nL : Nat} {rt : Option FieldType} {pc n cs ss : Nat} {ls : Array Slot} {st : List Value} {mi : am_MI} {ml : am_ML}
theorem cq_istn (F : cm_fr p s m args meth c G y bc nL rt) {k : Fin 4} {i : Nat} {x : Int32} {lv lv2 : List (Nat × Value)} (hl : lv_has ls nL lv) (hi : i < nL) (hki : (k : Nat) = i) (hdg : decode bc pc = .ok (.istore_n k, 1))
    (kk : ∀ ls2, lv_has ls2 nL lv2 → cm_go p l e Rm s m args below meth c Q G B (pc + 1) ls2 st n mi ml cs ss) (he : (i, Value.int x) :: lv.filter (fun q => !(q.1 == i) && !(q.1 + 1 == i && q.2.category == 2)) = lv2 := by rfl) : cm_go p l e Rm s m args below meth c Q G B pc ls (.int x :: st) n mi ml cs ss :=
  fun H locs g1 g2 => lv_istore_n F.1 F.2.1 hdg hki hl hi he (fun ls2 g => kk ls2 g H locs g1 g2)
theorem cq_iinc (F : cm_fr p s m args meth c G y bc nL rt) {i k : Nat} {w : Int} {x v : Int32} {lv lv2 : List (Nat × Value)} (hl : lv_has ls nL lv) (hk : lv[k]? = some (i, .int x)) (hv : x + Int32.ofInt w = v) (hi : i < nL) (he : (i, Value.int v) :: lv.filter (fun q => !(q.1 == i) && !(q.1 + 1 == i && q.2.category == 2)) = lv2) (hdg : decode bc pc = .ok (.iinc i w, 3))
    (kk : ∀ ls2, lv_has ls2 nL lv2 → cm_go p l e Rm s m args below meth c Q G B (pc + 3) ls2 st n mi ml cs ss) : cm_go p l e Rm s m args below meth c Q G B pc ls st n mi ml cs ss :=
  fun H locs g1 g2 => lv_iinc F.1 F.2.1 hdg hl hk hv hi he (fun ls2 g => kk ls2 g H locs g1 g2)
theorem cq_icy (F : cm_fr p s m args meth c G y bc nL rt) {x z : Int32} {off : Int} {tgt : Nat} (hq : z ≤ x) (hdg : decode bc pc = .ok (.if_icmp .ge off, 3)) (ht : (pc : Int) + off = (tgt : Int)) (kk : cm_go p l e Rm s m args below meth c Q G B tgt ls st n mi ml cs ss) : cm_go p l e Rm s m args below meth c Q G B pc ls (.int z :: .int x :: st) n mi ml cs ss :=
  fun H locs g1 g2 => lv_icmp_ge F.1 F.2.1 hdg ht (fun _ => kk H locs g1 g2) (fun q => absurd hq q)
theorem cq_icn (F : cm_fr p s m args meth c G y bc nL rt) {x z : Int32} {off : Int} {tgt : Nat} (hq : ¬ z ≤ x) (hdg : decode bc pc = .ok (.if_icmp .ge off, 3)) (ht : (pc : Int) + off = (tgt : Int)) (kk : cm_go p l e Rm s m args below meth c Q G B (pc + 3) ls st n mi ml cs ss) : cm_go p l e Rm s m args below meth c Q G B pc ls (.int z :: .int x :: st) n mi ml cs ss :=
  fun H locs g1 g2 => lv_icmp_ge F.1 F.2.1 hdg ht (fun q => absurd q hq) (fun _ => kk H locs g1 g2)
end SP84a
set_option maxRecDepth 1000000 in
theorem cv_1216 : (Jvm.Cond.methodLink "DoorsForThreeModel" (3 : Nat) ({ cls := "java/lang/Object", name := "<init>", desc := "()V" } : Jvm.MethodName)) ∈ lw_tbl := am_t1 (List.mem_of_getElem? (i := 1216) (by decide +kernel))
set_option maxRecDepth 1000000 in
theorem cv_1218 : (Jvm.Cond.fieldLink "DoorsForThreeModel" (9 : Nat) "DoorsForThreeModel" "day" "[I") ∈ lw_tbl := am_t1 (List.mem_of_getElem? (i := 1218) (by decide +kernel))
set_option maxRecDepth 1000000 in
theorem cv_1219 : (Jvm.Cond.fieldLink "DoorsForThreeModel" (15 : Nat) "DoorsForThreeModel" "what" "[I") ∈ lw_tbl := am_t1 (List.mem_of_getElem? (i := 1219) (by decide +kernel))
set_option maxRecDepth 1000000 in
theorem cv_1220 : (Jvm.Cond.fieldLink "DoorsForThreeModel" (18 : Nat) "DoorsForThreeModel" "size" "[I") ∈ lw_tbl := am_t1 (List.mem_of_getElem? (i := 1220) (by decide +kernel))
set_option maxRecDepth 1000000 in
theorem cv_1221 : (Jvm.Cond.fieldLink "DoorsForThreeModel" (21 : Nat) "DoorsForThreeModel" "opener" "[I") ∈ lw_tbl := am_t1 (List.mem_of_getElem? (i := 1221) (by decide +kernel))
set_option maxRecDepth 1000000 in
theorem cv_1223 : (Jvm.Cond.fieldLink "DoorsForThreeModel" (24 : Nat) "DoorsForThreeModel" "age" "[I") ∈ lw_tbl := am_t1 (List.mem_of_getElem? (i := 1223) (by decide +kernel))
set_option maxRecDepth 1000000 in
theorem cv_1224 : (Jvm.Cond.fieldLink "DoorsForThreeModel" (27 : Nat) "DoorsForThreeModel" "likes" "[I") ∈ lw_tbl := am_t1 (List.mem_of_getElem? (i := 1224) (by decide +kernel))
set_option maxRecDepth 1000000 in
theorem cv_1225 : (Jvm.Cond.fieldLink "DoorsForThreeModel" (30 : Nat) "DoorsForThreeModel" "holds" "[I") ∈ lw_tbl := am_t1 (List.mem_of_getElem? (i := 1225) (by decide +kernel))
set_option maxRecDepth 1000000 in
theorem cv_1226 : (Jvm.Cond.fieldLink "DoorsForThreeModel" (33 : Nat) "DoorsForThreeModel" "from" "[I") ∈ lw_tbl := am_t1 (List.mem_of_getElem? (i := 1226) (by decide +kernel))
set_option maxRecDepth 1000000 in
theorem cv_1227 : (Jvm.Cond.fieldLink "DoorsForThreeModel" (36 : Nat) "DoorsForThreeModel" "till" "[I") ∈ lw_tbl := am_t1 (List.mem_of_getElem? (i := 1227) (by decide +kernel))
set_option maxRecDepth 1000000 in
theorem cv_1228 : (Jvm.Cond.fieldLink "DoorsForThreeModel" (39 : Nat) "DoorsForThreeModel" "ways" "[I") ∈ lw_tbl := am_t1 (List.mem_of_getElem? (i := 1228) (by decide +kernel))
set_option maxRecDepth 1000000 in
theorem cv_1231 : (Jvm.Cond.fieldLink "DoorsForThreeModel" (42 : Nat) "DoorsForThreeModel" "tape" "[I") ∈ lw_tbl := am_t1 (List.mem_of_getElem? (i := 1231) (by decide +kernel))
set_option maxRecDepth 1000000 in
theorem cv_1234 : (Jvm.Cond.fieldLink "DoorsForThreeModel" (45 : Nat) "DoorsForThreeModel" "asks" "[I") ∈ lw_tbl := am_t1 (List.mem_of_getElem? (i := 1234) (by decide +kernel))
set_option maxRecDepth 1000000 in
theorem cv_1235 : (Jvm.Cond.fieldLink "DoorsForThreeModel" (48 : Nat) "DoorsForThreeModel" "says" "[I") ∈ lw_tbl := am_t1 (List.mem_of_getElem? (i := 1235) (by decide +kernel))
set_option maxRecDepth 1000000 in
theorem cv_1236 : (Jvm.Cond.fieldLink "DoorsForThreeModel" (51 : Nat) "DoorsForThreeModel" "ends" "[I") ∈ lw_tbl := am_t1 (List.mem_of_getElem? (i := 1236) (by decide +kernel))
set_option maxRecDepth 1000000 in
theorem cv_1237 : (Jvm.Cond.fieldLink "DoorsForThreeModel" (54 : Nat) "DoorsForThreeModel" "code" "[I") ∈ lw_tbl := am_t1 (List.mem_of_getElem? (i := 1237) (by decide +kernel))
set_option maxRecDepth 1000000 in
theorem cv_1242 : (Jvm.Cond.fieldLink "DoorsForThreeModel" (57 : Nat) "DoorsForThreeModel" "newAsks" "[I") ∈ lw_tbl := am_t1 (List.mem_of_getElem? (i := 1242) (by decide +kernel))
set_option maxRecDepth 1000000 in
theorem cv_1243 : (Jvm.Cond.fieldLink "DoorsForThreeModel" (60 : Nat) "DoorsForThreeModel" "newSays" "[I") ∈ lw_tbl := am_t1 (List.mem_of_getElem? (i := 1243) (by decide +kernel))
set_option maxRecDepth 1000000 in
theorem cv_1244 : (Jvm.Cond.fieldLink "DoorsForThreeModel" (63 : Nat) "DoorsForThreeModel" "newEnds" "[I") ∈ lw_tbl := am_t1 (List.mem_of_getElem? (i := 1244) (by decide +kernel))
set_option maxRecDepth 1000000 in
theorem cv_1245 : (Jvm.Cond.fieldLink "DoorsForThreeModel" (66 : Nat) "DoorsForThreeModel" "newCode" "[I") ∈ lw_tbl := am_t1 (List.mem_of_getElem? (i := 1245) (by decide +kernel))
set_option maxRecDepth 1000000 in
theorem cv_1246 : (Jvm.Cond.fieldLink "DoorsForThreeModel" (69 : Nat) "DoorsForThreeModel" "stack" "[I") ∈ lw_tbl := am_t1 (List.mem_of_getElem? (i := 1246) (by decide +kernel))
set_option maxRecDepth 1000000 in
theorem cv_1247 : (Jvm.Cond.fieldLink "DoorsForThreeModel" (72 : Nat) "DoorsForThreeModel" "names" "[I") ∈ lw_tbl := am_t1 (List.mem_of_getElem? (i := 1247) (by decide +kernel))
set_option maxRecDepth 1000000 in
theorem cv_1248 : (Jvm.Cond.fieldLink "DoorsForThreeModel" (75 : Nat) "DoorsForThreeModel" "led" "[I") ∈ lw_tbl := am_t1 (List.mem_of_getElem? (i := 1248) (by decide +kernel))
set_option maxRecDepth 1000000 in
theorem cv_1252 : (Jvm.Cond.fieldLink "DoorsForThreeModel" (78 : Nat) "DoorsForThreeModel" "oldOpener" "[I") ∈ lw_tbl := am_t1 (List.mem_of_getElem? (i := 1252) (by decide +kernel))
set_option maxRecDepth 1000000 in
theorem cv_1253 : (Jvm.Cond.fieldLink "DoorsForThreeModel" (81 : Nat) "DoorsForThreeModel" "oldLed" "[I") ∈ lw_tbl := am_t1 (List.mem_of_getElem? (i := 1253) (by decide +kernel))
set_option maxRecDepth 1000000 in
theorem cv_1256 : (Jvm.Cond.fieldLink "DoorsForThreeModel" (84 : Nat) "DoorsForThreeModel" "changed" "[I") ∈ lw_tbl := am_t1 (List.mem_of_getElem? (i := 1256) (by decide +kernel))
set_option maxRecDepth 1000000 in
theorem cv_1258 : (Jvm.Cond.fieldLink "DoorsForThreeModel" (87 : Nat) "DoorsForThreeModel" "kind" "[I") ∈ lw_tbl := am_t1 (List.mem_of_getElem? (i := 1258) (by decide +kernel))
set_option maxRecDepth 1000000 in
theorem cv_1260 : (Jvm.Cond.fieldLink "DoorsForThreeModel" (90 : Nat) "DoorsForThreeModel" "traces" "[I") ∈ lw_tbl := am_t1 (List.mem_of_getElem? (i := 1260) (by decide +kernel))
set_option maxRecDepth 1000000 in
theorem cv_1261 : (Jvm.Cond.fieldLink "DoorsForThreeModel" (93 : Nat) "DoorsForThreeModel" "holding" "[I") ∈ lw_tbl := am_t1 (List.mem_of_getElem? (i := 1261) (by decide +kernel))
set_option maxRecDepth 1000000 in
theorem cv_1262 : (Jvm.Cond.fieldLink "DoorsForThreeModel" (96 : Nat) "DoorsForThreeModel" "rowLength" "[I") ∈ lw_tbl := am_t1 (List.mem_of_getElem? (i := 1262) (by decide +kernel))
set_option maxRecDepth 1000000 in
theorem cv_1263 : (Jvm.Cond.fieldLink "DoorsForThreeModel" (99 : Nat) "DoorsForThreeModel" "rowOf" "[J") ∈ lw_tbl := am_t1 (List.mem_of_getElem? (i := 1263) (by decide +kernel))
set_option maxRecDepth 1000000 in
theorem cv_1264 : (Jvm.Cond.fieldLink "DoorsForThreeModel" (103 : Nat) "DoorsForThreeModel" "order" "[I") ∈ lw_tbl := am_t1 (List.mem_of_getElem? (i := 1264) (by decide +kernel))
set_option maxRecDepth 1000000 in
theorem cv_1265 : (Jvm.Cond.fieldLink "DoorsForThreeModel" (106 : Nat) "DoorsForThreeModel" "whose" "[I") ∈ lw_tbl := am_t1 (List.mem_of_getElem? (i := 1265) (by decide +kernel))
set_option maxRecDepth 1000000 in
theorem cv_1266 : (Jvm.Cond.fieldLink "DoorsForThreeModel" (109 : Nat) "DoorsForThreeModel" "all" "[I") ∈ lw_tbl := am_t1 (List.mem_of_getElem? (i := 1266) (by decide +kernel))
set_option maxRecDepth 1000000 in
theorem cv_1267 : (Jvm.Cond.fieldLink "DoorsForThreeModel" (112 : Nat) "DoorsForThreeModel" "eldest" "[I") ∈ lw_tbl := am_t1 (List.mem_of_getElem? (i := 1267) (by decide +kernel))
set_option maxRecDepth 1000000 in
theorem cv_1268 : (Jvm.Cond.fieldLink "DoorsForThreeModel" (115 : Nat) "DoorsForThreeModel" "best" "[I") ∈ lw_tbl := am_t1 (List.mem_of_getElem? (i := 1268) (by decide +kernel))
theorem dX11_init_0 : decode cX11_init 0 = .ok (.aload_n 0, 1) := by decide +kernel
theorem dX11_init_1 : decode cX11_init 1 = .ok (.invokespecial 3, 3) := by decide +kernel
theorem dX11_init_4 : decode cX11_init 4 = .ok (.aload_n 0, 1) := by decide +kernel
theorem dX11_init_5 : decode cX11_init 5 = .ok (.bipush 24, 2) := by decide +kernel
theorem dX11_init_7 : decode cX11_init 7 = .ok (.newarray .int, 2) := by decide +kernel
theorem dX11_init_9 : decode cX11_init 9 = .ok (.putfield 9, 3) := by decide +kernel
theorem dX11_init_12 : decode cX11_init 12 = .ok (.aload_n 0, 1) := by decide +kernel
theorem dX11_init_13 : decode cX11_init 13 = .ok (.bipush 24, 2) := by decide +kernel
theorem dX11_init_15 : decode cX11_init 15 = .ok (.newarray .int, 2) := by decide +kernel
theorem dX11_init_17 : decode cX11_init 17 = .ok (.putfield 15, 3) := by decide +kernel
theorem dX11_init_20 : decode cX11_init 20 = .ok (.aload_n 0, 1) := by decide +kernel
theorem dX11_init_21 : decode cX11_init 21 = .ok (.bipush 24, 2) := by decide +kernel
theorem dX11_init_23 : decode cX11_init 23 = .ok (.newarray .int, 2) := by decide +kernel
theorem dX11_init_25 : decode cX11_init 25 = .ok (.putfield 18, 3) := by decide +kernel
theorem dX11_init_28 : decode cX11_init 28 = .ok (.aload_n 0, 1) := by decide +kernel
theorem dX11_init_29 : decode cX11_init 29 = .ok (.bipush 12, 2) := by decide +kernel
theorem dX11_init_31 : decode cX11_init 31 = .ok (.newarray .int, 2) := by decide +kernel
theorem dX11_init_33 : decode cX11_init 33 = .ok (.putfield 21, 3) := by decide +kernel
theorem dX11_init_36 : decode cX11_init 36 = .ok (.aload_n 0, 1) := by decide +kernel
theorem dX11_init_37 : decode cX11_init 37 = .ok (.iconst 5, 1) := by decide +kernel
theorem dX11_init_38 : decode cX11_init 38 = .ok (.newarray .int, 2) := by decide +kernel
theorem dX11_init_40 : decode cX11_init 40 = .ok (.putfield 24, 3) := by decide +kernel
theorem dX11_init_43 : decode cX11_init 43 = .ok (.aload_n 0, 1) := by decide +kernel
theorem dX11_init_44 : decode cX11_init 44 = .ok (.iconst 5, 1) := by decide +kernel
theorem dX11_init_45 : decode cX11_init 45 = .ok (.newarray .int, 2) := by decide +kernel
theorem dX11_init_47 : decode cX11_init 47 = .ok (.putfield 27, 3) := by decide +kernel
theorem dX11_init_50 : decode cX11_init 50 = .ok (.aload_n 0, 1) := by decide +kernel
theorem dX11_init_51 : decode cX11_init 51 = .ok (.iconst 5, 1) := by decide +kernel
theorem dX11_init_52 : decode cX11_init 52 = .ok (.newarray .int, 2) := by decide +kernel
theorem dX11_init_54 : decode cX11_init 54 = .ok (.putfield 30, 3) := by decide +kernel
theorem dX11_init_57 : decode cX11_init 57 = .ok (.aload_n 0, 1) := by decide +kernel
theorem dX11_init_58 : decode cX11_init 58 = .ok (.iconst 5, 1) := by decide +kernel
theorem dX11_init_59 : decode cX11_init 59 = .ok (.newarray .int, 2) := by decide +kernel
theorem dX11_init_61 : decode cX11_init 61 = .ok (.putfield 33, 3) := by decide +kernel
theorem dX11_init_64 : decode cX11_init 64 = .ok (.aload_n 0, 1) := by decide +kernel
theorem dX11_init_65 : decode cX11_init 65 = .ok (.iconst 5, 1) := by decide +kernel
theorem dX11_init_66 : decode cX11_init 66 = .ok (.newarray .int, 2) := by decide +kernel
theorem dX11_init_68 : decode cX11_init 68 = .ok (.putfield 36, 3) := by decide +kernel
theorem dX11_init_71 : decode cX11_init 71 = .ok (.aload_n 0, 1) := by decide +kernel
theorem dX11_init_72 : decode cX11_init 72 = .ok (.iconst 2, 1) := by decide +kernel
theorem dX11_init_73 : decode cX11_init 73 = .ok (.newarray .int, 2) := by decide +kernel
theorem dX11_init_75 : decode cX11_init 75 = .ok (.putfield 39, 3) := by decide +kernel
theorem dX11_init_78 : decode cX11_init 78 = .ok (.aload_n 0, 1) := by decide +kernel
theorem dX11_init_79 : decode cX11_init 79 = .ok (.bipush 120, 2) := by decide +kernel
theorem dX11_init_81 : decode cX11_init 81 = .ok (.newarray .int, 2) := by decide +kernel
theorem dX11_init_83 : decode cX11_init 83 = .ok (.putfield 42, 3) := by decide +kernel
theorem dX11_init_86 : decode cX11_init 86 = .ok (.aload_n 0, 1) := by decide +kernel
theorem dX11_init_87 : decode cX11_init 87 = .ok (.bipush 60, 2) := by decide +kernel
theorem dX11_init_89 : decode cX11_init 89 = .ok (.newarray .int, 2) := by decide +kernel
theorem dX11_init_91 : decode cX11_init 91 = .ok (.putfield 45, 3) := by decide +kernel
theorem dX11_init_94 : decode cX11_init 94 = .ok (.aload_n 0, 1) := by decide +kernel
theorem dX11_init_95 : decode cX11_init 95 = .ok (.bipush 60, 2) := by decide +kernel
theorem dX11_init_97 : decode cX11_init 97 = .ok (.newarray .int, 2) := by decide +kernel
theorem dX11_init_99 : decode cX11_init 99 = .ok (.putfield 48, 3) := by decide +kernel
theorem dX11_init_102 : decode cX11_init 102 = .ok (.aload_n 0, 1) := by decide +kernel
theorem dX11_init_103 : decode cX11_init 103 = .ok (.bipush 60, 2) := by decide +kernel
theorem dX11_init_105 : decode cX11_init 105 = .ok (.newarray .int, 2) := by decide +kernel
theorem dX11_init_107 : decode cX11_init 107 = .ok (.putfield 51, 3) := by decide +kernel
theorem dX11_init_110 : decode cX11_init 110 = .ok (.aload_n 0, 1) := by decide +kernel
theorem dX11_init_111 : decode cX11_init 111 = .ok (.sipush 200, 3) := by decide +kernel
theorem dX11_init_114 : decode cX11_init 114 = .ok (.newarray .int, 2) := by decide +kernel
theorem dX11_init_116 : decode cX11_init 116 = .ok (.putfield 54, 3) := by decide +kernel
theorem dX11_init_119 : decode cX11_init 119 = .ok (.aload_n 0, 1) := by decide +kernel
theorem dX11_init_120 : decode cX11_init 120 = .ok (.bipush 61, 2) := by decide +kernel
theorem dX11_init_122 : decode cX11_init 122 = .ok (.newarray .int, 2) := by decide +kernel
theorem dX11_init_124 : decode cX11_init 124 = .ok (.putfield 57, 3) := by decide +kernel
theorem dX11_init_127 : decode cX11_init 127 = .ok (.aload_n 0, 1) := by decide +kernel
theorem dX11_init_128 : decode cX11_init 128 = .ok (.bipush 61, 2) := by decide +kernel
theorem dX11_init_130 : decode cX11_init 130 = .ok (.newarray .int, 2) := by decide +kernel
theorem dX11_init_132 : decode cX11_init 132 = .ok (.putfield 60, 3) := by decide +kernel
theorem dX11_init_135 : decode cX11_init 135 = .ok (.aload_n 0, 1) := by decide +kernel
theorem dX11_init_136 : decode cX11_init 136 = .ok (.bipush 61, 2) := by decide +kernel
theorem dX11_init_138 : decode cX11_init 138 = .ok (.newarray .int, 2) := by decide +kernel
theorem dX11_init_140 : decode cX11_init 140 = .ok (.putfield 63, 3) := by decide +kernel
theorem dX11_init_143 : decode cX11_init 143 = .ok (.aload_n 0, 1) := by decide +kernel
theorem dX11_init_144 : decode cX11_init 144 = .ok (.sipush 200, 3) := by decide +kernel
theorem dX11_init_147 : decode cX11_init 147 = .ok (.newarray .int, 2) := by decide +kernel
theorem dX11_init_149 : decode cX11_init 149 = .ok (.putfield 66, 3) := by decide +kernel
theorem dX11_init_152 : decode cX11_init 152 = .ok (.aload_n 0, 1) := by decide +kernel
theorem dX11_init_153 : decode cX11_init 153 = .ok (.sipush 200, 3) := by decide +kernel
theorem dX11_init_156 : decode cX11_init 156 = .ok (.newarray .int, 2) := by decide +kernel
theorem dX11_init_158 : decode cX11_init 158 = .ok (.putfield 69, 3) := by decide +kernel
theorem dX11_init_161 : decode cX11_init 161 = .ok (.aload_n 0, 1) := by decide +kernel
theorem dX11_init_162 : decode cX11_init 162 = .ok (.bipush 6, 2) := by decide +kernel
theorem dX11_init_164 : decode cX11_init 164 = .ok (.newarray .int, 2) := by decide +kernel
theorem dX11_init_166 : decode cX11_init 166 = .ok (.putfield 72, 3) := by decide +kernel
theorem dX11_init_169 : decode cX11_init 169 = .ok (.aload_n 0, 1) := by decide +kernel
theorem dX11_init_170 : decode cX11_init 170 = .ok (.iconst 3, 1) := by decide +kernel
theorem dX11_init_171 : decode cX11_init 171 = .ok (.newarray .int, 2) := by decide +kernel
theorem dX11_init_173 : decode cX11_init 173 = .ok (.putfield 75, 3) := by decide +kernel
theorem dX11_init_176 : decode cX11_init 176 = .ok (.aload_n 0, 1) := by decide +kernel
theorem dX11_init_177 : decode cX11_init 177 = .ok (.bipush 12, 2) := by decide +kernel
theorem dX11_init_179 : decode cX11_init 179 = .ok (.newarray .int, 2) := by decide +kernel
theorem dX11_init_181 : decode cX11_init 181 = .ok (.putfield 78, 3) := by decide +kernel
theorem dX11_init_184 : decode cX11_init 184 = .ok (.aload_n 0, 1) := by decide +kernel
theorem dX11_init_185 : decode cX11_init 185 = .ok (.iconst 3, 1) := by decide +kernel
theorem dX11_init_186 : decode cX11_init 186 = .ok (.newarray .int, 2) := by decide +kernel
theorem dX11_init_188 : decode cX11_init 188 = .ok (.putfield 81, 3) := by decide +kernel
theorem dX11_init_191 : decode cX11_init 191 = .ok (.aload_n 0, 1) := by decide +kernel
theorem dX11_init_192 : decode cX11_init 192 = .ok (.sipush 160, 3) := by decide +kernel
theorem dX11_init_195 : decode cX11_init 195 = .ok (.newarray .int, 2) := by decide +kernel
theorem dX11_init_197 : decode cX11_init 197 = .ok (.putfield 84, 3) := by decide +kernel
theorem dX11_init_200 : decode cX11_init 200 = .ok (.aload_n 0, 1) := by decide +kernel
theorem dX11_init_201 : decode cX11_init 201 = .ok (.bipush 50, 2) := by decide +kernel
theorem dX11_init_203 : decode cX11_init 203 = .ok (.newarray .int, 2) := by decide +kernel
theorem dX11_init_205 : decode cX11_init 205 = .ok (.putfield 87, 3) := by decide +kernel
theorem dX11_init_208 : decode cX11_init 208 = .ok (.aload_n 0, 1) := by decide +kernel
theorem dX11_init_209 : decode cX11_init 209 = .ok (.bipush 24, 2) := by decide +kernel
theorem dX11_init_211 : decode cX11_init 211 = .ok (.newarray .int, 2) := by decide +kernel
theorem dX11_init_213 : decode cX11_init 213 = .ok (.putfield 90, 3) := by decide +kernel
theorem dX11_init_216 : decode cX11_init 216 = .ok (.aload_n 0, 1) := by decide +kernel
theorem dX11_init_217 : decode cX11_init 217 = .ok (.bipush 6, 2) := by decide +kernel
theorem dX11_init_219 : decode cX11_init 219 = .ok (.newarray .int, 2) := by decide +kernel
theorem dX11_init_221 : decode cX11_init 221 = .ok (.putfield 93, 3) := by decide +kernel
theorem dX11_init_224 : decode cX11_init 224 = .ok (.aload_n 0, 1) := by decide +kernel
theorem dX11_init_225 : decode cX11_init 225 = .ok (.bipush 6, 2) := by decide +kernel
theorem dX11_init_227 : decode cX11_init 227 = .ok (.newarray .int, 2) := by decide +kernel
theorem dX11_init_229 : decode cX11_init 229 = .ok (.putfield 96, 3) := by decide +kernel
theorem dX11_init_232 : decode cX11_init 232 = .ok (.aload_n 0, 1) := by decide +kernel
theorem dX11_init_233 : decode cX11_init 233 = .ok (.sipush 360, 3) := by decide +kernel
theorem dX11_init_236 : decode cX11_init 236 = .ok (.newarray .long, 2) := by decide +kernel
theorem dX11_init_238 : decode cX11_init 238 = .ok (.putfield 99, 3) := by decide +kernel
theorem dX11_init_241 : decode cX11_init 241 = .ok (.aload_n 0, 1) := by decide +kernel
theorem dX11_init_242 : decode cX11_init 242 = .ok (.bipush 24, 2) := by decide +kernel
theorem dX11_init_244 : decode cX11_init 244 = .ok (.newarray .int, 2) := by decide +kernel
theorem dX11_init_246 : decode cX11_init 246 = .ok (.putfield 103, 3) := by decide +kernel
theorem dX11_init_249 : decode cX11_init 249 = .ok (.aload_n 0, 1) := by decide +kernel
theorem dX11_init_250 : decode cX11_init 250 = .ok (.bipush 24, 2) := by decide +kernel
theorem dX11_init_252 : decode cX11_init 252 = .ok (.newarray .int, 2) := by decide +kernel
theorem dX11_init_254 : decode cX11_init 254 = .ok (.putfield 106, 3) := by decide +kernel
theorem dX11_init_257 : decode cX11_init 257 = .ok (.aload_n 0, 1) := by decide +kernel
theorem dX11_init_258 : decode cX11_init 258 = .ok (.iconst 5, 1) := by decide +kernel
theorem dX11_init_259 : decode cX11_init 259 = .ok (.newarray .int, 2) := by decide +kernel
theorem dX11_init_261 : decode cX11_init 261 = .ok (.putfield 109, 3) := by decide +kernel
theorem dX11_init_264 : decode cX11_init 264 = .ok (.aload_n 0, 1) := by decide +kernel
theorem dX11_init_265 : decode cX11_init 265 = .ok (.iconst 5, 1) := by decide +kernel
theorem dX11_init_266 : decode cX11_init 266 = .ok (.newarray .int, 2) := by decide +kernel
theorem dX11_init_268 : decode cX11_init 268 = .ok (.putfield 112, 3) := by decide +kernel
theorem dX11_init_271 : decode cX11_init 271 = .ok (.aload_n 0, 1) := by decide +kernel
theorem dX11_init_272 : decode cX11_init 272 = .ok (.bipush 12, 2) := by decide +kernel
theorem dX11_init_274 : decode cX11_init 274 = .ok (.newarray .int, 2) := by decide +kernel
theorem dX11_init_276 : decode cX11_init 276 = .ok (.putfield 115, 3) := by decide +kernel
theorem dX11_init_279 : decode cX11_init 279 = .ok (.aload_n 0, 1) := by decide +kernel
theorem dX11_init_280 : decode cX11_init 280 = .ok (.getfield 39, 3) := by decide +kernel
theorem dX11_init_283 : decode cX11_init 283 = .ok (.iconst 1, 1) := by decide +kernel
theorem dX11_init_284 : decode cX11_init 284 = .ok (.iconst 1, 1) := by decide +kernel
theorem dX11_init_285 : decode cX11_init 285 = .ok (.iastore, 1) := by decide +kernel
theorem dX11_init_286 : decode cX11_init 286 = .ok (.iconst 0, 1) := by decide +kernel
theorem dX11_init_287 : decode cX11_init 287 = .ok (.istore_n 1, 1) := by decide +kernel
theorem dX11_init_288 : decode cX11_init 288 = .ok (.iload_n 1, 1) := by decide +kernel
theorem dX11_init_289 : decode cX11_init 289 = .ok (.bipush 6, 2) := by decide +kernel
theorem dX11_init_291 : decode cX11_init 291 = .ok (.if_icmp .ge 16, 3) := by decide +kernel
theorem dX11_init_294 : decode cX11_init 294 = .ok (.aload_n 0, 1) := by decide +kernel
theorem dX11_init_295 : decode cX11_init 295 = .ok (.getfield 93, 3) := by decide +kernel
theorem dX11_init_298 : decode cX11_init 298 = .ok (.iload_n 1, 1) := by decide +kernel
theorem dX11_init_299 : decode cX11_init 299 = .ok (.iconst (-1), 1) := by decide +kernel
theorem dX11_init_300 : decode cX11_init 300 = .ok (.iastore, 1) := by decide +kernel
theorem dX11_init_301 : decode cX11_init 301 = .ok (.iinc 1 1, 3) := by decide +kernel
theorem dX11_init_304 : decode cX11_init 304 = .ok (.goto (-16), 3) := by decide +kernel
theorem dX11_init_307 : decode cX11_init 307 = .ok (.return_, 1) := by decide +kernel
section SP84
variable {l : Launch} {G : am_G} {B : Nat} {mi : am_MI} {ml : am_ML}
theorem ct_11_78 (hG : cm_ad G B) : cm_met l G B yX11_init cX11_init 2 2 35 1894 [.ref (G.1 78)] 79 mi ml 114 (am_ui (am_ui (am_ui (am_ui (am_ui (am_ui (am_ui (am_ui (am_ui (am_ui (am_ui (am_ui (am_ui (am_ui (am_ui (am_ui (am_ui (am_ui (am_ui (am_ui (am_ui (am_ui (am_ui (am_ui (am_ui (am_ui (am_ui (am_ui (am_ui (am_ui (am_ui (am_ui (am_ui (am_ui (am_ui (am_ui (am_ui (am_ui (am_ui (am_ui (am_ui (am_ui mi 78 1 1) 78 2 1) 78 3 1) 78 4 1) 78 6 1) 78 7 1) 78 8 1) 78 9 1) 78 10 1) 78 11 1) 78 14 1) 78 17 1) 78 18 1) 78 19 1) 78 20 1) 78 25 1) 78 26 1) 78 27 1) 78 28 1) 78 29 1) 78 30 1) 78 31 1) 78 35 1) 78 36 1) 78 39 1) 78 41 1) 78 43 1) 78 44 1) 78 45 1) 78 46 1) 78 47 1) 78 48 1) 78 49 1) 78 50 1) 78 51 1) 88 1 1) 106 0 (-1)) 106 1 (-1)) 106 2 (-1)) 106 3 (-1)) 106 4 (-1)) 106 5 (-1)) ml := by
  refine Met.ofW (cc := cX11_init) (maxL := 2) (ret := none) (by decide) rfl ?_
  intro p e s m args below meth c s1 Bd hml hv
  obtain ⟨rfl, g1, hK, hX⟩ := hv
  have F : cm_fr p s m _ meth c G yX11_init cX11_init 2 none := ⟨Bd.exec, Bd.bytes, hml, Bd.returns, Bd.notSynchronized, fun w hw => atoms_spec (ws := cm_ws yX11_init cX11_init 2) Bd.pre w (List.mem_cons_of_mem _ hw), findClass_of_methodNamed Bd.named, (name_of_methodNamed Bd.named Bd.method).1, hK, hX⟩
  have hx := F.1
  have hb := F.2.1
  have hB : B ≤ s.heap.size := by
    rw [g1.2.1]
    exact Nat.le_add_right _ _
  have hl := lv_entry ([.ref (G.1 78)]) (n := 2) (Nat.le_of_ble_eq_true rfl)
  rw [lg_entry_eq]
  generalize (lg_sl ([.ref (G.1 78)]) ++ List.replicate (2 - (lg_sl ([.ref (G.1 78)])).length) Slot.unset).toArray = ls at hl ⊢
  have hl : lv_has ls 2 [(0, .ref (G.1 78))] := hl
  refine (?_ : cm_go p l e _ s m _ below meth c _ G B 0 ls [] 79 mi ml 0 0) s.heap [] g1 va_S.rf
  refine cq_pure (fun H locs => lv_aload_n hx hb dX11_init_0 rfl (lv_at hl 0 rfl)) ?_
  refine cq_obj F (a := 78) cv_1216 cv_28 cv_obj dX11_init_1 hl.1 (by decide) (Nat.le_of_ble_eq_true rfl) (Nat.le_of_ble_eq_true rfl) ?_
  refine cq_pure (fun H locs => lv_aload_n hx hb dX11_init_4 rfl (lv_at hl 0 rfl)) ?_
  refine cq_pure (fun H locs => lv_bipush (v := (24 : Int32)) hx hb dX11_init_5 rfl) ?_
  refine cq_newa F hG hB (ty := .int) (N := 24) rfl (Or.inl ⟨rfl, rfl⟩) rfl (by decide) (by decide) rfl cv_61 dX11_init_7 (Nat.le_of_ble_eq_true rfl) (Nat.le_of_ble_eq_true rfl) ?_
  refine cq_putF F hG (a := 78) (b := 79) (k := 1) (ty := (.array .int)) rfl rfl rfl (by decide) rfl rfl (by decide) rfl rfl rfl rfl (by decide +kernel) (by decide +kernel) (fun _ => rfl) (fun _ => rfl) cv_1218 dX11_init_9 ?_
  refine cq_pure (fun H locs => lv_aload_n hx hb dX11_init_12 rfl (lv_at hl 0 rfl)) ?_
  refine cq_pure (fun H locs => lv_bipush (v := (24 : Int32)) hx hb dX11_init_13 rfl) ?_
  refine cq_newa F hG hB (ty := .int) (N := 24) rfl (Or.inl ⟨rfl, rfl⟩) rfl (by decide) (by decide) rfl cv_61 dX11_init_15 (Nat.le_of_ble_eq_true rfl) (Nat.le_of_ble_eq_true rfl) ?_
  refine cq_putF F hG (a := 78) (b := 80) (k := 2) (ty := (.array .int)) rfl rfl rfl (by decide) rfl rfl (by decide) rfl rfl rfl rfl (by decide +kernel) (by decide +kernel) (fun _ => rfl) (fun _ => rfl) cv_1219 dX11_init_17 ?_
  refine cq_pure (fun H locs => lv_aload_n hx hb dX11_init_20 rfl (lv_at hl 0 rfl)) ?_
  refine cq_pure (fun H locs => lv_bipush (v := (24 : Int32)) hx hb dX11_init_21 rfl) ?_
  refine cq_newa F hG hB (ty := .int) (N := 24) rfl (Or.inl ⟨rfl, rfl⟩) rfl (by decide) (by decide) rfl cv_61 dX11_init_23 (Nat.le_of_ble_eq_true rfl) (Nat.le_of_ble_eq_true rfl) ?_
  refine cq_putF F hG (a := 78) (b := 81) (k := 3) (ty := (.array .int)) rfl rfl rfl (by decide) rfl rfl (by decide) rfl rfl rfl rfl (by decide +kernel) (by decide +kernel) (fun _ => rfl) (fun _ => rfl) cv_1220 dX11_init_25 ?_
  refine cq_pure (fun H locs => lv_aload_n hx hb dX11_init_28 rfl (lv_at hl 0 rfl)) ?_
  refine cq_pure (fun H locs => lv_bipush (v := (12 : Int32)) hx hb dX11_init_29 rfl) ?_
  refine cq_newa F hG hB (ty := .int) (N := 12) rfl (Or.inl ⟨rfl, rfl⟩) rfl (by decide) (by decide) rfl cv_61 dX11_init_31 (Nat.le_of_ble_eq_true rfl) (Nat.le_of_ble_eq_true rfl) ?_
  refine cq_putF F hG (a := 78) (b := 82) (k := 4) (ty := (.array .int)) rfl rfl rfl (by decide) rfl rfl (by decide) rfl rfl rfl rfl (by decide +kernel) (by decide +kernel) (fun _ => rfl) (fun _ => rfl) cv_1221 dX11_init_33 ?_
  refine cq_pure (fun H locs => lv_aload_n hx hb dX11_init_36 rfl (lv_at hl 0 rfl)) ?_
  refine cq_pure (fun H locs => lv_iconst (v := (5 : Int32)) hx hb dX11_init_37 rfl) ?_
  refine cq_newa F hG hB (ty := .int) (N := 5) rfl (Or.inl ⟨rfl, rfl⟩) rfl (by decide) (by decide) rfl cv_61 dX11_init_38 (Nat.le_of_ble_eq_true rfl) (Nat.le_of_ble_eq_true rfl) ?_
  refine cq_putF F hG (a := 78) (b := 83) (k := 6) (ty := (.array .int)) rfl rfl rfl (by decide) rfl rfl (by decide) rfl rfl rfl rfl (by decide +kernel) (by decide +kernel) (fun _ => rfl) (fun _ => rfl) cv_1223 dX11_init_40 ?_
  refine cq_pure (fun H locs => lv_aload_n hx hb dX11_init_43 rfl (lv_at hl 0 rfl)) ?_
  refine cq_pure (fun H locs => lv_iconst (v := (5 : Int32)) hx hb dX11_init_44 rfl) ?_
  refine cq_newa F hG hB (ty := .int) (N := 5) rfl (Or.inl ⟨rfl, rfl⟩) rfl (by decide) (by decide) rfl cv_61 dX11_init_45 (Nat.le_of_ble_eq_true rfl) (Nat.le_of_ble_eq_true rfl) ?_
  refine cq_putF F hG (a := 78) (b := 84) (k := 7) (ty := (.array .int)) rfl rfl rfl (by decide) rfl rfl (by decide) rfl rfl rfl rfl (by decide +kernel) (by decide +kernel) (fun _ => rfl) (fun _ => rfl) cv_1224 dX11_init_47 ?_
  refine cq_pure (fun H locs => lv_aload_n hx hb dX11_init_50 rfl (lv_at hl 0 rfl)) ?_
  refine cq_pure (fun H locs => lv_iconst (v := (5 : Int32)) hx hb dX11_init_51 rfl) ?_
  refine cq_newa F hG hB (ty := .int) (N := 5) rfl (Or.inl ⟨rfl, rfl⟩) rfl (by decide) (by decide) rfl cv_61 dX11_init_52 (Nat.le_of_ble_eq_true rfl) (Nat.le_of_ble_eq_true rfl) ?_
  refine cq_putF F hG (a := 78) (b := 85) (k := 8) (ty := (.array .int)) rfl rfl rfl (by decide) rfl rfl (by decide) rfl rfl rfl rfl (by decide +kernel) (by decide +kernel) (fun _ => rfl) (fun _ => rfl) cv_1225 dX11_init_54 ?_
  refine cq_pure (fun H locs => lv_aload_n hx hb dX11_init_57 rfl (lv_at hl 0 rfl)) ?_
  refine cq_pure (fun H locs => lv_iconst (v := (5 : Int32)) hx hb dX11_init_58 rfl) ?_
  refine cq_newa F hG hB (ty := .int) (N := 5) rfl (Or.inl ⟨rfl, rfl⟩) rfl (by decide) (by decide) rfl cv_61 dX11_init_59 (Nat.le_of_ble_eq_true rfl) (Nat.le_of_ble_eq_true rfl) ?_
  refine cq_putF F hG (a := 78) (b := 86) (k := 9) (ty := (.array .int)) rfl rfl rfl (by decide) rfl rfl (by decide) rfl rfl rfl rfl (by decide +kernel) (by decide +kernel) (fun _ => rfl) (fun _ => rfl) cv_1226 dX11_init_61 ?_
  refine cq_pure (fun H locs => lv_aload_n hx hb dX11_init_64 rfl (lv_at hl 0 rfl)) ?_
  refine cq_pure (fun H locs => lv_iconst (v := (5 : Int32)) hx hb dX11_init_65 rfl) ?_
  refine cq_newa F hG hB (ty := .int) (N := 5) rfl (Or.inl ⟨rfl, rfl⟩) rfl (by decide) (by decide) rfl cv_61 dX11_init_66 (Nat.le_of_ble_eq_true rfl) (Nat.le_of_ble_eq_true rfl) ?_
  refine cq_putF F hG (a := 78) (b := 87) (k := 10) (ty := (.array .int)) rfl rfl rfl (by decide) rfl rfl (by decide) rfl rfl rfl rfl (by decide +kernel) (by decide +kernel) (fun _ => rfl) (fun _ => rfl) cv_1227 dX11_init_68 ?_
  refine cq_pure (fun H locs => lv_aload_n hx hb dX11_init_71 rfl (lv_at hl 0 rfl)) ?_
  refine cq_pure (fun H locs => lv_iconst (v := (2 : Int32)) hx hb dX11_init_72 rfl) ?_
  refine cq_newa F hG hB (ty := .int) (N := 2) rfl (Or.inl ⟨rfl, rfl⟩) rfl (by decide) (by decide) rfl cv_61 dX11_init_73 (Nat.le_of_ble_eq_true rfl) (Nat.le_of_ble_eq_true rfl) ?_
  refine cq_putF F hG (a := 78) (b := 88) (k := 11) (ty := (.array .int)) rfl rfl rfl (by decide) rfl rfl (by decide) rfl rfl rfl rfl (by decide +kernel) (by decide +kernel) (fun _ => rfl) (fun _ => rfl) cv_1228 dX11_init_75 ?_
  refine cq_pure (fun H locs => lv_aload_n hx hb dX11_init_78 rfl (lv_at hl 0 rfl)) ?_
  refine cq_pure (fun H locs => lv_bipush (v := (120 : Int32)) hx hb dX11_init_79 rfl) ?_
  refine cq_newa F hG hB (ty := .int) (N := 120) rfl (Or.inl ⟨rfl, rfl⟩) rfl (by decide) (by decide) rfl cv_61 dX11_init_81 (Nat.le_of_ble_eq_true rfl) (Nat.le_of_ble_eq_true rfl) ?_
  refine cq_putF F hG (a := 78) (b := 89) (k := 14) (ty := (.array .int)) rfl rfl rfl (by decide) rfl rfl (by decide) rfl rfl rfl rfl (by decide +kernel) (by decide +kernel) (fun _ => rfl) (fun _ => rfl) cv_1231 dX11_init_83 ?_
  refine cq_pure (fun H locs => lv_aload_n hx hb dX11_init_86 rfl (lv_at hl 0 rfl)) ?_
  refine cq_pure (fun H locs => lv_bipush (v := (60 : Int32)) hx hb dX11_init_87 rfl) ?_
  refine cq_newa F hG hB (ty := .int) (N := 60) rfl (Or.inl ⟨rfl, rfl⟩) rfl (by decide) (by decide) rfl cv_61 dX11_init_89 (Nat.le_of_ble_eq_true rfl) (Nat.le_of_ble_eq_true rfl) ?_
  refine cq_putF F hG (a := 78) (b := 90) (k := 17) (ty := (.array .int)) rfl rfl rfl (by decide) rfl rfl (by decide) rfl rfl rfl rfl (by decide +kernel) (by decide +kernel) (fun _ => rfl) (fun _ => rfl) cv_1234 dX11_init_91 ?_
  refine cq_pure (fun H locs => lv_aload_n hx hb dX11_init_94 rfl (lv_at hl 0 rfl)) ?_
  refine cq_pure (fun H locs => lv_bipush (v := (60 : Int32)) hx hb dX11_init_95 rfl) ?_
  refine cq_newa F hG hB (ty := .int) (N := 60) rfl (Or.inl ⟨rfl, rfl⟩) rfl (by decide) (by decide) rfl cv_61 dX11_init_97 (Nat.le_of_ble_eq_true rfl) (Nat.le_of_ble_eq_true rfl) ?_
  refine cq_putF F hG (a := 78) (b := 91) (k := 18) (ty := (.array .int)) rfl rfl rfl (by decide) rfl rfl (by decide) rfl rfl rfl rfl (by decide +kernel) (by decide +kernel) (fun _ => rfl) (fun _ => rfl) cv_1235 dX11_init_99 ?_
  refine cq_pure (fun H locs => lv_aload_n hx hb dX11_init_102 rfl (lv_at hl 0 rfl)) ?_
  refine cq_pure (fun H locs => lv_bipush (v := (60 : Int32)) hx hb dX11_init_103 rfl) ?_
  refine cq_newa F hG hB (ty := .int) (N := 60) rfl (Or.inl ⟨rfl, rfl⟩) rfl (by decide) (by decide) rfl cv_61 dX11_init_105 (Nat.le_of_ble_eq_true rfl) (Nat.le_of_ble_eq_true rfl) ?_
  refine cq_putF F hG (a := 78) (b := 92) (k := 19) (ty := (.array .int)) rfl rfl rfl (by decide) rfl rfl (by decide) rfl rfl rfl rfl (by decide +kernel) (by decide +kernel) (fun _ => rfl) (fun _ => rfl) cv_1236 dX11_init_107 ?_
  refine cq_pure (fun H locs => lv_aload_n hx hb dX11_init_110 rfl (lv_at hl 0 rfl)) ?_
  refine cq_pure (fun H locs => lv_sipush (v := (200 : Int32)) hx hb dX11_init_111 rfl) ?_
  refine cq_newa F hG hB (ty := .int) (N := 200) rfl (Or.inl ⟨rfl, rfl⟩) rfl (by decide) (by decide) rfl cv_61 dX11_init_114 (Nat.le_of_ble_eq_true rfl) (Nat.le_of_ble_eq_true rfl) ?_
  refine cq_putF F hG (a := 78) (b := 93) (k := 20) (ty := (.array .int)) rfl rfl rfl (by decide) rfl rfl (by decide) rfl rfl rfl rfl (by decide +kernel) (by decide +kernel) (fun _ => rfl) (fun _ => rfl) cv_1237 dX11_init_116 ?_
  refine cq_pure (fun H locs => lv_aload_n hx hb dX11_init_119 rfl (lv_at hl 0 rfl)) ?_
  refine cq_pure (fun H locs => lv_bipush (v := (61 : Int32)) hx hb dX11_init_120 rfl) ?_
  refine cq_newa F hG hB (ty := .int) (N := 61) rfl (Or.inl ⟨rfl, rfl⟩) rfl (by decide) (by decide) rfl cv_61 dX11_init_122 (Nat.le_of_ble_eq_true rfl) (Nat.le_of_ble_eq_true rfl) ?_
  refine cq_putF F hG (a := 78) (b := 94) (k := 25) (ty := (.array .int)) rfl rfl rfl (by decide) rfl rfl (by decide) rfl rfl rfl rfl (by decide +kernel) (by decide +kernel) (fun _ => rfl) (fun _ => rfl) cv_1242 dX11_init_124 ?_
  refine cq_pure (fun H locs => lv_aload_n hx hb dX11_init_127 rfl (lv_at hl 0 rfl)) ?_
  refine cq_pure (fun H locs => lv_bipush (v := (61 : Int32)) hx hb dX11_init_128 rfl) ?_
  refine cq_newa F hG hB (ty := .int) (N := 61) rfl (Or.inl ⟨rfl, rfl⟩) rfl (by decide) (by decide) rfl cv_61 dX11_init_130 (Nat.le_of_ble_eq_true rfl) (Nat.le_of_ble_eq_true rfl) ?_
  refine cq_putF F hG (a := 78) (b := 95) (k := 26) (ty := (.array .int)) rfl rfl rfl (by decide) rfl rfl (by decide) rfl rfl rfl rfl (by decide +kernel) (by decide +kernel) (fun _ => rfl) (fun _ => rfl) cv_1243 dX11_init_132 ?_
  refine cq_pure (fun H locs => lv_aload_n hx hb dX11_init_135 rfl (lv_at hl 0 rfl)) ?_
  refine cq_pure (fun H locs => lv_bipush (v := (61 : Int32)) hx hb dX11_init_136 rfl) ?_
  refine cq_newa F hG hB (ty := .int) (N := 61) rfl (Or.inl ⟨rfl, rfl⟩) rfl (by decide) (by decide) rfl cv_61 dX11_init_138 (Nat.le_of_ble_eq_true rfl) (Nat.le_of_ble_eq_true rfl) ?_
  refine cq_putF F hG (a := 78) (b := 96) (k := 27) (ty := (.array .int)) rfl rfl rfl (by decide) rfl rfl (by decide) rfl rfl rfl rfl (by decide +kernel) (by decide +kernel) (fun _ => rfl) (fun _ => rfl) cv_1244 dX11_init_140 ?_
  refine cq_pure (fun H locs => lv_aload_n hx hb dX11_init_143 rfl (lv_at hl 0 rfl)) ?_
  refine cq_pure (fun H locs => lv_sipush (v := (200 : Int32)) hx hb dX11_init_144 rfl) ?_
  refine cq_newa F hG hB (ty := .int) (N := 200) rfl (Or.inl ⟨rfl, rfl⟩) rfl (by decide) (by decide) rfl cv_61 dX11_init_147 (Nat.le_of_ble_eq_true rfl) (Nat.le_of_ble_eq_true rfl) ?_
  refine cq_putF F hG (a := 78) (b := 97) (k := 28) (ty := (.array .int)) rfl rfl rfl (by decide) rfl rfl (by decide) rfl rfl rfl rfl (by decide +kernel) (by decide +kernel) (fun _ => rfl) (fun _ => rfl) cv_1245 dX11_init_149 ?_
  refine cq_pure (fun H locs => lv_aload_n hx hb dX11_init_152 rfl (lv_at hl 0 rfl)) ?_
  refine cq_pure (fun H locs => lv_sipush (v := (200 : Int32)) hx hb dX11_init_153 rfl) ?_
  refine cq_newa F hG hB (ty := .int) (N := 200) rfl (Or.inl ⟨rfl, rfl⟩) rfl (by decide) (by decide) rfl cv_61 dX11_init_156 (Nat.le_of_ble_eq_true rfl) (Nat.le_of_ble_eq_true rfl) ?_
  refine cq_putF F hG (a := 78) (b := 98) (k := 29) (ty := (.array .int)) rfl rfl rfl (by decide) rfl rfl (by decide) rfl rfl rfl rfl (by decide +kernel) (by decide +kernel) (fun _ => rfl) (fun _ => rfl) cv_1246 dX11_init_158 ?_
  refine cq_pure (fun H locs => lv_aload_n hx hb dX11_init_161 rfl (lv_at hl 0 rfl)) ?_
  refine cq_pure (fun H locs => lv_bipush (v := (6 : Int32)) hx hb dX11_init_162 rfl) ?_
  refine cq_newa F hG hB (ty := .int) (N := 6) rfl (Or.inl ⟨rfl, rfl⟩) rfl (by decide) (by decide) rfl cv_61 dX11_init_164 (Nat.le_of_ble_eq_true rfl) (Nat.le_of_ble_eq_true rfl) ?_
  refine cq_putF F hG (a := 78) (b := 99) (k := 30) (ty := (.array .int)) rfl rfl rfl (by decide) rfl rfl (by decide) rfl rfl rfl rfl (by decide +kernel) (by decide +kernel) (fun _ => rfl) (fun _ => rfl) cv_1247 dX11_init_166 ?_
  refine cq_pure (fun H locs => lv_aload_n hx hb dX11_init_169 rfl (lv_at hl 0 rfl)) ?_
  refine cq_pure (fun H locs => lv_iconst (v := (3 : Int32)) hx hb dX11_init_170 rfl) ?_
  refine cq_newa F hG hB (ty := .int) (N := 3) rfl (Or.inl ⟨rfl, rfl⟩) rfl (by decide) (by decide) rfl cv_61 dX11_init_171 (Nat.le_of_ble_eq_true rfl) (Nat.le_of_ble_eq_true rfl) ?_
  refine cq_putF F hG (a := 78) (b := 100) (k := 31) (ty := (.array .int)) rfl rfl rfl (by decide) rfl rfl (by decide) rfl rfl rfl rfl (by decide +kernel) (by decide +kernel) (fun _ => rfl) (fun _ => rfl) cv_1248 dX11_init_173 ?_
  refine cq_pure (fun H locs => lv_aload_n hx hb dX11_init_176 rfl (lv_at hl 0 rfl)) ?_
  refine cq_pure (fun H locs => lv_bipush (v := (12 : Int32)) hx hb dX11_init_177 rfl) ?_
  refine cq_newa F hG hB (ty := .int) (N := 12) rfl (Or.inl ⟨rfl, rfl⟩) rfl (by decide) (by decide) rfl cv_61 dX11_init_179 (Nat.le_of_ble_eq_true rfl) (Nat.le_of_ble_eq_true rfl) ?_
  refine cq_putF F hG (a := 78) (b := 101) (k := 35) (ty := (.array .int)) rfl rfl rfl (by decide) rfl rfl (by decide) rfl rfl rfl rfl (by decide +kernel) (by decide +kernel) (fun _ => rfl) (fun _ => rfl) cv_1252 dX11_init_181 ?_
  refine cq_pure (fun H locs => lv_aload_n hx hb dX11_init_184 rfl (lv_at hl 0 rfl)) ?_
  refine cq_pure (fun H locs => lv_iconst (v := (3 : Int32)) hx hb dX11_init_185 rfl) ?_
  refine cq_newa F hG hB (ty := .int) (N := 3) rfl (Or.inl ⟨rfl, rfl⟩) rfl (by decide) (by decide) rfl cv_61 dX11_init_186 (Nat.le_of_ble_eq_true rfl) (Nat.le_of_ble_eq_true rfl) ?_
  refine cq_putF F hG (a := 78) (b := 102) (k := 36) (ty := (.array .int)) rfl rfl rfl (by decide) rfl rfl (by decide) rfl rfl rfl rfl (by decide +kernel) (by decide +kernel) (fun _ => rfl) (fun _ => rfl) cv_1253 dX11_init_188 ?_
  refine cq_pure (fun H locs => lv_aload_n hx hb dX11_init_191 rfl (lv_at hl 0 rfl)) ?_
  refine cq_pure (fun H locs => lv_sipush (v := (160 : Int32)) hx hb dX11_init_192 rfl) ?_
  refine cq_newa F hG hB (ty := .int) (N := 160) rfl (Or.inl ⟨rfl, rfl⟩) rfl (by decide) (by decide) rfl cv_61 dX11_init_195 (Nat.le_of_ble_eq_true rfl) (Nat.le_of_ble_eq_true rfl) ?_
  refine cq_putF F hG (a := 78) (b := 103) (k := 39) (ty := (.array .int)) rfl rfl rfl (by decide) rfl rfl (by decide) rfl rfl rfl rfl (by decide +kernel) (by decide +kernel) (fun _ => rfl) (fun _ => rfl) cv_1256 dX11_init_197 ?_
  refine cq_pure (fun H locs => lv_aload_n hx hb dX11_init_200 rfl (lv_at hl 0 rfl)) ?_
  refine cq_pure (fun H locs => lv_bipush (v := (50 : Int32)) hx hb dX11_init_201 rfl) ?_
  refine cq_newa F hG hB (ty := .int) (N := 50) rfl (Or.inl ⟨rfl, rfl⟩) rfl (by decide) (by decide) rfl cv_61 dX11_init_203 (Nat.le_of_ble_eq_true rfl) (Nat.le_of_ble_eq_true rfl) ?_
  refine cq_putF F hG (a := 78) (b := 104) (k := 41) (ty := (.array .int)) rfl rfl rfl (by decide) rfl rfl (by decide) rfl rfl rfl rfl (by decide +kernel) (by decide +kernel) (fun _ => rfl) (fun _ => rfl) cv_1258 dX11_init_205 ?_
  refine cq_pure (fun H locs => lv_aload_n hx hb dX11_init_208 rfl (lv_at hl 0 rfl)) ?_
  refine cq_pure (fun H locs => lv_bipush (v := (24 : Int32)) hx hb dX11_init_209 rfl) ?_
  refine cq_newa F hG hB (ty := .int) (N := 24) rfl (Or.inl ⟨rfl, rfl⟩) rfl (by decide) (by decide) rfl cv_61 dX11_init_211 (Nat.le_of_ble_eq_true rfl) (Nat.le_of_ble_eq_true rfl) ?_
  refine cq_putF F hG (a := 78) (b := 105) (k := 43) (ty := (.array .int)) rfl rfl rfl (by decide) rfl rfl (by decide) rfl rfl rfl rfl (by decide +kernel) (by decide +kernel) (fun _ => rfl) (fun _ => rfl) cv_1260 dX11_init_213 ?_
  refine cq_pure (fun H locs => lv_aload_n hx hb dX11_init_216 rfl (lv_at hl 0 rfl)) ?_
  refine cq_pure (fun H locs => lv_bipush (v := (6 : Int32)) hx hb dX11_init_217 rfl) ?_
  refine cq_newa F hG hB (ty := .int) (N := 6) rfl (Or.inl ⟨rfl, rfl⟩) rfl (by decide) (by decide) rfl cv_61 dX11_init_219 (Nat.le_of_ble_eq_true rfl) (Nat.le_of_ble_eq_true rfl) ?_
  refine cq_putF F hG (a := 78) (b := 106) (k := 44) (ty := (.array .int)) rfl rfl rfl (by decide) rfl rfl (by decide) rfl rfl rfl rfl (by decide +kernel) (by decide +kernel) (fun _ => rfl) (fun _ => rfl) cv_1261 dX11_init_221 ?_
  refine cq_pure (fun H locs => lv_aload_n hx hb dX11_init_224 rfl (lv_at hl 0 rfl)) ?_
  refine cq_pure (fun H locs => lv_bipush (v := (6 : Int32)) hx hb dX11_init_225 rfl) ?_
  refine cq_newa F hG hB (ty := .int) (N := 6) rfl (Or.inl ⟨rfl, rfl⟩) rfl (by decide) (by decide) rfl cv_61 dX11_init_227 (Nat.le_of_ble_eq_true rfl) (Nat.le_of_ble_eq_true rfl) ?_
  refine cq_putF F hG (a := 78) (b := 107) (k := 45) (ty := (.array .int)) rfl rfl rfl (by decide) rfl rfl (by decide) rfl rfl rfl rfl (by decide +kernel) (by decide +kernel) (fun _ => rfl) (fun _ => rfl) cv_1262 dX11_init_229 ?_
  refine cq_pure (fun H locs => lv_aload_n hx hb dX11_init_232 rfl (lv_at hl 0 rfl)) ?_
  refine cq_pure (fun H locs => lv_sipush (v := (360 : Int32)) hx hb dX11_init_233 rfl) ?_
  refine cq_newa F hG hB (ty := .long) (N := 360) rfl (Or.inr ⟨rfl, rfl⟩) rfl (by decide) (by decide) rfl cv_337 dX11_init_236 (Nat.le_of_ble_eq_true rfl) (Nat.le_of_ble_eq_true rfl) ?_
  refine cq_putF F hG (a := 78) (b := 108) (k := 46) (ty := (.array .long)) rfl rfl rfl (by decide) rfl rfl (by decide) rfl rfl rfl rfl (by decide +kernel) (by decide +kernel) (fun _ => rfl) (fun _ => rfl) cv_1263 dX11_init_238 ?_
  refine cq_pure (fun H locs => lv_aload_n hx hb dX11_init_241 rfl (lv_at hl 0 rfl)) ?_
  refine cq_pure (fun H locs => lv_bipush (v := (24 : Int32)) hx hb dX11_init_242 rfl) ?_
  refine cq_newa F hG hB (ty := .int) (N := 24) rfl (Or.inl ⟨rfl, rfl⟩) rfl (by decide) (by decide) rfl cv_61 dX11_init_244 (Nat.le_of_ble_eq_true rfl) (Nat.le_of_ble_eq_true rfl) ?_
  refine cq_putF F hG (a := 78) (b := 109) (k := 47) (ty := (.array .int)) rfl rfl rfl (by decide) rfl rfl (by decide) rfl rfl rfl rfl (by decide +kernel) (by decide +kernel) (fun _ => rfl) (fun _ => rfl) cv_1264 dX11_init_246 ?_
  refine cq_pure (fun H locs => lv_aload_n hx hb dX11_init_249 rfl (lv_at hl 0 rfl)) ?_
  refine cq_pure (fun H locs => lv_bipush (v := (24 : Int32)) hx hb dX11_init_250 rfl) ?_
  refine cq_newa F hG hB (ty := .int) (N := 24) rfl (Or.inl ⟨rfl, rfl⟩) rfl (by decide) (by decide) rfl cv_61 dX11_init_252 (Nat.le_of_ble_eq_true rfl) (Nat.le_of_ble_eq_true rfl) ?_
  refine cq_putF F hG (a := 78) (b := 110) (k := 48) (ty := (.array .int)) rfl rfl rfl (by decide) rfl rfl (by decide) rfl rfl rfl rfl (by decide +kernel) (by decide +kernel) (fun _ => rfl) (fun _ => rfl) cv_1265 dX11_init_254 ?_
  refine cq_pure (fun H locs => lv_aload_n hx hb dX11_init_257 rfl (lv_at hl 0 rfl)) ?_
  refine cq_pure (fun H locs => lv_iconst (v := (5 : Int32)) hx hb dX11_init_258 rfl) ?_
  refine cq_newa F hG hB (ty := .int) (N := 5) rfl (Or.inl ⟨rfl, rfl⟩) rfl (by decide) (by decide) rfl cv_61 dX11_init_259 (Nat.le_of_ble_eq_true rfl) (Nat.le_of_ble_eq_true rfl) ?_
  refine cq_putF F hG (a := 78) (b := 111) (k := 49) (ty := (.array .int)) rfl rfl rfl (by decide) rfl rfl (by decide) rfl rfl rfl rfl (by decide +kernel) (by decide +kernel) (fun _ => rfl) (fun _ => rfl) cv_1266 dX11_init_261 ?_
  refine cq_pure (fun H locs => lv_aload_n hx hb dX11_init_264 rfl (lv_at hl 0 rfl)) ?_
  refine cq_pure (fun H locs => lv_iconst (v := (5 : Int32)) hx hb dX11_init_265 rfl) ?_
  refine cq_newa F hG hB (ty := .int) (N := 5) rfl (Or.inl ⟨rfl, rfl⟩) rfl (by decide) (by decide) rfl cv_61 dX11_init_266 (Nat.le_of_ble_eq_true rfl) (Nat.le_of_ble_eq_true rfl) ?_
  refine cq_putF F hG (a := 78) (b := 112) (k := 50) (ty := (.array .int)) rfl rfl rfl (by decide) rfl rfl (by decide) rfl rfl rfl rfl (by decide +kernel) (by decide +kernel) (fun _ => rfl) (fun _ => rfl) cv_1267 dX11_init_268 ?_
  refine cq_pure (fun H locs => lv_aload_n hx hb dX11_init_271 rfl (lv_at hl 0 rfl)) ?_
  refine cq_pure (fun H locs => lv_bipush (v := (12 : Int32)) hx hb dX11_init_272 rfl) ?_
  refine cq_newa F hG hB (ty := .int) (N := 12) rfl (Or.inl ⟨rfl, rfl⟩) rfl (by decide) (by decide) rfl cv_61 dX11_init_274 (Nat.le_of_ble_eq_true rfl) (Nat.le_of_ble_eq_true rfl) ?_
  refine cq_putF F hG (a := 78) (b := 113) (k := 51) (ty := (.array .int)) rfl rfl rfl (by decide) rfl rfl (by decide) rfl rfl rfl rfl (by decide +kernel) (by decide +kernel) (fun _ => rfl) (fun _ => rfl) cv_1268 dX11_init_276 ?_
  refine cq_pure (fun H locs => lv_aload_n hx hb dX11_init_279 rfl (lv_at hl 0 rfl)) ?_
  refine cq_get F (a := 78) (b := 88) (k := 11) rfl rfl rfl (by decide) rfl (by simp [am_ui]) rfl (by decide) rfl (by decide +kernel) cv_1228 dX11_init_280 ?_
  refine cq_pure (fun H locs => lv_iconst (v := (1 : Int32)) hx hb dX11_init_283 rfl) ?_
  refine cq_pure (fun H locs => lv_iconst (v := (1 : Int32)) hx hb dX11_init_284 rfl) ?_
  refine cq_iast F hG (a := 88) rfl (by decide) (cq_vp (k := 1) rfl (by decide) (by decide)) dX11_init_285 ?_
  refine cq_pure (fun H locs => lv_iconst (v := (0 : Int32)) hx hb dX11_init_286 rfl) ?_
  refine cq_istn F (lv2 := [(1, .int 0), (0, .ref (G.1 78))]) hl (by decide) rfl dX11_init_287 (fun ls hl => ?_)
  refine cq_pure (fun H locs => lv_iload_n hx hb dX11_init_288 rfl (lv_at hl 0 rfl)) ?_
  refine cq_pure (fun H locs => lv_bipush (v := (6 : Int32)) hx hb dX11_init_289 rfl) ?_
  refine cq_icn F (tgt := 307) (by decide) dX11_init_291 rfl ?_
  refine cq_pure (fun H locs => lv_aload_n hx hb dX11_init_294 rfl (lv_at hl 1 rfl)) ?_
  refine cq_get F (a := 78) (b := 106) (k := 44) rfl rfl rfl (by decide) rfl (by simp [am_ui]) rfl (by decide) rfl (by decide +kernel) cv_1261 dX11_init_295 ?_
  refine cq_pure (fun H locs => lv_iload_n hx hb dX11_init_298 rfl (lv_at hl 0 rfl)) ?_
  refine cq_pure (fun H locs => lv_iconst (v := (-1 : Int32)) hx hb dX11_init_299 rfl) ?_
  refine cq_iast F hG (a := 106) rfl (by decide) (cq_vp (k := 0) rfl (by decide) (by decide)) dX11_init_300 ?_
  refine cq_iinc F (k := 0) (x := 0) (v := 1) (lv2 := [(1, .int 1), (0, .ref (G.1 78))]) hl rfl rfl (by decide) rfl dX11_init_301 (fun ls hl => ?_)
  refine cq_pure (fun H locs => lv_goto (tgt := 288) hx hb dX11_init_304 rfl) ?_
  refine cq_pure (fun H locs => lv_iload_n hx hb dX11_init_288 rfl (lv_at hl 0 rfl)) ?_
  refine cq_pure (fun H locs => lv_bipush (v := (6 : Int32)) hx hb dX11_init_289 rfl) ?_
  refine cq_icn F (tgt := 307) (by decide) dX11_init_291 rfl ?_
  refine cq_pure (fun H locs => lv_aload_n hx hb dX11_init_294 rfl (lv_at hl 1 rfl)) ?_
  refine cq_get F (a := 78) (b := 106) (k := 44) rfl rfl rfl (by decide) rfl (by simp [am_ui]) rfl (by decide) rfl (by decide +kernel) cv_1261 dX11_init_295 ?_
  refine cq_pure (fun H locs => lv_iload_n hx hb dX11_init_298 rfl (lv_at hl 0 rfl)) ?_
  refine cq_pure (fun H locs => lv_iconst (v := (-1 : Int32)) hx hb dX11_init_299 rfl) ?_
  refine cq_iast F hG (a := 106) rfl (by decide) (cq_vp (k := 1) rfl (by decide) (by decide)) dX11_init_300 ?_
  refine cq_iinc F (k := 0) (x := 1) (v := 2) (lv2 := [(1, .int 2), (0, .ref (G.1 78))]) hl rfl rfl (by decide) rfl dX11_init_301 (fun ls hl => ?_)
  refine cq_pure (fun H locs => lv_goto (tgt := 288) hx hb dX11_init_304 rfl) ?_
  refine cq_pure (fun H locs => lv_iload_n hx hb dX11_init_288 rfl (lv_at hl 0 rfl)) ?_
  refine cq_pure (fun H locs => lv_bipush (v := (6 : Int32)) hx hb dX11_init_289 rfl) ?_
  refine cq_icn F (tgt := 307) (by decide) dX11_init_291 rfl ?_
  refine cq_pure (fun H locs => lv_aload_n hx hb dX11_init_294 rfl (lv_at hl 1 rfl)) ?_
  refine cq_get F (a := 78) (b := 106) (k := 44) rfl rfl rfl (by decide) rfl (by simp [am_ui]) rfl (by decide) rfl (by decide +kernel) cv_1261 dX11_init_295 ?_
  refine cq_pure (fun H locs => lv_iload_n hx hb dX11_init_298 rfl (lv_at hl 0 rfl)) ?_
  refine cq_pure (fun H locs => lv_iconst (v := (-1 : Int32)) hx hb dX11_init_299 rfl) ?_
  refine cq_iast F hG (a := 106) rfl (by decide) (cq_vp (k := 2) rfl (by decide) (by decide)) dX11_init_300 ?_
  refine cq_iinc F (k := 0) (x := 2) (v := 3) (lv2 := [(1, .int 3), (0, .ref (G.1 78))]) hl rfl rfl (by decide) rfl dX11_init_301 (fun ls hl => ?_)
  refine cq_pure (fun H locs => lv_goto (tgt := 288) hx hb dX11_init_304 rfl) ?_
  refine cq_pure (fun H locs => lv_iload_n hx hb dX11_init_288 rfl (lv_at hl 0 rfl)) ?_
  refine cq_pure (fun H locs => lv_bipush (v := (6 : Int32)) hx hb dX11_init_289 rfl) ?_
  refine cq_icn F (tgt := 307) (by decide) dX11_init_291 rfl ?_
  refine cq_pure (fun H locs => lv_aload_n hx hb dX11_init_294 rfl (lv_at hl 1 rfl)) ?_
  refine cq_get F (a := 78) (b := 106) (k := 44) rfl rfl rfl (by decide) rfl (by simp [am_ui]) rfl (by decide) rfl (by decide +kernel) cv_1261 dX11_init_295 ?_
  refine cq_pure (fun H locs => lv_iload_n hx hb dX11_init_298 rfl (lv_at hl 0 rfl)) ?_
  refine cq_pure (fun H locs => lv_iconst (v := (-1 : Int32)) hx hb dX11_init_299 rfl) ?_
  refine cq_iast F hG (a := 106) rfl (by decide) (cq_vp (k := 3) rfl (by decide) (by decide)) dX11_init_300 ?_
  refine cq_iinc F (k := 0) (x := 3) (v := 4) (lv2 := [(1, .int 4), (0, .ref (G.1 78))]) hl rfl rfl (by decide) rfl dX11_init_301 (fun ls hl => ?_)
  refine cq_pure (fun H locs => lv_goto (tgt := 288) hx hb dX11_init_304 rfl) ?_
  refine cq_pure (fun H locs => lv_iload_n hx hb dX11_init_288 rfl (lv_at hl 0 rfl)) ?_
  refine cq_pure (fun H locs => lv_bipush (v := (6 : Int32)) hx hb dX11_init_289 rfl) ?_
  refine cq_icn F (tgt := 307) (by decide) dX11_init_291 rfl ?_
  refine cq_pure (fun H locs => lv_aload_n hx hb dX11_init_294 rfl (lv_at hl 1 rfl)) ?_
  refine cq_get F (a := 78) (b := 106) (k := 44) rfl rfl rfl (by decide) rfl (by simp [am_ui]) rfl (by decide) rfl (by decide +kernel) cv_1261 dX11_init_295 ?_
  refine cq_pure (fun H locs => lv_iload_n hx hb dX11_init_298 rfl (lv_at hl 0 rfl)) ?_
  refine cq_pure (fun H locs => lv_iconst (v := (-1 : Int32)) hx hb dX11_init_299 rfl) ?_
  refine cq_iast F hG (a := 106) rfl (by decide) (cq_vp (k := 4) rfl (by decide) (by decide)) dX11_init_300 ?_
  refine cq_iinc F (k := 0) (x := 4) (v := 5) (lv2 := [(1, .int 5), (0, .ref (G.1 78))]) hl rfl rfl (by decide) rfl dX11_init_301 (fun ls hl => ?_)
  refine cq_pure (fun H locs => lv_goto (tgt := 288) hx hb dX11_init_304 rfl) ?_
  refine cq_pure (fun H locs => lv_iload_n hx hb dX11_init_288 rfl (lv_at hl 0 rfl)) ?_
  refine cq_pure (fun H locs => lv_bipush (v := (6 : Int32)) hx hb dX11_init_289 rfl) ?_
  refine cq_icn F (tgt := 307) (by decide) dX11_init_291 rfl ?_
  refine cq_pure (fun H locs => lv_aload_n hx hb dX11_init_294 rfl (lv_at hl 1 rfl)) ?_
  refine cq_get F (a := 78) (b := 106) (k := 44) rfl rfl rfl (by decide) rfl (by simp [am_ui]) rfl (by decide) rfl (by decide +kernel) cv_1261 dX11_init_295 ?_
  refine cq_pure (fun H locs => lv_iload_n hx hb dX11_init_298 rfl (lv_at hl 0 rfl)) ?_
  refine cq_pure (fun H locs => lv_iconst (v := (-1 : Int32)) hx hb dX11_init_299 rfl) ?_
  refine cq_iast F hG (a := 106) rfl (by decide) (cq_vp (k := 5) rfl (by decide) (by decide)) dX11_init_300 ?_
  refine cq_iinc F (k := 0) (x := 5) (v := 6) (lv2 := [(1, .int 6), (0, .ref (G.1 78))]) hl rfl rfl (by decide) rfl dX11_init_301 (fun ls hl => ?_)
  refine cq_pure (fun H locs => lv_goto (tgt := 288) hx hb dX11_init_304 rfl) ?_
  refine cq_pure (fun H locs => lv_iload_n hx hb dX11_init_288 rfl (lv_at hl 0 rfl)) ?_
  refine cq_pure (fun H locs => lv_bipush (v := (6 : Int32)) hx hb dX11_init_289 rfl) ?_
  refine cq_icy F (tgt := 307) (by decide) dX11_init_291 rfl ?_
  exact cq_ret F dX11_init_307
end SP84
