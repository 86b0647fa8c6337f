/-! the class's constructor -/
section SP85a
variable {p : Program} {l : Launch} {e : Env} {Rm : Room} {s : State} {m : MethodId} {args : Array Value} {below : List Frame} {meth : Method} {c : Code} {Q : State → Prop}
variable {G : am_G} {B : Nat} {y : MethodName} {bc : ByteArray} {nL : Nat} {rt : Option FieldType} {pc n cs ss : Nat} {ls : Array Slot} {st : List Value} {mi : am_MI} {ml : am_ML}
theorem cq_aleni (F : cm_fr p s m args meth c G y bc nL rt) {a : Nat} (h1 : am_kd a = 2) (ha : a < n) (hdg : decode bc pc = .ok (.arraylength, 1))
    (kk : cm_go p l e Rm s m args below meth c Q G B (pc + 1) ls (.int (Int32.ofNat (am_n a)) :: st) n mi ml cs ss) : cm_go p l e Rm s m args below meth c Q G B pc ls (.ref (G.1 a) :: st) n mi ml cs ss := by
  obtain ⟨hx, hb, hml, hr, hlocks, hts, hown, hnm, hK, hX⟩ := F
  intro H locs g1 g2
  have he : (cm_wl G n mi ml)[a]? = some (G.1 a, cm_en G mi ml a) := cm_wl_at ha
  rw [cm_en2 h1] at he
  exact va_alen hx hb hK g1.1 a 0 he rfl rfl hdg (kk H locs g1 g2)
/-- a static method's call -/
theorem cq_callS (F : cm_fr p s m args meth c G y bc nL rt) {y2 : MethodName} {bc2 : ByteArray} {nL2 d mc ms index n2 k : Nat} {As : List Value} {mi2 : am_MI} {ml2 : am_ML} (hM : cm_met l G B y2 bc2 nL2 d mc ms As n mi ml n2 mi2 ml2)
    (w0 : Cond.code y2 bc2 nL2 none ∈ lw_tbl) (w1 : Cond.initialized y2.cls ∈ lw_tbl) (w2 : Cond.methodLink y.cls index y2 ∈ lw_tbl) (w3 : Cond.static y2 ∈ lw_tbl) (hd : y2.cls ≠ "java/lang/invoke/MethodHandle" ∧ y2.cls ≠ "java/lang/invoke/VarHandle" ∧ (parseMethodDescriptor y2.desc).map (fun d => d.parameters.length) = some k) (hk : As.length = k)
    (hdg : decode bc pc = .ok (.invokestatic index, 3)) (hls : ls.size = nL) (hnL : nL2 ≤ 20) (hsum : (st.map fun v => v.category).sum ≤ 8) (hr1 : d + 1 ≤ Rm.frames) (hr2 : 40 * (d + 1) ≤ Rm.locals) (hcs : cs + mc ≤ Rm.cells) (hss : ss + ms ≤ Rm.slots)
    (kk : cm_go p l e Rm s m args below meth c Q G B (pc + 3) ls st n2 mi2 ml2 (cs + mc) (ss + ms)) : cm_go p l e Rm s m args below meth c Q G B pc ls (As.reverse ++ st) n mi ml cs ss := by
  obtain ⟨hx, hb, hml, hr, hlocks, hts, hown, hnm, hK, hX⟩ := F
  intro H locs g1 g2
  exact cm_callk (va_runS (As := As) (rest := st) ⟨hx, hb, hml, hown, hts⟩ hM ⟨callB_of k hts (cm_goodIn w0) rfl rfl rfl (hts _ (am_tb_i w1 rfl)) (hts _ (am_tb_i w2 rfl)) hd ⟨hr1, by show 8 + (nL2 + 11) + 40 * d ≤ _; omega⟩, hts _ (am_tb_i w3 rfl)⟩ (cm_pre hK hX g1) rfl hk hls rfl (by show 2 * 0 + _ ≤ 8; omega) hdg ⟨hcs, hss⟩) g2 kk
end SP85a
theorem cb_0 : cm_born 0 4 tyX0 := by
  unfold cm_born
  decide +kernel
theorem cb_1 : cm_born 1 3 tyX1 := by
  unfold cm_born
  decide +kernel
theorem cb_2 : cm_born 2 12 tyX2 := by
  unfold cm_born
  decide +kernel
theorem cb_3 : cm_born 3 10 tyX3 := by
  unfold cm_born
  decide +kernel
theorem cb_4 : cm_born 4 13 tyX4 := by
  unfold cm_born
  decide +kernel
theorem cb_5 : cm_born 5 10 tyX5 := by
  unfold cm_born
  decide +kernel
theorem cb_6 : cm_born 6 4 tyX6 := by
  unfold cm_born
  decide +kernel
theorem cb_7 : cm_born 7 5 tyX7 := by
  unfold cm_born
  decide +kernel
theorem cb_8 : cm_born 8 2 tyX8 := by
  unfold cm_born
  decide +kernel
theorem cb_9 : cm_born 9 3 tyX9 := by
  unfold cm_born
  decide +kernel
theorem cb_10 : cm_born 10 10 tyX10 := by
  unfold cm_born
  decide +kernel
set_option maxRecDepth 1000000 in
theorem cv_2 : (Jvm.Cond.initialized "DoorsForThree$Calendar") ∈ lw_tbl := am_t1 (List.mem_of_getElem? (i := 2) (by decide +kernel))
set_option maxRecDepth 1000000 in
theorem cv_3 : (Jvm.Cond.initialized "DoorsForThree$Changes") ∈ lw_tbl := am_t1 (List.mem_of_getElem? (i := 3) (by decide +kernel))
set_option maxRecDepth 1000000 in
theorem cv_4 : (Jvm.Cond.initialized "DoorsForThree$Law") ∈ lw_tbl := am_t1 (List.mem_of_getElem? (i := 4) (by decide +kernel))
set_option maxRecDepth 1000000 in
theorem cv_5 : (Jvm.Cond.initialized "DoorsForThree$Worths") ∈ lw_tbl := am_t1 (List.mem_of_getElem? (i := 5) (by decide +kernel))
set_option maxRecDepth 1000000 in
theorem cv_6 : (Jvm.Cond.initialized "DoorsForThree$Givings") ∈ lw_tbl := am_t1 (List.mem_of_getElem? (i := 6) (by decide +kernel))
set_option maxRecDepth 1000000 in
theorem cv_7 : (Jvm.Cond.initialized "DoorsForThree$Fairest") ∈ lw_tbl := am_t1 (List.mem_of_getElem? (i := 7) (by decide +kernel))
set_option maxRecDepth 1000000 in
theorem cv_8 : (Jvm.Cond.initialized "DoorsForThree$Signs") ∈ lw_tbl := am_t1 (List.mem_of_getElem? (i := 8) (by decide +kernel))
set_option maxRecDepth 1000000 in
theorem cv_9 : (Jvm.Cond.initialized "DoorsForThree$Deeds") ∈ lw_tbl := am_t1 (List.mem_of_getElem? (i := 9) (by decide +kernel))
set_option maxRecDepth 1000000 in
theorem cv_10 : (Jvm.Cond.initialized "java/util/Arrays") ∈ lw_tbl := am_t1 (List.mem_of_getElem? (i := 10) (by decide +kernel))
set_option maxRecDepth 1000000 in
theorem cv_11 : (Jvm.Cond.initialized "DoorsForThree$Pictures") ∈ lw_tbl := am_t1 (List.mem_of_getElem? (i := 11) (by decide +kernel))
set_option maxRecDepth 1000000 in
theorem cv_12 : (Jvm.Cond.initialized "DoorsForThree$Shelf") ∈ lw_tbl := am_t1 (List.mem_of_getElem? (i := 12) (by decide +kernel))
set_option maxRecDepth 1000000 in
theorem cv_30 : (Jvm.Cond.methodLink "DoorsForThree" (1 : Nat) ({ cls := "java/lang/Object", name := "<init>", desc := "()V" } : Jvm.MethodName)) ∈ lw_tbl := am_t1 (List.mem_of_getElem? (i := 30) (by decide +kernel))
set_option maxRecDepth 1000000 in
theorem cv_33 : (Jvm.Cond.classLink "DoorsForThree" (7 : Nat) "DoorsForThree$Calendar") ∈ lw_tbl := am_t1 (List.mem_of_getElem? (i := 33) (by decide +kernel))
set_option maxRecDepth 1000000 in
theorem cv_34 : (Jvm.Cond.instantiable "DoorsForThree$Calendar" (4 : Nat)) ∈ lw_tbl := am_t1 (List.mem_of_getElem? (i := 34) (by decide +kernel))
set_option maxRecDepth 1000000 in
theorem cv_35 : (Jvm.Cond.methodLink "DoorsForThree" (9 : Nat) ({ cls := "DoorsForThree$Calendar", name := "<init>", desc := "()V" } : Jvm.MethodName)) ∈ lw_tbl := am_t1 (List.mem_of_getElem? (i := 35) (by decide +kernel))
set_option maxRecDepth 1000000 in
theorem cv_36 : (Jvm.Cond.instanceMethod ({ cls := "DoorsForThree$Calendar", name := "<init>", desc := "()V" } : Jvm.MethodName)) ∈ lw_tbl := am_t1 (List.mem_of_getElem? (i := 36) (by decide +kernel))
set_option maxRecDepth 1000000 in
theorem cv_37 : (Jvm.Cond.code ({ cls := "DoorsForThree$Calendar", name := "<init>", desc := "()V" } : Jvm.MethodName) prog_2_method_1_code (1 : Nat) (Option.none : Option Jvm.ClassFile.FieldType)) ∈ lw_tbl := am_t1 (List.mem_of_getElem? (i := 37) (by decide +kernel))
set_option maxRecDepth 1000000 in
theorem cv_65 : (Jvm.Cond.classLink "DoorsForThree" (16 : Nat) "DoorsForThree$Changes") ∈ lw_tbl := am_t1 (List.mem_of_getElem? (i := 65) (by decide +kernel))
set_option maxRecDepth 1000000 in
theorem cv_66 : (Jvm.Cond.instantiable "DoorsForThree$Changes" (3 : Nat)) ∈ lw_tbl := am_t1 (List.mem_of_getElem? (i := 66) (by decide +kernel))
set_option maxRecDepth 1000000 in
theorem cv_67 : (Jvm.Cond.methodLinkNest "DoorsForThree" (18 : Nat) ({ cls := "DoorsForThree$Changes", name := "<init>", desc := "()V" } : Jvm.MethodName) "DoorsForThree") ∈ lw_tbl := am_t1 (List.mem_of_getElem? (i := 67) (by decide +kernel))
set_option maxRecDepth 1000000 in
theorem cv_68 : (Jvm.Cond.instanceMethod ({ cls := "DoorsForThree$Changes", name := "<init>", desc := "()V" } : Jvm.MethodName)) ∈ lw_tbl := am_t1 (List.mem_of_getElem? (i := 68) (by decide +kernel))
set_option maxRecDepth 1000000 in
theorem cv_69 : (Jvm.Cond.code ({ cls := "DoorsForThree$Changes", name := "<init>", desc := "()V" } : Jvm.MethodName) prog_3_method_1_code (1 : Nat) (Option.none : Option Jvm.ClassFile.FieldType)) ∈ lw_tbl := am_t1 (List.mem_of_getElem? (i := 69) (by decide +kernel))
set_option maxRecDepth 1000000 in
theorem cv_82 : (Jvm.Cond.classLink "DoorsForThree" (23 : Nat) "DoorsForThree$Law") ∈ lw_tbl := am_t1 (List.mem_of_getElem? (i := 82) (by decide +kernel))
set_option maxRecDepth 1000000 in
theorem cv_83 : (Jvm.Cond.instantiable "DoorsForThree$Law" (10 : Nat)) ∈ lw_tbl := am_t1 (List.mem_of_getElem? (i := 83) (by decide +kernel))
set_option maxRecDepth 1000000 in
theorem cv_84 : (Jvm.Cond.methodLinkNest "DoorsForThree" (25 : Nat) ({ cls := "DoorsForThree$Law", name := "<init>", desc := "()V" } : Jvm.MethodName) "DoorsForThree") ∈ lw_tbl := am_t1 (List.mem_of_getElem? (i := 84) (by decide +kernel))
set_option maxRecDepth 1000000 in
theorem cv_85 : (Jvm.Cond.instanceMethod ({ cls := "DoorsForThree$Law", name := "<init>", desc := "()V" } : Jvm.MethodName)) ∈ lw_tbl := am_t1 (List.mem_of_getElem? (i := 85) (by decide +kernel))
set_option maxRecDepth 1000000 in
theorem cv_86 : (Jvm.Cond.code ({ cls := "DoorsForThree$Law", name := "<init>", desc := "()V" } : Jvm.MethodName) prog_7_method_1_code (1 : Nat) (Option.none : Option Jvm.ClassFile.FieldType)) ∈ lw_tbl := am_t1 (List.mem_of_getElem? (i := 86) (by decide +kernel))
set_option maxRecDepth 1000000 in
theorem cv_121 : (Jvm.Cond.classLink "DoorsForThree" (30 : Nat) "DoorsForThree$Worths") ∈ lw_tbl := am_t1 (List.mem_of_getElem? (i := 121) (by decide +kernel))
set_option maxRecDepth 1000000 in
theorem cv_122 : (Jvm.Cond.instantiable "DoorsForThree$Worths" (3 : Nat)) ∈ lw_tbl := am_t1 (List.mem_of_getElem? (i := 122) (by decide +kernel))
set_option maxRecDepth 1000000 in
theorem cv_123 : (Jvm.Cond.methodLink "DoorsForThree" (32 : Nat) ({ cls := "DoorsForThree$Worths", name := "<init>", desc := "(LDoorsForThree$Calendar;LDoorsForThree$Law;)V" } : Jvm.MethodName)) ∈ lw_tbl := am_t1 (List.mem_of_getElem? (i := 123) (by decide +kernel))
set_option maxRecDepth 1000000 in
theorem cv_124 : (Jvm.Cond.instanceMethod ({ cls := "DoorsForThree$Worths", name := "<init>", desc := "(LDoorsForThree$Calendar;LDoorsForThree$Law;)V" } : Jvm.MethodName)) ∈ lw_tbl := am_t1 (List.mem_of_getElem? (i := 124) (by decide +kernel))
set_option maxRecDepth 1000000 in
theorem cv_125 : (Jvm.Cond.code ({ cls := "DoorsForThree$Worths", name := "<init>", desc := "(LDoorsForThree$Calendar;LDoorsForThree$Law;)V" } : Jvm.MethodName) prog_11_method_1_code (3 : Nat) (Option.none : Option Jvm.ClassFile.FieldType)) ∈ lw_tbl := am_t1 (List.mem_of_getElem? (i := 125) (by decide +kernel))
set_option maxRecDepth 1000000 in
theorem cv_137 : (Jvm.Cond.classLink "DoorsForThree" (39 : Nat) "DoorsForThree$Givings") ∈ lw_tbl := am_t1 (List.mem_of_getElem? (i := 137) (by decide +kernel))
set_option maxRecDepth 1000000 in
theorem cv_138 : (Jvm.Cond.instantiable "DoorsForThree$Givings" (13 : Nat)) ∈ lw_tbl := am_t1 (List.mem_of_getElem? (i := 138) (by decide +kernel))
set_option maxRecDepth 1000000 in
theorem cv_139 : (Jvm.Cond.methodLink "DoorsForThree" (41 : Nat) ({ cls := "DoorsForThree$Givings", name := "<init>", desc := "(LDoorsForThree$Calendar;LDoorsForThree$Worths;)V" } : Jvm.MethodName)) ∈ lw_tbl := am_t1 (List.mem_of_getElem? (i := 139) (by decide +kernel))
set_option maxRecDepth 1000000 in
theorem cv_140 : (Jvm.Cond.instanceMethod ({ cls := "DoorsForThree$Givings", name := "<init>", desc := "(LDoorsForThree$Calendar;LDoorsForThree$Worths;)V" } : Jvm.MethodName)) ∈ lw_tbl := am_t1 (List.mem_of_getElem? (i := 140) (by decide +kernel))
set_option maxRecDepth 1000000 in
theorem cv_141 : (Jvm.Cond.code ({ cls := "DoorsForThree$Givings", name := "<init>", desc := "(LDoorsForThree$Calendar;LDoorsForThree$Worths;)V" } : Jvm.MethodName) prog_6_method_1_code (3 : Nat) (Option.none : Option Jvm.ClassFile.FieldType)) ∈ lw_tbl := am_t1 (List.mem_of_getElem? (i := 141) (by decide +kernel))
set_option maxRecDepth 1000000 in
theorem cv_186 : (Jvm.Cond.classLink "DoorsForThree" (48 : Nat) "DoorsForThree$Fairest") ∈ lw_tbl := am_t1 (List.mem_of_getElem? (i := 186) (by decide +kernel))
set_option maxRecDepth 1000000 in
theorem cv_187 : (Jvm.Cond.instantiable "DoorsForThree$Fairest" (10 : Nat)) ∈ lw_tbl := am_t1 (List.mem_of_getElem? (i := 187) (by decide +kernel))
set_option maxRecDepth 1000000 in
theorem cv_188 : (Jvm.Cond.methodLink "DoorsForThree" (50 : Nat) ({ cls := "DoorsForThree$Fairest", name := "<init>", desc := "(LDoorsForThree$Calendar;LDoorsForThree$Givings;)V" } : Jvm.MethodName)) ∈ lw_tbl := am_t1 (List.mem_of_getElem? (i := 188) (by decide +kernel))
set_option maxRecDepth 1000000 in
theorem cv_189 : (Jvm.Cond.instanceMethod ({ cls := "DoorsForThree$Fairest", name := "<init>", desc := "(LDoorsForThree$Calendar;LDoorsForThree$Givings;)V" } : Jvm.MethodName)) ∈ lw_tbl := am_t1 (List.mem_of_getElem? (i := 189) (by decide +kernel))
set_option maxRecDepth 1000000 in
theorem cv_190 : (Jvm.Cond.code ({ cls := "DoorsForThree$Fairest", name := "<init>", desc := "(LDoorsForThree$Calendar;LDoorsForThree$Givings;)V" } : Jvm.MethodName) prog_5_method_1_code (3 : Nat) (Option.none : Option Jvm.ClassFile.FieldType)) ∈ lw_tbl := am_t1 (List.mem_of_getElem? (i := 190) (by decide +kernel))
set_option maxRecDepth 1000000 in
theorem cv_227 : (Jvm.Cond.classLink "DoorsForThree" (57 : Nat) "DoorsForThree$Signs") ∈ lw_tbl := am_t1 (List.mem_of_getElem? (i := 227) (by decide +kernel))
set_option maxRecDepth 1000000 in
theorem cv_228 : (Jvm.Cond.instantiable "DoorsForThree$Signs" (2 : Nat)) ∈ lw_tbl := am_t1 (List.mem_of_getElem? (i := 228) (by decide +kernel))
set_option maxRecDepth 1000000 in
theorem cv_229 : (Jvm.Cond.methodLink "DoorsForThree" (59 : Nat) ({ cls := "DoorsForThree$Signs", name := "<init>", desc := "(LDoorsForThree$Calendar;LDoorsForThree$Givings;)V" } : Jvm.MethodName)) ∈ lw_tbl := am_t1 (List.mem_of_getElem? (i := 229) (by decide +kernel))
set_option maxRecDepth 1000000 in
theorem cv_230 : (Jvm.Cond.instanceMethod ({ cls := "DoorsForThree$Signs", name := "<init>", desc := "(LDoorsForThree$Calendar;LDoorsForThree$Givings;)V" } : Jvm.MethodName)) ∈ lw_tbl := am_t1 (List.mem_of_getElem? (i := 230) (by decide +kernel))
set_option maxRecDepth 1000000 in
theorem cv_231 : (Jvm.Cond.code ({ cls := "DoorsForThree$Signs", name := "<init>", desc := "(LDoorsForThree$Calendar;LDoorsForThree$Givings;)V" } : Jvm.MethodName) prog_10_method_1_code (3 : Nat) (Option.none : Option Jvm.ClassFile.FieldType)) ∈ lw_tbl := am_t1 (List.mem_of_getElem? (i := 231) (by decide +kernel))
set_option maxRecDepth 1000000 in
theorem cv_240 : (Jvm.Cond.classLink "DoorsForThree" (64 : Nat) "DoorsForThree$Deeds") ∈ lw_tbl := am_t1 (List.mem_of_getElem? (i := 240) (by decide +kernel))
set_option maxRecDepth 1000000 in
theorem cv_241 : (Jvm.Cond.instantiable "DoorsForThree$Deeds" (12 : Nat)) ∈ lw_tbl := am_t1 (List.mem_of_getElem? (i := 241) (by decide +kernel))
set_option maxRecDepth 1000000 in
theorem cv_242 : (Jvm.Cond.methodLink "DoorsForThree" (66 : Nat) ({ cls := "DoorsForThree$Deeds", name := "<init>", desc := "(LDoorsForThree$Calendar;)V" } : Jvm.MethodName)) ∈ lw_tbl := am_t1 (List.mem_of_getElem? (i := 242) (by decide +kernel))
set_option maxRecDepth 1000000 in
theorem cv_243 : (Jvm.Cond.instanceMethod ({ cls := "DoorsForThree$Deeds", name := "<init>", desc := "(LDoorsForThree$Calendar;)V" } : Jvm.MethodName)) ∈ lw_tbl := am_t1 (List.mem_of_getElem? (i := 243) (by decide +kernel))
set_option maxRecDepth 1000000 in
theorem cv_244 : (Jvm.Cond.code ({ cls := "DoorsForThree$Deeds", name := "<init>", desc := "(LDoorsForThree$Calendar;)V" } : Jvm.MethodName) prog_4_method_1_code (2 : Nat) (Option.none : Option Jvm.ClassFile.FieldType)) ∈ lw_tbl := am_t1 (List.mem_of_getElem? (i := 244) (by decide +kernel))
set_option maxRecDepth 1000000 in
theorem cv_245 : (Jvm.Cond.methodLink "DoorsForThree$Deeds" (3 : Nat) ({ cls := "java/lang/Object", name := "<init>", desc := "()V" } : Jvm.MethodName)) ∈ lw_tbl := am_t1 (List.mem_of_getElem? (i := 245) (by decide +kernel))
set_option maxRecDepth 1000000 in
theorem cv_246 : (Jvm.Cond.methodLink "DoorsForThree$Deeds" (24 : Nat) ({ cls := "java/util/Arrays", name := "fill", desc := "([II)V" } : Jvm.MethodName)) ∈ lw_tbl := am_t1 (List.mem_of_getElem? (i := 246) (by decide +kernel))
set_option maxRecDepth 1000000 in
theorem cv_247 : (Jvm.Cond.static ({ cls := "java/util/Arrays", name := "fill", desc := "([II)V" } : Jvm.MethodName)) ∈ lw_tbl := am_t1 (List.mem_of_getElem? (i := 247) (by decide +kernel))
set_option maxRecDepth 1000000 in
theorem cv_248 : (Jvm.Cond.code ({ cls := "java/util/Arrays", name := "fill", desc := "([II)V" } : Jvm.MethodName) prog_25_method_103_code (4 : Nat) (Option.none : Option Jvm.ClassFile.FieldType)) ∈ lw_tbl := am_t1 (List.mem_of_getElem? (i := 248) (by decide +kernel))
set_option maxRecDepth 1000000 in
theorem cv_249 : (Jvm.Cond.fieldLink "DoorsForThree$Deeds" (20 : Nat) "DoorsForThree$Deeds" "calendar" "LDoorsForThree$Calendar;") ∈ lw_tbl := am_t1 (List.mem_of_getElem? (i := 249) (by decide +kernel))
set_option maxRecDepth 1000000 in
theorem cv_250 : (Jvm.Cond.fieldLink "DoorsForThree$Deeds" (11 : Nat) "DoorsForThree$Deeds" "openers" "[I") ∈ lw_tbl := am_t1 (List.mem_of_getElem? (i := 250) (by decide +kernel))
set_option maxRecDepth 1000000 in
theorem cv_260 : (Jvm.Cond.fieldLink "DoorsForThree$Deeds" (17 : Nat) "DoorsForThree$Deeds" "imageOpeners" "[I") ∈ lw_tbl := am_t1 (List.mem_of_getElem? (i := 260) (by decide +kernel))
set_option maxRecDepth 1000000 in
theorem cv_290 : (Jvm.Cond.classLink "DoorsForThree" (73 : Nat) "DoorsForThree$Pictures") ∈ lw_tbl := am_t1 (List.mem_of_getElem? (i := 290) (by decide +kernel))
set_option maxRecDepth 1000000 in
theorem cv_291 : (Jvm.Cond.instantiable "DoorsForThree$Pictures" (4 : Nat)) ∈ lw_tbl := am_t1 (List.mem_of_getElem? (i := 291) (by decide +kernel))
set_option maxRecDepth 1000000 in
theorem cv_292 : (Jvm.Cond.methodLinkNest "DoorsForThree" (75 : Nat) ({ cls := "DoorsForThree$Pictures", name := "<init>", desc := "()V" } : Jvm.MethodName) "DoorsForThree") ∈ lw_tbl := am_t1 (List.mem_of_getElem? (i := 292) (by decide +kernel))
set_option maxRecDepth 1000000 in
theorem cv_293 : (Jvm.Cond.instanceMethod ({ cls := "DoorsForThree$Pictures", name := "<init>", desc := "()V" } : Jvm.MethodName)) ∈ lw_tbl := am_t1 (List.mem_of_getElem? (i := 293) (by decide +kernel))
set_option maxRecDepth 1000000 in
theorem cv_294 : (Jvm.Cond.code ({ cls := "DoorsForThree$Pictures", name := "<init>", desc := "()V" } : Jvm.MethodName) prog_8_method_1_code (1 : Nat) (Option.none : Option Jvm.ClassFile.FieldType)) ∈ lw_tbl := am_t1 (List.mem_of_getElem? (i := 294) (by decide +kernel))
set_option maxRecDepth 1000000 in
theorem cv_310 : (Jvm.Cond.classLink "DoorsForThree" (80 : Nat) "DoorsForThree$Shelf") ∈ lw_tbl := am_t1 (List.mem_of_getElem? (i := 310) (by decide +kernel))
set_option maxRecDepth 1000000 in
theorem cv_312 : (Jvm.Cond.instantiable "DoorsForThree$Shelf" (5 : Nat)) ∈ lw_tbl := am_t1 (List.mem_of_getElem? (i := 312) (by decide +kernel))
set_option maxRecDepth 1000000 in
theorem cv_313 : (Jvm.Cond.methodLinkNest "DoorsForThree" (86 : Nat) ({ cls := "DoorsForThree$Shelf", name := "<init>", desc := "()V" } : Jvm.MethodName) "DoorsForThree") ∈ lw_tbl := am_t1 (List.mem_of_getElem? (i := 313) (by decide +kernel))
set_option maxRecDepth 1000000 in
theorem cv_314 : (Jvm.Cond.instanceMethod ({ cls := "DoorsForThree$Shelf", name := "<init>", desc := "()V" } : Jvm.MethodName)) ∈ lw_tbl := am_t1 (List.mem_of_getElem? (i := 314) (by decide +kernel))
set_option maxRecDepth 1000000 in
theorem cv_315 : (Jvm.Cond.code ({ cls := "DoorsForThree$Shelf", name := "<init>", desc := "()V" } : Jvm.MethodName) prog_9_method_1_code (1 : Nat) (Option.none : Option Jvm.ClassFile.FieldType)) ∈ lw_tbl := am_t1 (List.mem_of_getElem? (i := 315) (by decide +kernel))
set_option maxRecDepth 1000000 in
theorem cv_334 : (Jvm.Cond.fieldLink "DoorsForThree" (10 : Nat) "DoorsForThree" "calendar" "LDoorsForThree$Calendar;") ∈ lw_tbl := am_t1 (List.mem_of_getElem? (i := 334) (by decide +kernel))
set_option maxRecDepth 1000000 in
theorem cv_335 : (Jvm.Cond.fieldLink "DoorsForThree" (19 : Nat) "DoorsForThree" "changes" "LDoorsForThree$Changes;") ∈ lw_tbl := am_t1 (List.mem_of_getElem? (i := 335) (by decide +kernel))
set_option maxRecDepth 1000000 in
theorem cv_336 : (Jvm.Cond.fieldLink "DoorsForThree" (26 : Nat) "DoorsForThree" "tape" "LDoorsForThree$Law;") ∈ lw_tbl := am_t1 (List.mem_of_getElem? (i := 336) (by decide +kernel))
set_option maxRecDepth 1000000 in
theorem cv_337 : (Jvm.Cond.fieldLink "DoorsForThree" (35 : Nat) "DoorsForThree" "worths" "LDoorsForThree$Worths;") ∈ lw_tbl := am_t1 (List.mem_of_getElem? (i := 337) (by decide +kernel))
set_option maxRecDepth 1000000 in
theorem cv_338 : (Jvm.Cond.fieldLink "DoorsForThree" (44 : Nat) "DoorsForThree" "givings" "LDoorsForThree$Givings;") ∈ lw_tbl := am_t1 (List.mem_of_getElem? (i := 338) (by decide +kernel))
set_option maxRecDepth 1000000 in
theorem cv_339 : (Jvm.Cond.fieldLink "DoorsForThree" (53 : Nat) "DoorsForThree" "search" "LDoorsForThree$Fairest;") ∈ lw_tbl := am_t1 (List.mem_of_getElem? (i := 339) (by decide +kernel))
set_option maxRecDepth 1000000 in
theorem cv_340 : (Jvm.Cond.fieldLink "DoorsForThree" (60 : Nat) "DoorsForThree" "signs" "LDoorsForThree$Signs;") ∈ lw_tbl := am_t1 (List.mem_of_getElem? (i := 340) (by decide +kernel))
set_option maxRecDepth 1000000 in
theorem cv_341 : (Jvm.Cond.fieldLink "DoorsForThree" (69 : Nat) "DoorsForThree" "deeds" "LDoorsForThree$Deeds;") ∈ lw_tbl := am_t1 (List.mem_of_getElem? (i := 341) (by decide +kernel))
set_option maxRecDepth 1000000 in
theorem cv_342 : (Jvm.Cond.fieldLink "DoorsForThree" (76 : Nat) "DoorsForThree" "pictures" "LDoorsForThree$Pictures;") ∈ lw_tbl := am_t1 (List.mem_of_getElem? (i := 342) (by decide +kernel))
set_option maxRecDepth 1000000 in
theorem cv_343 : (Jvm.Cond.fieldLink "DoorsForThree" (82 : Nat) "DoorsForThree" "shelves" "[LDoorsForThree$Shelf;") ∈ lw_tbl := am_t1 (List.mem_of_getElem? (i := 343) (by decide +kernel))
theorem dJ7_fill_53178_0 : decode cJ7_fill_53178 0 = .ok (.iconst 0, 1) := by decide +kernel
theorem dJ7_fill_53178_1 : decode cJ7_fill_53178 1 = .ok (.istore_n 2, 1) := by decide +kernel
theorem dJ7_fill_53178_2 : decode cJ7_fill_53178 2 = .ok (.aload_n 0, 1) := by decide +kernel
theorem dJ7_fill_53178_3 : decode cJ7_fill_53178 3 = .ok (.arraylength, 1) := by decide +kernel
theorem dJ7_fill_53178_4 : decode cJ7_fill_53178 4 = .ok (.istore_n 3, 1) := by decide +kernel
theorem dJ7_fill_53178_5 : decode cJ7_fill_53178 5 = .ok (.iload_n 2, 1) := by decide +kernel
theorem dJ7_fill_53178_6 : decode cJ7_fill_53178 6 = .ok (.iload_n 3, 1) := by decide +kernel
theorem dJ7_fill_53178_7 : decode cJ7_fill_53178 7 = .ok (.if_icmp .ge 13, 3) := by decide +kernel
theorem dJ7_fill_53178_10 : decode cJ7_fill_53178 10 = .ok (.aload_n 0, 1) := by decide +kernel
theorem dJ7_fill_53178_11 : decode cJ7_fill_53178 11 = .ok (.iload_n 2, 1) := by decide +kernel
theorem dJ7_fill_53178_12 : decode cJ7_fill_53178 12 = .ok (.iload_n 1, 1) := by decide +kernel
theorem dJ7_fill_53178_13 : decode cJ7_fill_53178 13 = .ok (.iastore, 1) := by decide +kernel
theorem dJ7_fill_53178_14 : decode cJ7_fill_53178 14 = .ok (.iinc 2 1, 3) := by decide +kernel
theorem dJ7_fill_53178_17 : decode cJ7_fill_53178 17 = .ok (.goto (-12), 3) := by decide +kernel
theorem dJ7_fill_53178_20 : decode cJ7_fill_53178 20 = .ok (.return_, 1) := by decide +kernel
theorem dX2_init_0 : decode cX2_init 0 = .ok (.aload_n 0, 1) := by decide +kernel
theorem dX2_init_1 : decode cX2_init 1 = .ok (.invokespecial 3, 3) := by decide +kernel
theorem dX2_init_4 : decode cX2_init 4 = .ok (.aload_n 0, 1) := by decide +kernel
theorem dX2_init_5 : decode cX2_init 5 = .ok (.bipush 12, 2) := by decide +kernel
theorem dX2_init_7 : decode cX2_init 7 = .ok (.newarray .int, 2) := by decide +kernel
theorem dX2_init_9 : decode cX2_init 9 = .ok (.putfield 11, 3) := by decide +kernel
theorem dX2_init_12 : decode cX2_init 12 = .ok (.aload_n 0, 1) := by decide +kernel
theorem dX2_init_13 : decode cX2_init 13 = .ok (.bipush 12, 2) := by decide +kernel
theorem dX2_init_15 : decode cX2_init 15 = .ok (.newarray .int, 2) := by decide +kernel
theorem dX2_init_17 : decode cX2_init 17 = .ok (.putfield 17, 3) := by decide +kernel
theorem dX2_init_20 : decode cX2_init 20 = .ok (.aload_n 0, 1) := by decide +kernel
theorem dX2_init_21 : decode cX2_init 21 = .ok (.aload_n 1, 1) := by decide +kernel
theorem dX2_init_22 : decode cX2_init 22 = .ok (.putfield 20, 3) := by decide +kernel
theorem dX2_init_25 : decode cX2_init 25 = .ok (.aload_n 0, 1) := by decide +kernel
theorem dX2_init_26 : decode cX2_init 26 = .ok (.getfield 11, 3) := by decide +kernel
theorem dX2_init_29 : decode cX2_init 29 = .ok (.bipush (-2), 2) := by decide +kernel
theorem dX2_init_31 : decode cX2_init 31 = .ok (.invokestatic 24, 3) := by decide +kernel
theorem dX2_init_34 : decode cX2_init 34 = .ok (.return_, 1) := by decide +kernel
theorem dX10_init_0 : decode cX10_init 0 = .ok (.aload_n 0, 1) := by decide +kernel
theorem dX10_init_1 : decode cX10_init 1 = .ok (.invokespecial 1, 3) := by decide +kernel
theorem dX10_init_4 : decode cX10_init 4 = .ok (.aload_n 0, 1) := by decide +kernel
theorem dX10_init_5 : decode cX10_init 5 = .ok (.new 7, 3) := by decide +kernel
theorem dX10_init_8 : decode cX10_init 8 = .ok (.dup, 1) := by decide +kernel
theorem dX10_init_9 : decode cX10_init 9 = .ok (.invokespecial 9, 3) := by decide +kernel
theorem dX10_init_12 : decode cX10_init 12 = .ok (.putfield 10, 3) := by decide +kernel
theorem dX10_init_15 : decode cX10_init 15 = .ok (.aload_n 0, 1) := by decide +kernel
theorem dX10_init_16 : decode cX10_init 16 = .ok (.new 16, 3) := by decide +kernel
theorem dX10_init_19 : decode cX10_init 19 = .ok (.dup, 1) := by decide +kernel
theorem dX10_init_20 : decode cX10_init 20 = .ok (.invokespecial 18, 3) := by decide +kernel
theorem dX10_init_23 : decode cX10_init 23 = .ok (.putfield 19, 3) := by decide +kernel
theorem dX10_init_26 : decode cX10_init 26 = .ok (.aload_n 0, 1) := by decide +kernel
theorem dX10_init_27 : decode cX10_init 27 = .ok (.new 23, 3) := by decide +kernel
theorem dX10_init_30 : decode cX10_init 30 = .ok (.dup, 1) := by decide +kernel
theorem dX10_init_31 : decode cX10_init 31 = .ok (.invokespecial 25, 3) := by decide +kernel
theorem dX10_init_34 : decode cX10_init 34 = .ok (.putfield 26, 3) := by decide +kernel
theorem dX10_init_37 : decode cX10_init 37 = .ok (.aload_n 0, 1) := by decide +kernel
theorem dX10_init_38 : decode cX10_init 38 = .ok (.new 30, 3) := by decide +kernel
theorem dX10_init_41 : decode cX10_init 41 = .ok (.dup, 1) := by decide +kernel
theorem dX10_init_42 : decode cX10_init 42 = .ok (.aload_n 0, 1) := by decide +kernel
theorem dX10_init_43 : decode cX10_init 43 = .ok (.getfield 10, 3) := by decide +kernel
theorem dX10_init_46 : decode cX10_init 46 = .ok (.aload_n 0, 1) := by decide +kernel
theorem dX10_init_47 : decode cX10_init 47 = .ok (.getfield 26, 3) := by decide +kernel
theorem dX10_init_50 : decode cX10_init 50 = .ok (.invokespecial 32, 3) := by decide +kernel
theorem dX10_init_53 : decode cX10_init 53 = .ok (.putfield 35, 3) := by decide +kernel
theorem dX10_init_56 : decode cX10_init 56 = .ok (.aload_n 0, 1) := by decide +kernel
theorem dX10_init_57 : decode cX10_init 57 = .ok (.new 39, 3) := by decide +kernel
theorem dX10_init_60 : decode cX10_init 60 = .ok (.dup, 1) := by decide +kernel
theorem dX10_init_61 : decode cX10_init 61 = .ok (.aload_n 0, 1) := by decide +kernel
theorem dX10_init_62 : decode cX10_init 62 = .ok (.getfield 10, 3) := by decide +kernel
theorem dX10_init_65 : decode cX10_init 65 = .ok (.aload_n 0, 1) := by decide +kernel
theorem dX10_init_66 : decode cX10_init 66 = .ok (.getfield 35, 3) := by decide +kernel
theorem dX10_init_69 : decode cX10_init 69 = .ok (.invokespecial 41, 3) := by decide +kernel
theorem dX10_init_72 : decode cX10_init 72 = .ok (.putfield 44, 3) := by decide +kernel
theorem dX10_init_75 : decode cX10_init 75 = .ok (.aload_n 0, 1) := by decide +kernel
theorem dX10_init_76 : decode cX10_init 76 = .ok (.new 48, 3) := by decide +kernel
theorem dX10_init_79 : decode cX10_init 79 = .ok (.dup, 1) := by decide +kernel
theorem dX10_init_80 : decode cX10_init 80 = .ok (.aload_n 0, 1) := by decide +kernel
theorem dX10_init_81 : decode cX10_init 81 = .ok (.getfield 10, 3) := by decide +kernel
theorem dX10_init_84 : decode cX10_init 84 = .ok (.aload_n 0, 1) := by decide +kernel
theorem dX10_init_85 : decode cX10_init 85 = .ok (.getfield 44, 3) := by decide +kernel
theorem dX10_init_88 : decode cX10_init 88 = .ok (.invokespecial 50, 3) := by decide +kernel
theorem dX10_init_91 : decode cX10_init 91 = .ok (.putfield 53, 3) := by decide +kernel
theorem dX10_init_94 : decode cX10_init 94 = .ok (.aload_n 0, 1) := by decide +kernel
theorem dX10_init_95 : decode cX10_init 95 = .ok (.new 57, 3) := by decide +kernel
theorem dX10_init_98 : decode cX10_init 98 = .ok (.dup, 1) := by decide +kernel
theorem dX10_init_99 : decode cX10_init 99 = .ok (.aload_n 0, 1) := by decide +kernel
theorem dX10_init_100 : decode cX10_init 100 = .ok (.getfield 10, 3) := by decide +kernel
theorem dX10_init_103 : decode cX10_init 103 = .ok (.aload_n 0, 1) := by decide +kernel
theorem dX10_init_104 : decode cX10_init 104 = .ok (.getfield 44, 3) := by decide +kernel
theorem dX10_init_107 : decode cX10_init 107 = .ok (.invokespecial 59, 3) := by decide +kernel
theorem dX10_init_110 : decode cX10_init 110 = .ok (.putfield 60, 3) := by decide +kernel
theorem dX10_init_113 : decode cX10_init 113 = .ok (.aload_n 0, 1) := by decide +kernel
theorem dX10_init_114 : decode cX10_init 114 = .ok (.new 64, 3) := by decide +kernel
theorem dX10_init_117 : decode cX10_init 117 = .ok (.dup, 1) := by decide +kernel
theorem dX10_init_118 : decode cX10_init 118 = .ok (.aload_n 0, 1) := by decide +kernel
theorem dX10_init_119 : decode cX10_init 119 = .ok (.getfield 10, 3) := by decide +kernel
theorem dX10_init_122 : decode cX10_init 122 = .ok (.invokespecial 66, 3) := by decide +kernel
theorem dX10_init_125 : decode cX10_init 125 = .ok (.putfield 69, 3) := by decide +kernel
theorem dX10_init_128 : decode cX10_init 128 = .ok (.aload_n 0, 1) := by decide +kernel
theorem dX10_init_129 : decode cX10_init 129 = .ok (.new 73, 3) := by decide +kernel
theorem dX10_init_132 : decode cX10_init 132 = .ok (.dup, 1) := by decide +kernel
theorem dX10_init_133 : decode cX10_init 133 = .ok (.invokespecial 75, 3) := by decide +kernel
theorem dX10_init_136 : decode cX10_init 136 = .ok (.putfield 76, 3) := by decide +kernel
theorem dX10_init_139 : decode cX10_init 139 = .ok (.aload_n 0, 1) := by decide +kernel
theorem dX10_init_140 : decode cX10_init 140 = .ok (.bipush 6, 2) := by decide +kernel
theorem dX10_init_142 : decode cX10_init 142 = .ok (.anewarray 80, 3) := by decide +kernel
theorem dX10_init_145 : decode cX10_init 145 = .ok (.putfield 82, 3) := by decide +kernel
theorem dX10_init_148 : decode cX10_init 148 = .ok (.iconst 0, 1) := by decide +kernel
theorem dX10_init_149 : decode cX10_init 149 = .ok (.istore_n 1, 1) := by decide +kernel
theorem dX10_init_150 : decode cX10_init 150 = .ok (.iload_n 1, 1) := by decide +kernel
theorem dX10_init_151 : decode cX10_init 151 = .ok (.aload_n 0, 1) := by decide +kernel
theorem dX10_init_152 : decode cX10_init 152 = .ok (.getfield 82, 3) := by decide +kernel
theorem dX10_init_155 : decode cX10_init 155 = .ok (.arraylength, 1) := by decide +kernel
theorem dX10_init_156 : decode cX10_init 156 = .ok (.if_icmp .ge 22, 3) := by decide +kernel
theorem dX10_init_159 : decode cX10_init 159 = .ok (.aload_n 0, 1) := by decide +kernel
theorem dX10_init_160 : decode cX10_init 160 = .ok (.getfield 82, 3) := by decide +kernel
theorem dX10_init_163 : decode cX10_init 163 = .ok (.iload_n 1, 1) := by decide +kernel
theorem dX10_init_164 : decode cX10_init 164 = .ok (.new 80, 3) := by decide +kernel
theorem dX10_init_167 : decode cX10_init 167 = .ok (.dup, 1) := by decide +kernel
theorem dX10_init_168 : decode cX10_init 168 = .ok (.invokespecial 86, 3) := by decide +kernel
theorem dX10_init_171 : decode cX10_init 171 = .ok (.aastore, 1) := by decide +kernel
theorem dX10_init_172 : decode cX10_init 172 = .ok (.iinc 1 1, 3) := by decide +kernel
theorem dX10_init_175 : decode cX10_init 175 = .ok (.goto (-25), 3) := by decide +kernel
theorem dX10_init_178 : decode cX10_init 178 = .ok (.return_, 1) := by decide +kernel
section SP85
variable {l : Launch} {G : am_G} {B : Nat} {mi : am_MI} {ml : am_ML}
theorem ct_fill_60 (hG : cm_ad G B) : cm_met l G B yJ7_fill_53178 cJ7_fill_53178 4 1 0 0 [.ref (G.1 60), .int (-2)] 62 mi ml 62 (am_ui (am_ui (am_ui (am_ui (am_ui (am_ui (am_ui (am_ui (am_ui (am_ui (am_ui (am_ui mi 60 0 (-2)) 60 1 (-2)) 60 2 (-2)) 60 3 (-2)) 60 4 (-2)) 60 5 (-2)) 60 6 (-2)) 60 7 (-2)) 60 8 (-2)) 60 9 (-2)) 60 10 (-2)) 60 11 (-2)) ml := by
  refine Met.ofW (cc := cJ7_fill_53178) (maxL := 4) (ret := none) (by decide) rfl ?_
  intro p e s m args below meth c s1 Bd hml hv
  obtain ⟨rfl, g1, hK, hX⟩ := hv
  have F : cm_fr p s m _ meth c G yJ7_fill_53178 cJ7_fill_53178 4 none := ⟨Bd.exec, Bd.bytes, hml, Bd.returns, Bd.notSynchronized, fun w hw => atoms_spec (ws := cm_ws yJ7_fill_53178 cJ7_fill_53178 4) Bd.pre w (List.mem_cons_of_mem _ hw), findClass_of_methodNamed Bd.named, (name_of_methodNamed Bd.named Bd.method).1, hK, hX⟩
  have hx := F.1
  have hb := F.2.1
  have hB : B ≤ s.heap.size := by
    rw [g1.2.1]
    exact Nat.le_add_right _ _
  have hl := lv_entry ([.ref (G.1 60), .int (-2)]) (n := 4) (Nat.le_of_ble_eq_true rfl)
  rw [lg_entry_eq]
  generalize (lg_sl ([.ref (G.1 60), .int (-2)]) ++ List.replicate (4 - (lg_sl ([.ref (G.1 60), .int (-2)])).length) Slot.unset).toArray = ls at hl ⊢
  have hl : lv_has ls 4 [(0, .ref (G.1 60)), (1, .int (-2))] := hl
  refine (?_ : cm_go p l e _ s m _ below meth c _ G B 0 ls [] 62 mi ml 0 0) s.heap [] g1 va_S.rf
  refine cq_pure (fun H locs => lv_iconst (v := (0 : Int32)) hx hb dJ7_fill_53178_0 rfl) ?_
  refine cq_istn F (lv2 := [(2, .int 0), (0, .ref (G.1 60)), (1, .int (-2))]) hl (by decide) rfl dJ7_fill_53178_1 (fun ls hl => ?_)
  refine cq_pure (fun H locs => lv_aload_n hx hb dJ7_fill_53178_2 rfl (lv_at hl 1 rfl)) ?_
  refine cq_aleni F (a := 60) rfl (by decide) dJ7_fill_53178_3 ?_
  refine cq_istn F (lv2 := [(3, .int 12), (2, .int 0), (0, .ref (G.1 60)), (1, .int (-2))]) hl (by decide) rfl dJ7_fill_53178_4 (fun ls hl => ?_)
  refine cq_pure (fun H locs => lv_iload_n hx hb dJ7_fill_53178_5 rfl (lv_at hl 1 rfl)) ?_
  refine cq_pure (fun H locs => lv_iload_n hx hb dJ7_fill_53178_6 rfl (lv_at hl 0 rfl)) ?_
  refine cq_icn F (tgt := 20) (by decide) dJ7_fill_53178_7 rfl ?_
  refine cq_pure (fun H locs => lv_aload_n hx hb dJ7_fill_53178_10 rfl (lv_at hl 2 rfl)) ?_
  refine cq_pure (fun H locs => lv_iload_n hx hb dJ7_fill_53178_11 rfl (lv_at hl 1 rfl)) ?_
  refine cq_pure (fun H locs => lv_iload_n hx hb dJ7_fill_53178_12 rfl (lv_at hl 3 rfl)) ?_
  refine cq_iast F hG (a := 60) rfl (by decide) (cq_vp (k := 0) rfl (by decide) (by decide)) dJ7_fill_53178_13 ?_
  refine cq_iinc F (k := 1) (x := 0) (v := 1) (lv2 := [(2, .int 1), (3, .int 12), (0, .ref (G.1 60)), (1, .int (-2))]) hl rfl rfl (by decide) rfl dJ7_fill_53178_14 (fun ls hl => ?_)
  refine cq_pure (fun H locs => lv_goto (tgt := 5) hx hb dJ7_fill_53178_17 rfl) ?_
  refine cq_pure (fun H locs => lv_iload_n hx hb dJ7_fill_53178_5 rfl (lv_at hl 0 rfl)) ?_
  refine cq_pure (fun H locs => lv_iload_n hx hb dJ7_fill_53178_6 rfl (lv_at hl 1 rfl)) ?_
  refine cq_icn F (tgt := 20) (by decide) dJ7_fill_53178_7 rfl ?_
  refine cq_pure (fun H locs => lv_aload_n hx hb dJ7_fill_53178_10 rfl (lv_at hl 2 rfl)) ?_
  refine cq_pure (fun H locs => lv_iload_n hx hb dJ7_fill_53178_11 rfl (lv_at hl 0 rfl)) ?_
  refine cq_pure (fun H locs => lv_iload_n hx hb dJ7_fill_53178_12 rfl (lv_at hl 3 rfl)) ?_
  refine cq_iast F hG (a := 60) rfl (by decide) (cq_vp (k := 1) rfl (by decide) (by decide)) dJ7_fill_53178_13 ?_
  refine cq_iinc F (k := 0) (x := 1) (v := 2) (lv2 := [(2, .int 2), (3, .int 12), (0, .ref (G.1 60)), (1, .int (-2))]) hl rfl rfl (by decide) rfl dJ7_fill_53178_14 (fun ls hl => ?_)
  refine cq_pure (fun H locs => lv_goto (tgt := 5) hx hb dJ7_fill_53178_17 rfl) ?_
  refine cq_pure (fun H locs => lv_iload_n hx hb dJ7_fill_53178_5 rfl (lv_at hl 0 rfl)) ?_
  refine cq_pure (fun H locs => lv_iload_n hx hb dJ7_fill_53178_6 rfl (lv_at hl 1 rfl)) ?_
  refine cq_icn F (tgt := 20) (by decide) dJ7_fill_53178_7 rfl ?_
  refine cq_pure (fun H locs => lv_aload_n hx hb dJ7_fill_53178_10 rfl (lv_at hl 2 rfl)) ?_
  refine cq_pure (fun H locs => lv_iload_n hx hb dJ7_fill_53178_11 rfl (lv_at hl 0 rfl)) ?_
  refine cq_pure (fun H locs => lv_iload_n hx hb dJ7_fill_53178_12 rfl (lv_at hl 3 rfl)) ?_
  refine cq_iast F hG (a := 60) rfl (by decide) (cq_vp (k := 2) rfl (by decide) (by decide)) dJ7_fill_53178_13 ?_
  refine cq_iinc F (k := 0) (x := 2) (v := 3) (lv2 := [(2, .int 3), (3, .int 12), (0, .ref (G.1 60)), (1, .int (-2))]) hl rfl rfl (by decide) rfl dJ7_fill_53178_14 (fun ls hl => ?_)
  refine cq_pure (fun H locs => lv_goto (tgt := 5) hx hb dJ7_fill_53178_17 rfl) ?_
  refine cq_pure (fun H locs => lv_iload_n hx hb dJ7_fill_53178_5 rfl (lv_at hl 0 rfl)) ?_
  refine cq_pure (fun H locs => lv_iload_n hx hb dJ7_fill_53178_6 rfl (lv_at hl 1 rfl)) ?_
  refine cq_icn F (tgt := 20) (by decide) dJ7_fill_53178_7 rfl ?_
  refine cq_pure (fun H locs => lv_aload_n hx hb dJ7_fill_53178_10 rfl (lv_at hl 2 rfl)) ?_
  refine cq_pure (fun H locs => lv_iload_n hx hb dJ7_fill_53178_11 rfl (lv_at hl 0 rfl)) ?_
  refine cq_pure (fun H locs => lv_iload_n hx hb dJ7_fill_53178_12 rfl (lv_at hl 3 rfl)) ?_
  refine cq_iast F hG (a := 60) rfl (by decide) (cq_vp (k := 3) rfl (by decide) (by decide)) dJ7_fill_53178_13 ?_
  refine cq_iinc F (k := 0) (x := 3) (v := 4) (lv2 := [(2, .int 4), (3, .int 12), (0, .ref (G.1 60)), (1, .int (-2))]) hl rfl rfl (by decide) rfl dJ7_fill_53178_14 (fun ls hl => ?_)
  refine cq_pure (fun H locs => lv_goto (tgt := 5) hx hb dJ7_fill_53178_17 rfl) ?_
  refine cq_pure (fun H locs => lv_iload_n hx hb dJ7_fill_53178_5 rfl (lv_at hl 0 rfl)) ?_
  refine cq_pure (fun H locs => lv_iload_n hx hb dJ7_fill_53178_6 rfl (lv_at hl 1 rfl)) ?_
  refine cq_icn F (tgt := 20) (by decide) dJ7_fill_53178_7 rfl ?_
  refine cq_pure (fun H locs => lv_aload_n hx hb dJ7_fill_53178_10 rfl (lv_at hl 2 rfl)) ?_
  refine cq_pure (fun H locs => lv_iload_n hx hb dJ7_fill_53178_11 rfl (lv_at hl 0 rfl)) ?_
  refine cq_pure (fun H locs => lv_iload_n hx hb dJ7_fill_53178_12 rfl (lv_at hl 3 rfl)) ?_
  refine cq_iast F hG (a := 60) rfl (by decide) (cq_vp (k := 4) rfl (by decide) (by decide)) dJ7_fill_53178_13 ?_
  refine cq_iinc F (k := 0) (x := 4) (v := 5) (lv2 := [(2, .int 5), (3, .int 12), (0, .ref (G.1 60)), (1, .int (-2))]) hl rfl rfl (by decide) rfl dJ7_fill_53178_14 (fun ls hl => ?_)
  refine cq_pure (fun H locs => lv_goto (tgt := 5) hx hb dJ7_fill_53178_17 rfl) ?_
  refine cq_pure (fun H locs => lv_iload_n hx hb dJ7_fill_53178_5 rfl (lv_at hl 0 rfl)) ?_
  refine cq_pure (fun H locs => lv_iload_n hx hb dJ7_fill_53178_6 rfl (lv_at hl 1 rfl)) ?_
  refine cq_icn F (tgt := 20) (by decide) dJ7_fill_53178_7 rfl ?_
  refine cq_pure (fun H locs => lv_aload_n hx hb dJ7_fill_53178_10 rfl (lv_at hl 2 rfl)) ?_
  refine cq_pure (fun H locs => lv_iload_n hx hb dJ7_fill_53178_11 rfl (lv_at hl 0 rfl)) ?_
  refine cq_pure (fun H locs => lv_iload_n hx hb dJ7_fill_53178_12 rfl (lv_at hl 3 rfl)) ?_
  refine cq_iast F hG (a := 60) rfl (by decide) (cq_vp (k := 5) rfl (by decide) (by decide)) dJ7_fill_53178_13 ?_
  refine cq_iinc F (k := 0) (x := 5) (v := 6) (lv2 := [(2, .int 6), (3, .int 12), (0, .ref (G.1 60)), (1, .int (-2))]) hl rfl rfl (by decide) rfl dJ7_fill_53178_14 (fun ls hl => ?_)
  refine cq_pure (fun H locs => lv_goto (tgt := 5) hx hb dJ7_fill_53178_17 rfl) ?_
  refine cq_pure (fun H locs => lv_iload_n hx hb dJ7_fill_53178_5 rfl (lv_at hl 0 rfl)) ?_
  refine cq_pure (fun H locs => lv_iload_n hx hb dJ7_fill_53178_6 rfl (lv_at hl 1 rfl)) ?_
  refine cq_icn F (tgt := 20) (by decide) dJ7_fill_53178_7 rfl ?_
  refine cq_pure (fun H locs => lv_aload_n hx hb dJ7_fill_53178_10 rfl (lv_at hl 2 rfl)) ?_
  refine cq_pure (fun H locs => lv_iload_n hx hb dJ7_fill_53178_11 rfl (lv_at hl 0 rfl)) ?_
  refine cq_pure (fun H locs => lv_iload_n hx hb dJ7_fill_53178_12 rfl (lv_at hl 3 rfl)) ?_
  refine cq_iast F hG (a := 60) rfl (by decide) (cq_vp (k := 6) rfl (by decide) (by decide)) dJ7_fill_53178_13 ?_
  refine cq_iinc F (k := 0) (x := 6) (v := 7) (lv2 := [(2, .int 7), (3, .int 12), (0, .ref (G.1 60)), (1, .int (-2))]) hl rfl rfl (by decide) rfl dJ7_fill_53178_14 (fun ls hl => ?_)
  refine cq_pure (fun H locs => lv_goto (tgt := 5) hx hb dJ7_fill_53178_17 rfl) ?_
  refine cq_pure (fun H locs => lv_iload_n hx hb dJ7_fill_53178_5 rfl (lv_at hl 0 rfl)) ?_
  refine cq_pure (fun H locs => lv_iload_n hx hb dJ7_fill_53178_6 rfl (lv_at hl 1 rfl)) ?_
  refine cq_icn F (tgt := 20) (by decide) dJ7_fill_53178_7 rfl ?_
  refine cq_pure (fun H locs => lv_aload_n hx hb dJ7_fill_53178_10 rfl (lv_at hl 2 rfl)) ?_
  refine cq_pure (fun H locs => lv_iload_n hx hb dJ7_fill_53178_11 rfl (lv_at hl 0 rfl)) ?_
  refine cq_pure (fun H locs => lv_iload_n hx hb dJ7_fill_53178_12 rfl (lv_at hl 3 rfl)) ?_
  refine cq_iast F hG (a := 60) rfl (by decide) (cq_vp (k := 7) rfl (by decide) (by decide)) dJ7_fill_53178_13 ?_
  refine cq_iinc F (k := 0) (x := 7) (v := 8) (lv2 := [(2, .int 8), (3, .int 12), (0, .ref (G.1 60)), (1, .int (-2))]) hl rfl rfl (by decide) rfl dJ7_fill_53178_14 (fun ls hl => ?_)
  refine cq_pure (fun H locs => lv_goto (tgt := 5) hx hb dJ7_fill_53178_17 rfl) ?_
  refine cq_pure (fun H locs => lv_iload_n hx hb dJ7_fill_53178_5 rfl (lv_at hl 0 rfl)) ?_
  refine cq_pure (fun H locs => lv_iload_n hx hb dJ7_fill_53178_6 rfl (lv_at hl 1 rfl)) ?_
  refine cq_icn F (tgt := 20) (by decide) dJ7_fill_53178_7 rfl ?_
  refine cq_pure (fun H locs => lv_aload_n hx hb dJ7_fill_53178_10 rfl (lv_at hl 2 rfl)) ?_
  refine cq_pure (fun H locs => lv_iload_n hx hb dJ7_fill_53178_11 rfl (lv_at hl 0 rfl)) ?_
  refine cq_pure (fun H locs => lv_iload_n hx hb dJ7_fill_53178_12 rfl (lv_at hl 3 rfl)) ?_
  refine cq_iast F hG (a := 60) rfl (by decide) (cq_vp (k := 8) rfl (by decide) (by decide)) dJ7_fill_53178_13 ?_
  refine cq_iinc F (k := 0) (x := 8) (v := 9) (lv2 := [(2, .int 9), (3, .int 12), (0, .ref (G.1 60)), (1, .int (-2))]) hl rfl rfl (by decide) rfl dJ7_fill_53178_14 (fun ls hl => ?_)
  refine cq_pure (fun H locs => lv_goto (tgt := 5) hx hb dJ7_fill_53178_17 rfl) ?_
  refine cq_pure (fun H locs => lv_iload_n hx hb dJ7_fill_53178_5 rfl (lv_at hl 0 rfl)) ?_
  refine cq_pure (fun H locs => lv_iload_n hx hb dJ7_fill_53178_6 rfl (lv_at hl 1 rfl)) ?_
  refine cq_icn F (tgt := 20) (by decide) dJ7_fill_53178_7 rfl ?_
  refine cq_pure (fun H locs => lv_aload_n hx hb dJ7_fill_53178_10 rfl (lv_at hl 2 rfl)) ?_
  refine cq_pure (fun H locs => lv_iload_n hx hb dJ7_fill_53178_11 rfl (lv_at hl 0 rfl)) ?_
  refine cq_pure (fun H locs => lv_iload_n hx hb dJ7_fill_53178_12 rfl (lv_at hl 3 rfl)) ?_
  refine cq_iast F hG (a := 60) rfl (by decide) (cq_vp (k := 9) rfl (by decide) (by decide)) dJ7_fill_53178_13 ?_
  refine cq_iinc F (k := 0) (x := 9) (v := 10) (lv2 := [(2, .int 10), (3, .int 12), (0, .ref (G.1 60)), (1, .int (-2))]) hl rfl rfl (by decide) rfl dJ7_fill_53178_14 (fun ls hl => ?_)
  refine cq_pure (fun H locs => lv_goto (tgt := 5) hx hb dJ7_fill_53178_17 rfl) ?_
  refine cq_pure (fun H locs => lv_iload_n hx hb dJ7_fill_53178_5 rfl (lv_at hl 0 rfl)) ?_
  refine cq_pure (fun H locs => lv_iload_n hx hb dJ7_fill_53178_6 rfl (lv_at hl 1 rfl)) ?_
  refine cq_icn F (tgt := 20) (by decide) dJ7_fill_53178_7 rfl ?_
  refine cq_pure (fun H locs => lv_aload_n hx hb dJ7_fill_53178_10 rfl (lv_at hl 2 rfl)) ?_
  refine cq_pure (fun H locs => lv_iload_n hx hb dJ7_fill_53178_11 rfl (lv_at hl 0 rfl)) ?_
  refine cq_pure (fun H locs => lv_iload_n hx hb dJ7_fill_53178_12 rfl (lv_at hl 3 rfl)) ?_
  refine cq_iast F hG (a := 60) rfl (by decide) (cq_vp (k := 10) rfl (by decide) (by decide)) dJ7_fill_53178_13 ?_
  refine cq_iinc F (k := 0) (x := 10) (v := 11) (lv2 := [(2, .int 11), (3, .int 12), (0, .ref (G.1 60)), (1, .int (-2))]) hl rfl rfl (by decide) rfl dJ7_fill_53178_14 (fun ls hl => ?_)
  refine cq_pure (fun H locs => lv_goto (tgt := 5) hx hb dJ7_fill_53178_17 rfl) ?_
  refine cq_pure (fun H locs => lv_iload_n hx hb dJ7_fill_53178_5 rfl (lv_at hl 0 rfl)) ?_
  refine cq_pure (fun H locs => lv_iload_n hx hb dJ7_fill_53178_6 rfl (lv_at hl 1 rfl)) ?_
  refine cq_icn F (tgt := 20) (by decide) dJ7_fill_53178_7 rfl ?_
  refine cq_pure (fun H locs => lv_aload_n hx hb dJ7_fill_53178_10 rfl (lv_at hl 2 rfl)) ?_
  refine cq_pure (fun H locs => lv_iload_n hx hb dJ7_fill_53178_11 rfl (lv_at hl 0 rfl)) ?_
  refine cq_pure (fun H locs => lv_iload_n hx hb dJ7_fill_53178_12 rfl (lv_at hl 3 rfl)) ?_
  refine cq_iast F hG (a := 60) rfl (by decide) (cq_vp (k := 11) rfl (by decide) (by decide)) dJ7_fill_53178_13 ?_
  refine cq_iinc F (k := 0) (x := 11) (v := 12) (lv2 := [(2, .int 12), (3, .int 12), (0, .ref (G.1 60)), (1, .int (-2))]) hl rfl rfl (by decide) rfl dJ7_fill_53178_14 (fun ls hl => ?_)
  refine cq_pure (fun H locs => lv_goto (tgt := 5) hx hb dJ7_fill_53178_17 rfl) ?_
  refine cq_pure (fun H locs => lv_iload_n hx hb dJ7_fill_53178_5 rfl (lv_at hl 0 rfl)) ?_
  refine cq_pure (fun H locs => lv_iload_n hx hb dJ7_fill_53178_6 rfl (lv_at hl 1 rfl)) ?_
  refine cq_icy F (tgt := 20) (by decide) dJ7_fill_53178_7 rfl ?_
  exact cq_ret F dJ7_fill_53178_20

theorem ct_2_59 (hG : cm_ad G B) : cm_met l G B yX2_init cX2_init 2 2 2 24 [.ref (G.1 59), .ref (G.1 1)] 60 mi ml 62 (am_ui (am_ui (am_ui (am_ui (am_ui (am_ui (am_ui (am_ui (am_ui (am_ui (am_ui (am_ui (am_ui (am_ui (am_ui mi 59 1 1) 59 7 1) 59 0 1) 60 0 (-2)) 60 1 (-2)) 60 2 (-2)) 60 3 (-2)) 60 4 (-2)) 60 5 (-2)) 60 6 (-2)) 60 7 (-2)) 60 8 (-2)) 60 9 (-2)) 60 10 (-2)) 60 11 (-2)) ml := by
  refine Met.ofW (cc := cX2_init) (maxL := 2) (ret := none) (by decide) rfl ?_
  intro p e s m args below meth c s1 Bd hml hv
  obtain ⟨rfl, g1, hK, hX⟩ := hv
  have F : cm_fr p s m _ meth c G yX2_init cX2_init 2 none := ⟨Bd.exec, Bd.bytes, hml, Bd.returns, Bd.notSynchronized, fun w hw => atoms_spec (ws := cm_ws yX2_init cX2_init 2) Bd.pre w (List.mem_cons_of_mem _ hw), findClass_of_methodNamed Bd.named, (name_of_methodNamed Bd.named Bd.method).1, hK, hX⟩
  have hx := F.1
  have hb := F.2.1
  have hB : B ≤ s.heap.size := by
    rw [g1.2.1]
    exact Nat.le_add_right _ _
  have hl := lv_entry ([.ref (G.1 59), .ref (G.1 1)]) (n := 2) (Nat.le_of_ble_eq_true rfl)
  rw [lg_entry_eq]
  generalize (lg_sl ([.ref (G.1 59), .ref (G.1 1)]) ++ List.replicate (2 - (lg_sl ([.ref (G.1 59), .ref (G.1 1)])).length) Slot.unset).toArray = ls at hl ⊢
  have hl : lv_has ls 2 [(0, .ref (G.1 59)), (1, .ref (G.1 1))] := hl
  refine (?_ : cm_go p l e _ s m _ below meth c _ G B 0 ls [] 60 mi ml 0 0) s.heap [] g1 va_S.rf
  refine cq_pure (fun H locs => lv_aload_n hx hb dX2_init_0 rfl (lv_at hl 0 rfl)) ?_
  refine cq_obj F (a := 59) cv_245 cv_31 cv_obj dX2_init_1 hl.1 (by decide) (Nat.le_of_ble_eq_true rfl) (Nat.le_of_ble_eq_true rfl) ?_
  refine cq_pure (fun H locs => lv_aload_n hx hb dX2_init_4 rfl (lv_at hl 0 rfl)) ?_
  refine cq_pure (fun H locs => lv_bipush (v := (12 : Int32)) hx hb dX2_init_5 rfl) ?_
  refine cq_newa F hG hB (ty := .int) (N := 12) rfl (Or.inl ⟨rfl, rfl⟩) rfl (by decide) (by decide) rfl cv_64 dX2_init_7 (Nat.le_of_ble_eq_true rfl) (Nat.le_of_ble_eq_true rfl) ?_
  refine cq_putF F hG (a := 59) (b := 60) (k := 1) (ty := (.array .int)) rfl rfl rfl (by decide) rfl rfl (by decide) rfl rfl rfl rfl (by decide +kernel) (by decide +kernel) (fun _ => rfl) (fun _ => rfl) cv_250 dX2_init_9 ?_
  refine cq_pure (fun H locs => lv_aload_n hx hb dX2_init_12 rfl (lv_at hl 0 rfl)) ?_
  refine cq_pure (fun H locs => lv_bipush (v := (12 : Int32)) hx hb dX2_init_13 rfl) ?_
  refine cq_newa F hG hB (ty := .int) (N := 12) rfl (Or.inl ⟨rfl, rfl⟩) rfl (by decide) (by decide) rfl cv_64 dX2_init_15 (Nat.le_of_ble_eq_true rfl) (Nat.le_of_ble_eq_true rfl) ?_
  refine cq_putF F hG (a := 59) (b := 61) (k := 7) (ty := (.array .int)) rfl rfl rfl (by decide) rfl rfl (by decide) rfl rfl rfl rfl (by decide +kernel) (by decide +kernel) (fun _ => rfl) (fun _ => rfl) cv_260 dX2_init_17 ?_
  refine cq_pure (fun H locs => lv_aload_n hx hb dX2_init_20 rfl (lv_at hl 0 rfl)) ?_
  refine cq_pure (fun H locs => lv_aload_n hx hb dX2_init_21 rfl (lv_at hl 1 rfl)) ?_
  refine cq_putF F hG (a := 59) (b := 1) (k := 0) (ty := (.object "DoorsForThree$Calendar")) rfl rfl rfl (by decide) rfl rfl (by decide) rfl rfl rfl rfl (by decide +kernel) (by decide +kernel) (fun _ => rfl) (fun _ => rfl) cv_249 dX2_init_22 ?_
  refine cq_pure (fun H locs => lv_aload_n hx hb dX2_init_25 rfl (lv_at hl 0 rfl)) ?_
  refine cq_get F (a := 59) (b := 60) (k := 1) rfl rfl rfl (by decide) rfl (by simp [am_ui]) rfl (by decide) rfl (by decide +kernel) cv_250 dX2_init_26 ?_
  refine cq_pure (fun H locs => lv_bipush (v := (-2 : Int32)) hx hb dX2_init_29 rfl) ?_
  refine cq_callS F (k := 2) (As := [.ref (G.1 60), .int (-2)]) (st := []) (ct_fill_60 hG) cv_248 cv_10 cv_246 cv_247 ⟨by decide, by decide, by decide +kernel⟩ rfl dX2_init_31 hl.1 (by decide) (Nat.le_of_ble_eq_true rfl) (Nat.le_of_ble_eq_true rfl) (Nat.le_of_ble_eq_true rfl) (Nat.le_of_ble_eq_true rfl) (Nat.le_of_ble_eq_true rfl) ?_
  exact cq_ret F dX2_init_34

theorem ct_10_0 (hG : cm_ad G B) : cm_met l G B yX10_init cX10_init 2 3 77 1600 [.ref (G.1 0)] 1 mi ml 78 (am_ui (am_ui (am_ui (am_ui (am_ui (am_ui (am_ui (am_ui (am_ui (am_ui (am_ui (am_ui (am_ui (am_ui (am_ui (am_ui (am_ui (am_ui (am_ui (am_ui (am_ui (am_ui (am_ui (am_ui (am_ui (am_ui (am_ui (am_ui (am_ui (am_ui (am_ui (am_ui (am_ui (am_ui (am_ui (am_ui (am_ui (am_ui (am_ui (am_ui (am_ui (am_ui (am_ui (am_ui (am_ui (am_ui (am_ui (am_ui (am_ui (am_ui (am_ui (am_ui (am_ui (am_ui (am_ui (am_ui (am_ui (am_ui (am_ui (am_ui (am_ui (am_ui (am_ui (am_ui (am_ui (am_ui (am_ui (am_ui (am_ui (am_ui (am_ui (am_ui (am_ui (am_ui (am_ui (am_ui mi 1 0 1) 12 0 1) 0 0 1) 13 0 1) 0 1 1) 15 0 1) 15 3 1) 15 5 1) 15 8 1) 0 2 1) 20 2 1) 20 0 1) 20 1 1) 0 3 1) 22 2 (-1)) 22 3 1) 22 4 1) 22 5 1) 22 6 1) 22 7 1) 22 8 1) 22 9 1) 22 10 1) 22 11 1) 22 0 1) 22 1 1) 0 4 1) 47 2 (-1)) 47 3 1) 47 4 1) 47 5 1) 47 6 1) 47 0 1) 47 1 1) 0 5 1) 58 0 1) 58 1 1) 0 6 1) 59 1 1) 59 7 1) 59 0 1) 60 0 (-2)) 60 1 (-2)) 60 2 (-2)) 60 3 (-2)) 60 4 (-2)) 60 5 (-2)) 60 6 (-2)) 60 7 (-2)) 60 8 (-2)) 60 9 (-2)) 60 10 (-2)) 60 11 (-2)) 0 7 1) 62 0 1) 62 2 1) 0 8 1) 0 9 1) 66 0 0) 66 4 1) 65 0 1) 68 0 0) 68 4 1) 65 1 1) 70 0 0) 70 4 1) 65 2 1) 72 0 0) 72 4 1) 65 3 1) 74 0 0) 74 4 1) 65 4 1) 76 0 0) 76 4 1) 65 5 1) ml := by
  refine Met.ofW (cc := cX10_init) (maxL := 2) (ret := none) (by decide) rfl ?_
  intro p e s m args below meth c s1 Bd hml hv
  obtain ⟨rfl, g1, hK, hX⟩ := hv
  have F : cm_fr p s m _ meth c G yX10_init cX10_init 2 none := ⟨Bd.exec, Bd.bytes, hml, Bd.returns, Bd.notSynchronized, fun w hw => atoms_spec (ws := cm_ws yX10_init cX10_init 2) Bd.pre w (List.mem_cons_of_mem _ hw), findClass_of_methodNamed Bd.named, (name_of_methodNamed Bd.named Bd.method).1, hK, hX⟩
  have hx := F.1
  have hb := F.2.1
  have hB : B ≤ s.heap.size := by
    rw [g1.2.1]
    exact Nat.le_add_right _ _
  have hl := lv_entry ([.ref (G.1 0)]) (n := 2) (Nat.le_of_ble_eq_true rfl)
  rw [lg_entry_eq]
  generalize (lg_sl ([.ref (G.1 0)]) ++ List.replicate (2 - (lg_sl ([.ref (G.1 0)])).length) Slot.unset).toArray = ls at hl ⊢
  have hl : lv_has ls 2 [(0, .ref (G.1 0))] := hl
  refine (?_ : cm_go p l e _ s m _ below meth c _ G B 0 ls [] 1 mi ml 0 0) s.heap [] g1 va_S.rf
  refine cq_pure (fun H locs => lv_aload_n hx hb dX10_init_0 rfl (lv_at hl 0 rfl)) ?_
  refine cq_obj F (a := 0) cv_30 cv_31 cv_obj dX10_init_1 hl.1 (by decide) (Nat.le_of_ble_eq_true rfl) (Nat.le_of_ble_eq_true rfl) ?_
  refine cq_pure (fun H locs => lv_aload_n hx hb dX10_init_4 rfl (lv_at hl 0 rfl)) ?_
  refine cq_new F hG hB (ci := 0) (N := 4) rfl rfl rfl (by decide) rfl tyX0_ok cb_0 cv_33 cv_34 cv_2 dX10_init_5 (Nat.le_of_ble_eq_true rfl) (Nat.le_of_ble_eq_true rfl) ?_
  refine cq_pure (fun H locs => lv_dup hx hb dX10_init_8 rfl) ?_
  refine cq_call F (k := 0) (As := []) (b := G.1 1) (st := [.ref (G.1 1), .ref (G.1 0)]) (ct_0_1 hG) cv_37 cv_2 cv_35 cv_36 rfl ⟨by decide, by decide, by decide +kernel⟩ rfl dX10_init_9 hl.1 (by decide) (Nat.le_of_ble_eq_true rfl) (Nat.le_of_ble_eq_true rfl) (Nat.le_of_ble_eq_true rfl) (Nat.le_of_ble_eq_true rfl) (Nat.le_of_ble_eq_true rfl) ?_
  refine cq_putF F hG (a := 0) (b := 1) (k := 0) (ty := (.object "DoorsForThree$Calendar")) rfl rfl rfl (by decide) rfl rfl (by decide) rfl rfl rfl rfl (by decide +kernel) (by decide +kernel) (fun _ => rfl) (fun _ => rfl) cv_334 dX10_init_12 ?_
  refine cq_pure (fun H locs => lv_aload_n hx hb dX10_init_15 rfl (lv_at hl 0 rfl)) ?_
  refine cq_new F hG hB (ci := 1) (N := 3) rfl rfl rfl (by decide) rfl tyX1_ok cb_1 cv_65 cv_66 cv_3 dX10_init_16 (Nat.le_of_ble_eq_true rfl) (Nat.le_of_ble_eq_true rfl) ?_
  refine cq_pure (fun H locs => lv_dup hx hb dX10_init_19 rfl) ?_
  refine cq_callN F (k := 0) (As := []) (b := G.1 13) (st := [.ref (G.1 13), .ref (G.1 0)]) (ct_1_13 hG) cv_69 cv_3 cv_67 cv_68 rfl ⟨by decide, by decide, by decide +kernel⟩ rfl dX10_init_20 hl.1 (by decide) (Nat.le_of_ble_eq_true rfl) (Nat.le_of_ble_eq_true rfl) (Nat.le_of_ble_eq_true rfl) (Nat.le_of_ble_eq_true rfl) (Nat.le_of_ble_eq_true rfl) ?_
  refine cq_putF F hG (a := 0) (b := 13) (k := 1) (ty := (.object "DoorsForThree$Changes")) rfl rfl rfl (by decide) rfl rfl (by decide) rfl rfl rfl rfl (by decide +kernel) (by decide +kernel) (fun _ => rfl) (fun _ => rfl) cv_335 dX10_init_23 ?_
  refine cq_pure (fun H locs => lv_aload_n hx hb dX10_init_26 rfl (lv_at hl 0 rfl)) ?_
  refine cq_new F hG hB (ci := 5) (N := 10) rfl rfl rfl (by decide) rfl tyX5_ok cb_5 cv_82 cv_83 cv_4 dX10_init_27 (Nat.le_of_ble_eq_true rfl) (Nat.le_of_ble_eq_true rfl) ?_
  refine cq_pure (fun H locs => lv_dup hx hb dX10_init_30 rfl) ?_
  refine cq_callN F (k := 0) (As := []) (b := G.1 15) (st := [.ref (G.1 15), .ref (G.1 0)]) (ct_5_15 hG) cv_86 cv_4 cv_84 cv_85 rfl ⟨by decide, by decide, by decide +kernel⟩ rfl dX10_init_31 hl.1 (by decide) (Nat.le_of_ble_eq_true rfl) (Nat.le_of_ble_eq_true rfl) (Nat.le_of_ble_eq_true rfl) (Nat.le_of_ble_eq_true rfl) (Nat.le_of_ble_eq_true rfl) ?_
  refine cq_putF F hG (a := 0) (b := 15) (k := 2) (ty := (.object "DoorsForThree$Law")) rfl rfl rfl (by decide) rfl rfl (by decide) rfl rfl rfl rfl (by decide +kernel) (by decide +kernel) (fun _ => rfl) (fun _ => rfl) cv_336 dX10_init_34 ?_
  refine cq_pure (fun H locs => lv_aload_n hx hb dX10_init_37 rfl (lv_at hl 0 rfl)) ?_
  refine cq_new F hG hB (ci := 9) (N := 3) rfl rfl rfl (by decide) rfl tyX9_ok cb_9 cv_121 cv_122 cv_5 dX10_init_38 (Nat.le_of_ble_eq_true rfl) (Nat.le_of_ble_eq_true rfl) ?_
  refine cq_pure (fun H locs => lv_dup hx hb dX10_init_41 rfl) ?_
  refine cq_pure (fun H locs => lv_aload_n hx hb dX10_init_42 rfl (lv_at hl 0 rfl)) ?_
  refine cq_get F (a := 0) (b := 1) (k := 0) rfl rfl rfl (by decide) rfl (by simp [am_ui]) rfl (by decide) rfl (by decide +kernel) cv_334 dX10_init_43 ?_
  refine cq_pure (fun H locs => lv_aload_n hx hb dX10_init_46 rfl (lv_at hl 0 rfl)) ?_
  refine cq_get F (a := 0) (b := 15) (k := 2) rfl rfl rfl (by decide) rfl (by simp [am_ui]) rfl (by decide) rfl (by decide +kernel) cv_336 dX10_init_47 ?_
  refine cq_call F (k := 2) (As := [.ref (G.1 1), .ref (G.1 15)]) (b := G.1 20) (st := [.ref (G.1 20), .ref (G.1 0)]) (ct_9_20 hG) cv_125 cv_5 cv_123 cv_124 rfl ⟨by decide, by decide, by decide +kernel⟩ rfl dX10_init_50 hl.1 (by decide) (Nat.le_of_ble_eq_true rfl) (Nat.le_of_ble_eq_true rfl) (Nat.le_of_ble_eq_true rfl) (Nat.le_of_ble_eq_true rfl) (Nat.le_of_ble_eq_true rfl) ?_
  refine cq_putF F hG (a := 0) (b := 20) (k := 3) (ty := (.object "DoorsForThree$Worths")) rfl rfl rfl (by decide) rfl rfl (by decide) rfl rfl rfl rfl (by decide +kernel) (by decide +kernel) (fun _ => rfl) (fun _ => rfl) cv_337 dX10_init_53 ?_
  refine cq_pure (fun H locs => lv_aload_n hx hb dX10_init_56 rfl (lv_at hl 0 rfl)) ?_
  refine cq_new F hG hB (ci := 4) (N := 13) rfl rfl rfl (by decide) rfl tyX4_ok cb_4 cv_137 cv_138 cv_6 dX10_init_57 (Nat.le_of_ble_eq_true rfl) (Nat.le_of_ble_eq_true rfl) ?_
  refine cq_pure (fun H locs => lv_dup hx hb dX10_init_60 rfl) ?_
  refine cq_pure (fun H locs => lv_aload_n hx hb dX10_init_61 rfl (lv_at hl 0 rfl)) ?_
  refine cq_get F (a := 0) (b := 1) (k := 0) rfl rfl rfl (by decide) rfl (by simp [am_ui]) rfl (by decide) rfl (by decide +kernel) cv_334 dX10_init_62 ?_
  refine cq_pure (fun H locs => lv_aload_n hx hb dX10_init_65 rfl (lv_at hl 0 rfl)) ?_
  refine cq_get F (a := 0) (b := 20) (k := 3) rfl rfl rfl (by decide) rfl (by simp [am_ui]) rfl (by decide) rfl (by decide +kernel) cv_337 dX10_init_66 ?_
  refine cq_call F (k := 2) (As := [.ref (G.1 1), .ref (G.1 20)]) (b := G.1 22) (st := [.ref (G.1 22), .ref (G.1 0)]) (ct_4_22 hG) cv_141 cv_6 cv_139 cv_140 rfl ⟨by decide, by decide, by decide +kernel⟩ rfl dX10_init_69 hl.1 (by decide) (Nat.le_of_ble_eq_true rfl) (Nat.le_of_ble_eq_true rfl) (Nat.le_of_ble_eq_true rfl) (Nat.le_of_ble_eq_true rfl) (Nat.le_of_ble_eq_true rfl) ?_
  refine cq_putF F hG (a := 0) (b := 22) (k := 4) (ty := (.object "DoorsForThree$Givings")) rfl rfl rfl (by decide) rfl rfl (by decide) rfl rfl rfl rfl (by decide +kernel) (by decide +kernel) (fun _ => rfl) (fun _ => rfl) cv_338 dX10_init_72 ?_
  refine cq_pure (fun H locs => lv_aload_n hx hb dX10_init_75 rfl (lv_at hl 0 rfl)) ?_
  refine cq_new F hG hB (ci := 3) (N := 10) rfl rfl rfl (by decide) rfl tyX3_ok cb_3 cv_186 cv_187 cv_7 dX10_init_76 (Nat.le_of_ble_eq_true rfl) (Nat.le_of_ble_eq_true rfl) ?_
  refine cq_pure (fun H locs => lv_dup hx hb dX10_init_79 rfl) ?_
  refine cq_pure (fun H locs => lv_aload_n hx hb dX10_init_80 rfl (lv_at hl 0 rfl)) ?_
  refine cq_get F (a := 0) (b := 1) (k := 0) rfl rfl rfl (by decide) rfl (by simp [am_ui]) rfl (by decide) rfl (by decide +kernel) cv_334 dX10_init_81 ?_
  refine cq_pure (fun H locs => lv_aload_n hx hb dX10_init_84 rfl (lv_at hl 0 rfl)) ?_
  refine cq_get F (a := 0) (b := 22) (k := 4) rfl rfl rfl (by decide) rfl (by simp [am_ui]) rfl (by decide) rfl (by decide +kernel) cv_338 dX10_init_85 ?_
  refine cq_call F (k := 2) (As := [.ref (G.1 1), .ref (G.1 22)]) (b := G.1 47) (st := [.ref (G.1 47), .ref (G.1 0)]) (ct_3_47 hG) cv_190 cv_7 cv_188 cv_189 rfl ⟨by decide, by decide, by decide +kernel⟩ rfl dX10_init_88 hl.1 (by decide) (Nat.le_of_ble_eq_true rfl) (Nat.le_of_ble_eq_true rfl) (Nat.le_of_ble_eq_true rfl) (Nat.le_of_ble_eq_true rfl) (Nat.le_of_ble_eq_true rfl) ?_
  refine cq_putF F hG (a := 0) (b := 47) (k := 5) (ty := (.object "DoorsForThree$Fairest")) rfl rfl rfl (by decide) rfl rfl (by decide) rfl rfl rfl rfl (by decide +kernel) (by decide +kernel) (fun _ => rfl) (fun _ => rfl) cv_339 dX10_init_91 ?_
  refine cq_pure (fun H locs => lv_aload_n hx hb dX10_init_94 rfl (lv_at hl 0 rfl)) ?_
  refine cq_new F hG hB (ci := 8) (N := 2) rfl rfl rfl (by decide) rfl tyX8_ok cb_8 cv_227 cv_228 cv_8 dX10_init_95 (Nat.le_of_ble_eq_true rfl) (Nat.le_of_ble_eq_true rfl) ?_
  refine cq_pure (fun H locs => lv_dup hx hb dX10_init_98 rfl) ?_
  refine cq_pure (fun H locs => lv_aload_n hx hb dX10_init_99 rfl (lv_at hl 0 rfl)) ?_
  refine cq_get F (a := 0) (b := 1) (k := 0) rfl rfl rfl (by decide) rfl (by simp [am_ui]) rfl (by decide) rfl (by decide +kernel) cv_334 dX10_init_100 ?_
  refine cq_pure (fun H locs => lv_aload_n hx hb dX10_init_103 rfl (lv_at hl 0 rfl)) ?_
  refine cq_get F (a := 0) (b := 22) (k := 4) rfl rfl rfl (by decide) rfl (by simp [am_ui]) rfl (by decide) rfl (by decide +kernel) cv_338 dX10_init_104 ?_
  refine cq_call F (k := 2) (As := [.ref (G.1 1), .ref (G.1 22)]) (b := G.1 58) (st := [.ref (G.1 58), .ref (G.1 0)]) (ct_8_58 hG) cv_231 cv_8 cv_229 cv_230 rfl ⟨by decide, by decide, by decide +kernel⟩ rfl dX10_init_107 hl.1 (by decide) (Nat.le_of_ble_eq_true rfl) (Nat.le_of_ble_eq_true rfl) (Nat.le_of_ble_eq_true rfl) (Nat.le_of_ble_eq_true rfl) (Nat.le_of_ble_eq_true rfl) ?_
  refine cq_putF F hG (a := 0) (b := 58) (k := 6) (ty := (.object "DoorsForThree$Signs")) rfl rfl rfl (by decide) rfl rfl (by decide) rfl rfl rfl rfl (by decide +kernel) (by decide +kernel) (fun _ => rfl) (fun _ => rfl) cv_340 dX10_init_110 ?_
  refine cq_pure (fun H locs => lv_aload_n hx hb dX10_init_113 rfl (lv_at hl 0 rfl)) ?_
  refine cq_new F hG hB (ci := 2) (N := 12) rfl rfl rfl (by decide) rfl tyX2_ok cb_2 cv_240 cv_241 cv_9 dX10_init_114 (Nat.le_of_ble_eq_true rfl) (Nat.le_of_ble_eq_true rfl) ?_
  refine cq_pure (fun H locs => lv_dup hx hb dX10_init_117 rfl) ?_
  refine cq_pure (fun H locs => lv_aload_n hx hb dX10_init_118 rfl (lv_at hl 0 rfl)) ?_
  refine cq_get F (a := 0) (b := 1) (k := 0) rfl rfl rfl (by decide) rfl (by simp [am_ui]) rfl (by decide) rfl (by decide +kernel) cv_334 dX10_init_119 ?_
  refine cq_call F (k := 1) (As := [.ref (G.1 1)]) (b := G.1 59) (st := [.ref (G.1 59), .ref (G.1 0)]) (ct_2_59 hG) cv_244 cv_9 cv_242 cv_243 rfl ⟨by decide, by decide, by decide +kernel⟩ rfl dX10_init_122 hl.1 (by decide) (Nat.le_of_ble_eq_true rfl) (Nat.le_of_ble_eq_true rfl) (Nat.le_of_ble_eq_true rfl) (Nat.le_of_ble_eq_true rfl) (Nat.le_of_ble_eq_true rfl) ?_
  refine cq_putF F hG (a := 0) (b := 59) (k := 7) (ty := (.object "DoorsForThree$Deeds")) rfl rfl rfl (by decide) rfl rfl (by decide) rfl rfl rfl rfl (by decide +kernel) (by decide +kernel) (fun _ => rfl) (fun _ => rfl) cv_341 dX10_init_125 ?_
  refine cq_pure (fun H locs => lv_aload_n hx hb dX10_init_128 rfl (lv_at hl 0 rfl)) ?_
  refine cq_new F hG hB (ci := 6) (N := 4) rfl rfl rfl (by decide) rfl tyX6_ok cb_6 cv_290 cv_291 cv_11 dX10_init_129 (Nat.le_of_ble_eq_true rfl) (Nat.le_of_ble_eq_true rfl) ?_
  refine cq_pure (fun H locs => lv_dup hx hb dX10_init_132 rfl) ?_
  refine cq_callN F (k := 0) (As := []) (b := G.1 62) (st := [.ref (G.1 62), .ref (G.1 0)]) (ct_6_62 hG) cv_294 cv_11 cv_292 cv_293 rfl ⟨by decide, by decide, by decide +kernel⟩ rfl dX10_init_133 hl.1 (by decide) (Nat.le_of_ble_eq_true rfl) (Nat.le_of_ble_eq_true rfl) (Nat.le_of_ble_eq_true rfl) (Nat.le_of_ble_eq_true rfl) (Nat.le_of_ble_eq_true rfl) ?_
  refine cq_putF F hG (a := 0) (b := 62) (k := 8) (ty := (.object "DoorsForThree$Pictures")) rfl rfl rfl (by decide) rfl rfl (by decide) rfl rfl rfl rfl (by decide +kernel) (by decide +kernel) (fun _ => rfl) (fun _ => rfl) cv_342 dX10_init_136 ?_
  refine cq_pure (fun H locs => lv_aload_n hx hb dX10_init_139 rfl (lv_at hl 0 rfl)) ?_
  refine cq_pure (fun H locs => lv_bipush (v := (6 : Int32)) hx hb dX10_init_140 rfl) ?_
  refine cq_anew F hG hB (N := 6) rfl rfl rfl (by decide) (by decide) rfl cv_310 dX10_init_142 (Nat.le_of_ble_eq_true rfl) (Nat.le_of_ble_eq_true rfl) ?_
  refine cq_putF F hG (a := 0) (b := 65) (k := 9) (ty := (.array (.object "DoorsForThree$Shelf"))) rfl rfl rfl (by decide) rfl rfl (by decide) rfl rfl rfl rfl (by decide +kernel) (by decide +kernel) (fun _ => rfl) (fun _ => rfl) cv_343 dX10_init_145 ?_
  refine cq_pure (fun H locs => lv_iconst (v := (0 : Int32)) hx hb dX10_init_148 rfl) ?_
  refine cq_istn F (lv2 := [(1, .int 0), (0, .ref (G.1 0))]) hl (by decide) rfl dX10_init_149 (fun ls hl => ?_)
  refine cq_pure (fun H locs => lv_iload_n hx hb dX10_init_150 rfl (lv_at hl 0 rfl)) ?_
  refine cq_pure (fun H locs => lv_aload_n hx hb dX10_init_151 rfl (lv_at hl 1 rfl)) ?_
  refine cq_get F (a := 0) (b := 65) (k := 9) rfl rfl rfl (by decide) rfl (by simp [am_ui]) rfl (by decide) rfl (by decide +kernel) cv_343 dX10_init_152 ?_
  refine cq_alen F (a := 65) rfl rfl (by decide) dX10_init_155 ?_
  refine cq_icn F (tgt := 178) (by decide) dX10_init_156 rfl ?_
  refine cq_pure (fun H locs => lv_aload_n hx hb dX10_init_159 rfl (lv_at hl 1 rfl)) ?_
  refine cq_get F (a := 0) (b := 65) (k := 9) rfl rfl rfl (by decide) rfl (by simp [am_ui]) rfl (by decide) rfl (by decide +kernel) cv_343 dX10_init_160 ?_
  refine cq_pure (fun H locs => lv_iload_n hx hb dX10_init_163 rfl (lv_at hl 0 rfl)) ?_
  refine cq_new F hG hB (ci := 7) (N := 5) rfl rfl rfl (by decide) rfl tyX7_ok cb_7 cv_310 cv_312 cv_12 dX10_init_164 (Nat.le_of_ble_eq_true rfl) (Nat.le_of_ble_eq_true rfl) ?_
  refine cq_pure (fun H locs => lv_dup hx hb dX10_init_167 rfl) ?_
  refine cq_callN F (k := 0) (As := []) (b := G.1 66) (st := [.ref (G.1 66), .int 0, .ref (G.1 65)]) (ct_7_66 hG) cv_315 cv_12 cv_313 cv_314 rfl ⟨by decide, by decide, by decide +kernel⟩ rfl dX10_init_168 hl.1 (by decide) (Nat.le_of_ble_eq_true rfl) (Nat.le_of_ble_eq_true rfl) (Nat.le_of_ble_eq_true rfl) (Nat.le_of_ble_eq_true rfl) (Nat.le_of_ble_eq_true rfl) ?_
  refine cq_aast F hG (a := 65) (b := 66) (j := 0) rfl rfl (by decide) (by decide) (by decide) rfl rfl rfl rfl (by decide) dX10_init_171 ?_
  refine cq_iinc F (k := 0) (x := 0) (v := 1) (lv2 := [(1, .int 1), (0, .ref (G.1 0))]) hl rfl rfl (by decide) rfl dX10_init_172 (fun ls hl => ?_)
  refine cq_pure (fun H locs => lv_goto (tgt := 150) hx hb dX10_init_175 rfl) ?_
  refine cq_pure (fun H locs => lv_iload_n hx hb dX10_init_150 rfl (lv_at hl 0 rfl)) ?_
  refine cq_pure (fun H locs => lv_aload_n hx hb dX10_init_151 rfl (lv_at hl 1 rfl)) ?_
  refine cq_get F (a := 0) (b := 65) (k := 9) rfl rfl rfl (by decide) rfl (by simp [am_ui]) rfl (by decide) rfl (by decide +kernel) cv_343 dX10_init_152 ?_
  refine cq_alen F (a := 65) rfl rfl (by decide) dX10_init_155 ?_
  refine cq_icn F (tgt := 178) (by decide) dX10_init_156 rfl ?_
  refine cq_pure (fun H locs => lv_aload_n hx hb dX10_init_159 rfl (lv_at hl 1 rfl)) ?_
  refine cq_get F (a := 0) (b := 65) (k := 9) rfl rfl rfl (by decide) rfl (by simp [am_ui]) rfl (by decide) rfl (by decide +kernel) cv_343 dX10_init_160 ?_
  refine cq_pure (fun H locs => lv_iload_n hx hb dX10_init_163 rfl (lv_at hl 0 rfl)) ?_
  refine cq_new F hG hB (ci := 7) (N := 5) rfl rfl rfl (by decide) rfl tyX7_ok cb_7 cv_310 cv_312 cv_12 dX10_init_164 (Nat.le_of_ble_eq_true rfl) (Nat.le_of_ble_eq_true rfl) ?_
  refine cq_pure (fun H locs => lv_dup hx hb dX10_init_167 rfl) ?_
  refine cq_callN F (k := 0) (As := []) (b := G.1 68) (st := [.ref (G.1 68), .int 1, .ref (G.1 65)]) (ct_7_68 hG) cv_315 cv_12 cv_313 cv_314 rfl ⟨by decide, by decide, by decide +kernel⟩ rfl dX10_init_168 hl.1 (by decide) (Nat.le_of_ble_eq_true rfl) (Nat.le_of_ble_eq_true rfl) (Nat.le_of_ble_eq_true rfl) (Nat.le_of_ble_eq_true rfl) (Nat.le_of_ble_eq_true rfl) ?_
  refine cq_aast F hG (a := 65) (b := 68) (j := 1) rfl rfl (by decide) (by decide) (by decide) rfl rfl rfl rfl (by decide) dX10_init_171 ?_
  refine cq_iinc F (k := 0) (x := 1) (v := 2) (lv2 := [(1, .int 2), (0, .ref (G.1 0))]) hl rfl rfl (by decide) rfl dX10_init_172 (fun ls hl => ?_)
  refine cq_pure (fun H locs => lv_goto (tgt := 150) hx hb dX10_init_175 rfl) ?_
  refine cq_pure (fun H locs => lv_iload_n hx hb dX10_init_150 rfl (lv_at hl 0 rfl)) ?_
  refine cq_pure (fun H locs => lv_aload_n hx hb dX10_init_151 rfl (lv_at hl 1 rfl)) ?_
  refine cq_get F (a := 0) (b := 65) (k := 9) rfl rfl rfl (by decide) rfl (by simp [am_ui]) rfl (by decide) rfl (by decide +kernel) cv_343 dX10_init_152 ?_
  refine cq_alen F (a := 65) rfl rfl (by decide) dX10_init_155 ?_
  refine cq_icn F (tgt := 178) (by decide) dX10_init_156 rfl ?_
  refine cq_pure (fun H locs => lv_aload_n hx hb dX10_init_159 rfl (lv_at hl 1 rfl)) ?_
  refine cq_get F (a := 0) (b := 65) (k := 9) rfl rfl rfl (by decide) rfl (by simp [am_ui]) rfl (by decide) rfl (by decide +kernel) cv_343 dX10_init_160 ?_
  refine cq_pure (fun H locs => lv_iload_n hx hb dX10_init_163 rfl (lv_at hl 0 rfl)) ?_
  refine cq_new F hG hB (ci := 7) (N := 5) rfl rfl rfl (by decide) rfl tyX7_ok cb_7 cv_310 cv_312 cv_12 dX10_init_164 (Nat.le_of_ble_eq_true rfl) (Nat.le_of_ble_eq_true rfl) ?_
  refine cq_pure (fun H locs => lv_dup hx hb dX10_init_167 rfl) ?_
  refine cq_callN F (k := 0) (As := []) (b := G.1 70) (st := [.ref (G.1 70), .int 2, .ref (G.1 65)]) (ct_7_70 hG) cv_315 cv_12 cv_313 cv_314 rfl ⟨by decide, by decide, by decide +kernel⟩ rfl dX10_init_168 hl.1 (by decide) (Nat.le_of_ble_eq_true rfl) (Nat.le_of_ble_eq_true rfl) (Nat.le_of_ble_eq_true rfl) (Nat.le_of_ble_eq_true rfl) (Nat.le_of_ble_eq_true rfl) ?_
  refine cq_aast F hG (a := 65) (b := 70) (j := 2) rfl rfl (by decide) (by decide) (by decide) rfl rfl rfl rfl (by decide) dX10_init_171 ?_
  refine cq_iinc F (k := 0) (x := 2) (v := 3) (lv2 := [(1, .int 3), (0, .ref (G.1 0))]) hl rfl rfl (by decide) rfl dX10_init_172 (fun ls hl => ?_)
  refine cq_pure (fun H locs => lv_goto (tgt := 150) hx hb dX10_init_175 rfl) ?_
  refine cq_pure (fun H locs => lv_iload_n hx hb dX10_init_150 rfl (lv_at hl 0 rfl)) ?_
  refine cq_pure (fun H locs => lv_aload_n hx hb dX10_init_151 rfl (lv_at hl 1 rfl)) ?_
  refine cq_get F (a := 0) (b := 65) (k := 9) rfl rfl rfl (by decide) rfl (by simp [am_ui]) rfl (by decide) rfl (by decide +kernel) cv_343 dX10_init_152 ?_
  refine cq_alen F (a := 65) rfl rfl (by decide) dX10_init_155 ?_
  refine cq_icn F (tgt := 178) (by decide) dX10_init_156 rfl ?_
  refine cq_pure (fun H locs => lv_aload_n hx hb dX10_init_159 rfl (lv_at hl 1 rfl)) ?_
  refine cq_get F (a := 0) (b := 65) (k := 9) rfl rfl rfl (by decide) rfl (by simp [am_ui]) rfl (by decide) rfl (by decide +kernel) cv_343 dX10_init_160 ?_
  refine cq_pure (fun H locs => lv_iload_n hx hb dX10_init_163 rfl (lv_at hl 0 rfl)) ?_
  refine cq_new F hG hB (ci := 7) (N := 5) rfl rfl rfl (by decide) rfl tyX7_ok cb_7 cv_310 cv_312 cv_12 dX10_init_164 (Nat.le_of_ble_eq_true rfl) (Nat.le_of_ble_eq_true rfl) ?_
  refine cq_pure (fun H locs => lv_dup hx hb dX10_init_167 rfl) ?_
  refine cq_callN F (k := 0) (As := []) (b := G.1 72) (st := [.ref (G.1 72), .int 3, .ref (G.1 65)]) (ct_7_72 hG) cv_315 cv_12 cv_313 cv_314 rfl ⟨by decide, by decide, by decide +kernel⟩ rfl dX10_init_168 hl.1 (by decide) (Nat.le_of_ble_eq_true rfl) (Nat.le_of_ble_eq_true rfl) (Nat.le_of_ble_eq_true rfl) (Nat.le_of_ble_eq_true rfl) (Nat.le_of_ble_eq_true rfl) ?_
  refine cq_aast F hG (a := 65) (b := 72) (j := 3) rfl rfl (by decide) (by decide) (by decide) rfl rfl rfl rfl (by decide) dX10_init_171 ?_
  refine cq_iinc F (k := 0) (x := 3) (v := 4) (lv2 := [(1, .int 4), (0, .ref (G.1 0))]) hl rfl rfl (by decide) rfl dX10_init_172 (fun ls hl => ?_)
  refine cq_pure (fun H locs => lv_goto (tgt := 150) hx hb dX10_init_175 rfl) ?_
  refine cq_pure (fun H locs => lv_iload_n hx hb dX10_init_150 rfl (lv_at hl 0 rfl)) ?_
  refine cq_pure (fun H locs => lv_aload_n hx hb dX10_init_151 rfl (lv_at hl 1 rfl)) ?_
  refine cq_get F (a := 0) (b := 65) (k := 9) rfl rfl rfl (by decide) rfl (by simp [am_ui]) rfl (by decide) rfl (by decide +kernel) cv_343 dX10_init_152 ?_
  refine cq_alen F (a := 65) rfl rfl (by decide) dX10_init_155 ?_
  refine cq_icn F (tgt := 178) (by decide) dX10_init_156 rfl ?_
  refine cq_pure (fun H locs => lv_aload_n hx hb dX10_init_159 rfl (lv_at hl 1 rfl)) ?_
  refine cq_get F (a := 0) (b := 65) (k := 9) rfl rfl rfl (by decide) rfl (by simp [am_ui]) rfl (by decide) rfl (by decide +kernel) cv_343 dX10_init_160 ?_
  refine cq_pure (fun H locs => lv_iload_n hx hb dX10_init_163 rfl (lv_at hl 0 rfl)) ?_
  refine cq_new F hG hB (ci := 7) (N := 5) rfl rfl rfl (by decide) rfl tyX7_ok cb_7 cv_310 cv_312 cv_12 dX10_init_164 (Nat.le_of_ble_eq_true rfl) (Nat.le_of_ble_eq_true rfl) ?_
  refine cq_pure (fun H locs => lv_dup hx hb dX10_init_167 rfl) ?_
  refine cq_callN F (k := 0) (As := []) (b := G.1 74) (st := [.ref (G.1 74), .int 4, .ref (G.1 65)]) (ct_7_74 hG) cv_315 cv_12 cv_313 cv_314 rfl ⟨by decide, by decide, by decide +kernel⟩ rfl dX10_init_168 hl.1 (by decide) (Nat.le_of_ble_eq_true rfl) (Nat.le_of_ble_eq_true rfl) (Nat.le_of_ble_eq_true rfl) (Nat.le_of_ble_eq_true rfl) (Nat.le_of_ble_eq_true rfl) ?_
  refine cq_aast F hG (a := 65) (b := 74) (j := 4) rfl rfl (by decide) (by decide) (by decide) rfl rfl rfl rfl (by decide) dX10_init_171 ?_
  refine cq_iinc F (k := 0) (x := 4) (v := 5) (lv2 := [(1, .int 5), (0, .ref (G.1 0))]) hl rfl rfl (by decide) rfl dX10_init_172 (fun ls hl => ?_)
  refine cq_pure (fun H locs => lv_goto (tgt := 150) hx hb dX10_init_175 rfl) ?_
  refine cq_pure (fun H locs => lv_iload_n hx hb dX10_init_150 rfl (lv_at hl 0 rfl)) ?_
  refine cq_pure (fun H locs => lv_aload_n hx hb dX10_init_151 rfl (lv_at hl 1 rfl)) ?_
  refine cq_get F (a := 0) (b := 65) (k := 9) rfl rfl rfl (by decide) rfl (by simp [am_ui]) rfl (by decide) rfl (by decide +kernel) cv_343 dX10_init_152 ?_
  refine cq_alen F (a := 65) rfl rfl (by decide) dX10_init_155 ?_
  refine cq_icn F (tgt := 178) (by decide) dX10_init_156 rfl ?_
  refine cq_pure (fun H locs => lv_aload_n hx hb dX10_init_159 rfl (lv_at hl 1 rfl)) ?_
  refine cq_get F (a := 0) (b := 65) (k := 9) rfl rfl rfl (by decide) rfl (by simp [am_ui]) rfl (by decide) rfl (by decide +kernel) cv_343 dX10_init_160 ?_
  refine cq_pure (fun H locs => lv_iload_n hx hb dX10_init_163 rfl (lv_at hl 0 rfl)) ?_
  refine cq_new F hG hB (ci := 7) (N := 5) rfl rfl rfl (by decide) rfl tyX7_ok cb_7 cv_310 cv_312 cv_12 dX10_init_164 (Nat.le_of_ble_eq_true rfl) (Nat.le_of_ble_eq_true rfl) ?_
  refine cq_pure (fun H locs => lv_dup hx hb dX10_init_167 rfl) ?_
  refine cq_callN F (k := 0) (As := []) (b := G.1 76) (st := [.ref (G.1 76), .int 5, .ref (G.1 65)]) (ct_7_76 hG) cv_315 cv_12 cv_313 cv_314 rfl ⟨by decide, by decide, by decide +kernel⟩ rfl dX10_init_168 hl.1 (by decide) (Nat.le_of_ble_eq_true rfl) (Nat.le_of_ble_eq_true rfl) (Nat.le_of_ble_eq_true rfl) (Nat.le_of_ble_eq_true rfl) (Nat.le_of_ble_eq_true rfl) ?_
  refine cq_aast F hG (a := 65) (b := 76) (j := 5) rfl rfl (by decide) (by decide) (by decide) rfl rfl rfl rfl (by decide) dX10_init_171 ?_
  refine cq_iinc F (k := 0) (x := 5) (v := 6) (lv2 := [(1, .int 6), (0, .ref (G.1 0))]) hl rfl rfl (by decide) rfl dX10_init_172 (fun ls hl => ?_)
  refine cq_pure (fun H locs => lv_goto (tgt := 150) hx hb dX10_init_175 rfl) ?_
  refine cq_pure (fun H locs => lv_iload_n hx hb dX10_init_150 rfl (lv_at hl 0 rfl)) ?_
  refine cq_pure (fun H locs => lv_aload_n hx hb dX10_init_151 rfl (lv_at hl 1 rfl)) ?_
  refine cq_get F (a := 0) (b := 65) (k := 9) rfl rfl rfl (by decide) rfl (by simp [am_ui]) rfl (by decide) rfl (by decide +kernel) cv_343 dX10_init_152 ?_
  refine cq_alen F (a := 65) rfl rfl (by decide) dX10_init_155 ?_
  refine cq_icy F (tgt := 178) (by decide) dX10_init_156 rfl ?_
  exact cq_ret F dX10_init_178
end SP85
