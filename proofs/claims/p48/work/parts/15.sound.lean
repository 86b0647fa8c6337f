/-! the small machine says what the real one does -/
def am_isret : Instr → Bool
  | .ireturn => true
  | .lreturn => true
  | .areturn => true
  | .return_ => true
  | _ => false
section AMZ
variable {p : Program} {l : Launch} {e : Env} {Rm : Room} {s : State} {m : MethodId} {args : Array Value} {below : List Frame} {meth : Method} {c : Code} {cs ss : Nat} {Q : State → Prop}
variable {G : am_G} {y : MethodName} {bc : ByteArray} {nL : Nat} {rt : Option FieldType} {lk : List Cond} {t : List am_row} {Rr : am_R}
variable {i pc len k1 k2 k3 d : Nat} {v : Int32} {sw : List (Int32 × Nat)} {lo : am_L} {st : List Value} {mi : am_MI} {ml : am_ML}
set_option maxHeartbeats 4000000 in
theorem am_stp (F : am_fr p s m args meth c G y bc nL rt lk) (hR : am_rok Rm d cs ss) (IH : am_ih l G d) {ins : Instr} (hc : am_chk y bc nL rt lk t i (pc, ins, len, k1, k2, k3, v, sw) = true) (hi : am_pcs t i = pc)
    (hret : am_isret ins = true → (am_mo p l e Rm s m args below meth c cs ss Q G nL t) i lo st mi ml)
    (h : am_st (am_call d) (am_mo p l e Rm s m args below meth c cs ss Q G nL t) Rr ins k1 k2 k3 v sw i lo st mi ml) : (am_mo p l e Rm s m args below meth c cs ss Q G nL t) i lo st mi ml := by
  unfold am_st at h
  split at h
  · exact am_s_aload F hc hi h
  · exact am_s_aload_n F hc hi h
  · exact am_s_iload F hc hi h
  · exact am_s_iload_n F hc hi h
  · exact am_s_lload F hc hi h
  · exact am_s_lload_n F hc hi h
  · exact am_s_astore F hc hi h
  · exact am_s_astore_n F hc hi h
  · exact am_s_istore F hc hi h
  · exact am_s_istore_n F hc hi h
  · exact am_s_lstore F hc hi h
  · exact am_s_lstore_n F hc hi h
  · exact am_s_iinc F hc hi h
  · exact am_s_iconst F hc hi h
  · exact am_s_bipush F hc hi h
  · exact am_s_sipush F hc hi h
  · exact am_s_ldc (cl := am_call d) (Rr := Rr) F hc hi h
  · exact am_s_ldc_w F hc hi h
  · exact am_s_ldc2_w F hc hi h
  · exact am_s_lconst F hc hi h
  · exact am_s_dup F hc hi h
  · exact am_s_dup_x1 F hc hi h
  · exact am_s_dup2 F hc hi h
  · exact am_s_pop F hc hi h
  · exact am_s_iadd F hc hi h
  · exact am_s_isub F hc hi h
  · exact am_s_imul F hc hi h
  · exact am_s_idiv F hc hi h
  · exact am_s_irem F hc hi h
  · exact am_s_iand F hc hi h
  · exact am_s_ior F hc hi h
  · exact am_s_ixor F hc hi h
  · exact am_s_ishl F hc hi h
  · exact am_s_ishr F hc hi h
  · exact am_s_iushr F hc hi h
  · exact am_s_ineg F hc hi h
  · exact am_s_i2b F hc hi h
  · exact am_s_i2s F hc hi h
  · exact am_s_i2c F hc hi h
  · exact am_s_i2l (cl := am_call d) (Rr := Rr) F hc hi h
  · exact am_s_l2i (cl := am_call d) (Rr := Rr) F hc hi h
  · exact am_s_ladd F hc hi h
  · exact am_s_lmul F hc hi h
  · exact am_s_land F hc hi h
  · exact am_s_lor F hc hi h
  · exact am_s_lshl (cl := am_call d) (Rr := Rr) F hc hi h
  · exact am_s_lcmp (cl := am_call d) (Rr := Rr) F hc hi h
  · exact am_s_goto F hc hi h
  · exact am_s_if_eq F hc hi h
  · exact am_s_if_ne F hc hi h
  · exact am_s_if_lt F hc hi h
  · exact am_s_if_ge F hc hi h
  · exact am_s_if_gt F hc hi h
  · exact am_s_if_le F hc hi h
  · exact am_s_icmp_eq F hc hi h
  · exact am_s_icmp_ne F hc hi h
  · exact am_s_icmp_lt F hc hi h
  · exact am_s_icmp_ge F hc hi h
  · exact am_s_icmp_gt F hc hi h
  · exact am_s_icmp_le F hc hi h
  · exact am_s_tableswitch F hc hi h
  · exact am_s_lookupswitch F hc hi h
  · exact am_s_getfield F hc hi h
  · exact am_s_putfield F hc hi h
  · exact am_s_getstatic (cl := am_call d) (Rr := Rr) F hc hi h
  · exact am_s_iaload F hc hi h
  · exact am_s_baload F hc hi h
  · exact am_s_iastore F hc hi h
  · exact am_s_laload F hc hi h
  · exact am_s_lastore F hc hi h
  · exact am_s_aaload F hc hi h
  · exact am_s_arraylength F hc hi h
  · exact am_s_invokevirtual F hR IH (am_need_e h).1 hc hi (am_need_e h).2
  · exact am_s_invokestatic F hR IH hc hi h
  · exact hret rfl
  · exact hret rfl
  · exact hret rfl
  · exact hret rfl
  · exact h.elim
theorem am_chks_at : ∀ {rs : List am_row} {i0 : Nat}, am_chks y bc nL rt lk t i0 rs = true → ∀ (j : Nat) (r : am_row), rs[j]? = some r → am_chk y bc nL rt lk t (i0 + j) r = true
  | [], _, _, j, r, h => by simp at h
  | a :: rs, i0, hc, 0, r, h => by
    cases h
    unfold am_chks at hc
    simp only [Bool.and_eq_true] at hc
    exact hc.1
  | a :: rs, i0, hc, j + 1, r, h => by
    unfold am_chks at hc
    simp only [Bool.and_eq_true] at hc
    have z := am_chks_at hc.2 j r h
    rw [Nat.add_assoc, Nat.add_comm 1 j] at z
    exact z
end AMZ
theorem am_sound (l : Launch) (G : am_G) : ∀ d, am_ih l G d
  | 0 => fun f args mi ml R _ h => h.elim
  | d + 1 => fun f args mi ml R hf h => by
    have IH := am_sound l G d
    obtain ⟨hcat, hwp⟩ := h
    have w1 := (am_f_c hf).1
    have hok := am_okt_all hf
    have hok : (am_chks (am_m f).1 (am_m f).2.1 (am_m f).2.2.1 (am_m f).2.2.2.1 (am_lks (am_m f).2.2.2.2.2.2) (am_tab f) 0 (am_tab f) && am_pcs (am_tab f) 0 == 0) = true := hok
    simp only [Bool.and_eq_true, beq_iff_eq] at hok
    obtain ⟨hok, h0⟩ := hok
    refine Met.ofW (cc := (am_m f).2.1) (maxL := (am_m f).2.2.1) (ret := (am_m f).2.2.2.1) w1 rfl ?_
    intro p e s m args2 below meth c s1 B hml hv
    obtain ⟨rfl, g2, hK, hX⟩ := hv
    have F : am_fr p s m (args.map (am_tv G)).toArray meth c G (am_m f).1 (am_m f).2.1 (am_m f).2.2.1 (am_m f).2.2.2.1 (am_lks (am_m f).2.2.2.2.2.2) :=
      ⟨B.exec, B.bytes, hml, B.returns, B.notSynchronized, fun w hw => atoms_spec (ws := am_ws f) B.pre w (List.mem_cons_of_mem _ hw), am_lks_in _, findClass_of_methodNamed B.named, hK, hX⟩
    rw [lg_entry_eq]
    have z := hwp (am_mo p l e (headSpec (am_ws f) (am_room (d + 1))).room s m (args.map (am_tv G)).toArray below meth c 0 0 (MQ below (am_Q G R) (args.map (am_tv G)).toArray s 0 0 (am_A G)) G (am_m f).2.2.1 (am_tab f))
      (fun i lo st mi ml h => by
        unfold am_ex at h
        split at h
        · rename_i pc ins len k1 k2 k3 v sw er
          have hc := am_chks_at hok i _ er
          rw [Nat.zero_add] at hc
          have hi : am_pcs (am_tab f) i = pc := by
            unfold am_pcs
            rw [er]
          refine am_stp F ⟨Nat.le_refl _, Nat.le_refl _, Nat.le_refl _, Nat.le_refl _⟩ IH hc hi (fun hr => ?_) h
          unfold am_isret at hr
          split at hr
          · exact am_s_ireturn (cl := am_call d) F hc hi h
          · exact am_s_lreturn (cl := am_call d) F hc hi h
          · exact am_s_areturn (cl := am_call d) F hc hi h
          · exact am_s_return (cl := am_call d) F hc hi h
          · cases hr
        · exact h.elim)
      (fun i lo lo2 st mi ml hle h ls H locs g1 g2 g3 => h ls H locs (am_lv_le hle g1) g2 g3)
      _ _ [] (am_lv_in hcat) g2 va_S.rf
    rw [h0] at z
    exact z
