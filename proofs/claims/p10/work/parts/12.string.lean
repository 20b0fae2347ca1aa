/-! the String constants' own methods, walked (printed by wip/tool/strings.py) -/
abbrev ps_b_can : ByteArray := prog_26_method_4_code
def ps_y_can : MethodName := ⟨"java/lang/StringLatin1", "canEncode", "(I)Z"⟩
theorem ps_d_can_0 : decode ps_b_can 0 = .ok (.iload_n 0, 1) := by decide +kernel
theorem ps_d_can_1 : decode ps_b_can 1 = .ok (.ifCond .lt 14, 3) := by decide +kernel
theorem ps_d_can_4 : decode ps_b_can 4 = .ok (.iload_n 0, 1) := by decide +kernel
theorem ps_d_can_5 : decode ps_b_can 5 = .ok (.sipush 255, 3) := by decide +kernel
theorem ps_d_can_8 : decode ps_b_can 8 = .ok (.if_icmp .gt 7, 3) := by decide +kernel
theorem ps_d_can_11 : decode ps_b_can 11 = .ok (.iconst 1, 1) := by decide +kernel
theorem ps_d_can_12 : decode ps_b_can 12 = .ok (.goto 4, 3) := by decide +kernel
theorem ps_d_can_15 : decode ps_b_can 15 = .ok (.iconst 0, 1) := by decide +kernel
theorem ps_d_can_16 : decode ps_b_can 16 = .ok (.ireturn, 1) := by decide +kernel
abbrev ps_b_ixc : ByteArray := prog_26_method_23_code
def ps_y_ixc : MethodName := ⟨"java/lang/StringLatin1", "indexOfChar", "([BIII)I"⟩
theorem ps_d_ixc_0 : decode ps_b_ixc 0 = .ok (.iload_n 1, 1) := by decide +kernel
theorem ps_d_ixc_1 : decode ps_b_ixc 1 = .ok (.i2b, 1) := by decide +kernel
theorem ps_d_ixc_2 : decode ps_b_ixc 2 = .ok (.istore 4, 2) := by decide +kernel
theorem ps_d_ixc_4 : decode ps_b_ixc 4 = .ok (.iload_n 2, 1) := by decide +kernel
theorem ps_d_ixc_5 : decode ps_b_ixc 5 = .ok (.istore 5, 2) := by decide +kernel
theorem ps_d_ixc_7 : decode ps_b_ixc 7 = .ok (.iload 5, 2) := by decide +kernel
theorem ps_d_ixc_9 : decode ps_b_ixc 9 = .ok (.iload_n 3, 1) := by decide +kernel
theorem ps_d_ixc_10 : decode ps_b_ixc 10 = .ok (.if_icmp .ge 21, 3) := by decide +kernel
theorem ps_d_ixc_13 : decode ps_b_ixc 13 = .ok (.aload_n 0, 1) := by decide +kernel
theorem ps_d_ixc_14 : decode ps_b_ixc 14 = .ok (.iload 5, 2) := by decide +kernel
theorem ps_d_ixc_16 : decode ps_b_ixc 16 = .ok (.baload, 1) := by decide +kernel
theorem ps_d_ixc_17 : decode ps_b_ixc 17 = .ok (.iload 4, 2) := by decide +kernel
theorem ps_d_ixc_19 : decode ps_b_ixc 19 = .ok (.if_icmp .ne 6, 3) := by decide +kernel
theorem ps_d_ixc_22 : decode ps_b_ixc 22 = .ok (.iload 5, 2) := by decide +kernel
theorem ps_d_ixc_24 : decode ps_b_ixc 24 = .ok (.ireturn, 1) := by decide +kernel
theorem ps_d_ixc_25 : decode ps_b_ixc 25 = .ok (.iinc 5 1, 3) := by decide +kernel
theorem ps_d_ixc_28 : decode ps_b_ixc 28 = .ok (.goto (-21), 3) := by decide +kernel
theorem ps_d_ixc_31 : decode ps_b_ixc 31 = .ok (.iconst (-1), 1) := by decide +kernel
theorem ps_d_ixc_32 : decode ps_b_ixc 32 = .ok (.ireturn, 1) := by decide +kernel
abbrev ps_b_lix : ByteArray := prog_26_method_22_code
def ps_y_lix : MethodName := ⟨"java/lang/StringLatin1", "indexOf", "([BIII)I"⟩
theorem ps_d_lix_0 : decode ps_b_lix 0 = .ok (.iload_n 1, 1) := by decide +kernel
theorem ps_d_lix_1 : decode ps_b_lix 1 = .ok (.invokestatic 88, 3) := by decide +kernel
theorem ps_d_lix_4 : decode ps_b_lix 4 = .ok (.ifCond .ne 5, 3) := by decide +kernel
theorem ps_d_lix_7 : decode ps_b_lix 7 = .ok (.iconst (-1), 1) := by decide +kernel
theorem ps_d_lix_8 : decode ps_b_lix 8 = .ok (.ireturn, 1) := by decide +kernel
theorem ps_d_lix_9 : decode ps_b_lix 9 = .ok (.iload_n 2, 1) := by decide +kernel
theorem ps_d_lix_10 : decode ps_b_lix 10 = .ok (.iconst 0, 1) := by decide +kernel
theorem ps_d_lix_11 : decode ps_b_lix 11 = .ok (.invokestatic 92, 3) := by decide +kernel
theorem ps_d_lix_14 : decode ps_b_lix 14 = .ok (.istore_n 2, 1) := by decide +kernel
theorem ps_d_lix_15 : decode ps_b_lix 15 = .ok (.iload_n 3, 1) := by decide +kernel
theorem ps_d_lix_16 : decode ps_b_lix 16 = .ok (.aload_n 0, 1) := by decide +kernel
theorem ps_d_lix_17 : decode ps_b_lix 17 = .ok (.arraylength, 1) := by decide +kernel
theorem ps_d_lix_18 : decode ps_b_lix 18 = .ok (.invokestatic 38, 3) := by decide +kernel
theorem ps_d_lix_21 : decode ps_b_lix 21 = .ok (.istore_n 3, 1) := by decide +kernel
theorem ps_d_lix_22 : decode ps_b_lix 22 = .ok (.iload_n 2, 1) := by decide +kernel
theorem ps_d_lix_23 : decode ps_b_lix 23 = .ok (.iload_n 3, 1) := by decide +kernel
theorem ps_d_lix_24 : decode ps_b_lix 24 = .ok (.if_icmp .lt 5, 3) := by decide +kernel
theorem ps_d_lix_27 : decode ps_b_lix 27 = .ok (.iconst (-1), 1) := by decide +kernel
theorem ps_d_lix_28 : decode ps_b_lix 28 = .ok (.ireturn, 1) := by decide +kernel
theorem ps_d_lix_29 : decode ps_b_lix 29 = .ok (.aload_n 0, 1) := by decide +kernel
theorem ps_d_lix_30 : decode ps_b_lix 30 = .ok (.iload_n 1, 1) := by decide +kernel
theorem ps_d_lix_31 : decode ps_b_lix 31 = .ok (.iload_n 2, 1) := by decide +kernel
theorem ps_d_lix_32 : decode ps_b_lix 32 = .ok (.iload_n 3, 1) := by decide +kernel
theorem ps_d_lix_33 : decode ps_b_lix 33 = .ok (.invokestatic 95, 3) := by decide +kernel
theorem ps_d_lix_36 : decode ps_b_lix 36 = .ok (.ireturn, 1) := by decide +kernel
abbrev ps_b_coder : ByteArray := prog_25_method_152_code
def ps_y_coder : MethodName := ⟨"java/lang/String", "coder", "()B"⟩
theorem ps_d_coder_0 : decode ps_b_coder 0 = .ok (.getstatic 38, 3) := by decide +kernel
theorem ps_d_coder_3 : decode ps_b_coder 3 = .ok (.ifCond .eq 10, 3) := by decide +kernel
theorem ps_d_coder_6 : decode ps_b_coder 6 = .ok (.aload_n 0, 1) := by decide +kernel
theorem ps_d_coder_7 : decode ps_b_coder 7 = .ok (.getfield 15, 3) := by decide +kernel
theorem ps_d_coder_10 : decode ps_b_coder 10 = .ok (.goto 4, 3) := by decide +kernel
theorem ps_d_coder_14 : decode ps_b_coder 14 = .ok (.ireturn, 1) := by decide +kernel
abbrev ps_b_len : ByteArray := prog_25_method_54_code
def ps_y_len : MethodName := ⟨"java/lang/String", "length", "()I"⟩
theorem ps_d_len_0 : decode ps_b_len 0 = .ok (.aload_n 0, 1) := by decide +kernel
theorem ps_d_len_1 : decode ps_b_len 1 = .ok (.getfield 9, 3) := by decide +kernel
theorem ps_d_len_4 : decode ps_b_len 4 = .ok (.arraylength, 1) := by decide +kernel
theorem ps_d_len_5 : decode ps_b_len 5 = .ok (.aload_n 0, 1) := by decide +kernel
theorem ps_d_len_6 : decode ps_b_len 6 = .ok (.invokevirtual 335, 3) := by decide +kernel
theorem ps_d_len_9 : decode ps_b_len 9 = .ok (.ishr, 1) := by decide +kernel
theorem ps_d_len_10 : decode ps_b_len 10 = .ok (.ireturn, 1) := by decide +kernel
abbrev ps_b_lat : ByteArray := prog_25_method_154_code
def ps_y_lat : MethodName := ⟨"java/lang/String", "isLatin1", "()Z"⟩
theorem ps_d_lat_0 : decode ps_b_lat 0 = .ok (.getstatic 38, 3) := by decide +kernel
theorem ps_d_lat_3 : decode ps_b_lat 3 = .ok (.ifCond .eq 14, 3) := by decide +kernel
theorem ps_d_lat_6 : decode ps_b_lat 6 = .ok (.aload_n 0, 1) := by decide +kernel
theorem ps_d_lat_7 : decode ps_b_lat 7 = .ok (.getfield 15, 3) := by decide +kernel
theorem ps_d_lat_10 : decode ps_b_lat 10 = .ok (.ifCond .ne 7, 3) := by decide +kernel
theorem ps_d_lat_13 : decode ps_b_lat 13 = .ok (.iconst 1, 1) := by decide +kernel
theorem ps_d_lat_14 : decode ps_b_lat 14 = .ok (.goto 4, 3) := by decide +kernel
theorem ps_d_lat_18 : decode ps_b_lat 18 = .ok (.ireturn, 1) := by decide +kernel
abbrev ps_b_ix2 : ByteArray := prog_25_method_80_code
def ps_y_ix2 : MethodName := ⟨"java/lang/String", "indexOf", "(II)I"⟩
theorem ps_d_ix2_0 : decode ps_b_ix2 0 = .ok (.aload_n 0, 1) := by decide +kernel
theorem ps_d_ix2_1 : decode ps_b_ix2 1 = .ok (.invokevirtual 492, 3) := by decide +kernel
theorem ps_d_ix2_4 : decode ps_b_ix2 4 = .ok (.ifCond .eq 19, 3) := by decide +kernel
theorem ps_d_ix2_7 : decode ps_b_ix2 7 = .ok (.aload_n 0, 1) := by decide +kernel
theorem ps_d_ix2_8 : decode ps_b_ix2 8 = .ok (.getfield 9, 3) := by decide +kernel
theorem ps_d_ix2_11 : decode ps_b_ix2 11 = .ok (.iload_n 1, 1) := by decide +kernel
theorem ps_d_ix2_12 : decode ps_b_ix2 12 = .ok (.iload_n 2, 1) := by decide +kernel
theorem ps_d_ix2_13 : decode ps_b_ix2 13 = .ok (.aload_n 0, 1) := by decide +kernel
theorem ps_d_ix2_14 : decode ps_b_ix2 14 = .ok (.invokevirtual 505, 3) := by decide +kernel
theorem ps_d_ix2_17 : decode ps_b_ix2 17 = .ok (.invokestatic 637, 3) := by decide +kernel
theorem ps_d_ix2_20 : decode ps_b_ix2 20 = .ok (.goto 16, 3) := by decide +kernel
theorem ps_d_ix2_36 : decode ps_b_ix2 36 = .ok (.ireturn, 1) := by decide +kernel
abbrev ps_b_ix : ByteArray := prog_25_method_79_code
def ps_y_ix : MethodName := ⟨"java/lang/String", "indexOf", "(I)I"⟩
theorem ps_d_ix_0 : decode ps_b_ix 0 = .ok (.aload_n 0, 1) := by decide +kernel
theorem ps_d_ix_1 : decode ps_b_ix 1 = .ok (.iload_n 1, 1) := by decide +kernel
theorem ps_d_ix_2 : decode ps_b_ix 2 = .ok (.iconst 0, 1) := by decide +kernel
theorem ps_d_ix_3 : decode ps_b_ix 3 = .ok (.invokevirtual 633, 3) := by decide +kernel
theorem ps_d_ix_6 : decode ps_b_ix 6 = .ok (.ireturn, 1) := by decide +kernel
abbrev ps_b_pchk : ByteArray := prog_34_method_11_code
def ps_y_pchk : MethodName := ⟨"jdk/internal/util/Preconditions", "checkIndex", "(IILjava/util/function/BiFunction;)I"⟩
theorem ps_d_pchk_0 : decode ps_b_pchk 0 = .ok (.iload_n 0, 1) := by decide +kernel
theorem ps_d_pchk_1 : decode ps_b_pchk 1 = .ok (.ifCond .lt 8, 3) := by decide +kernel
theorem ps_d_pchk_4 : decode ps_b_pchk 4 = .ok (.iload_n 0, 1) := by decide +kernel
theorem ps_d_pchk_5 : decode ps_b_pchk 5 = .ok (.iload_n 1, 1) := by decide +kernel
theorem ps_d_pchk_6 : decode ps_b_pchk 6 = .ok (.if_icmp .lt 10, 3) := by decide +kernel
theorem ps_d_pchk_16 : decode ps_b_pchk 16 = .ok (.iload_n 0, 1) := by decide +kernel
theorem ps_d_pchk_17 : decode ps_b_pchk 17 = .ok (.ireturn, 1) := by decide +kernel
abbrev ps_b_chk : ByteArray := prog_25_method_155_code
def ps_y_chk : MethodName := ⟨"java/lang/String", "checkIndex", "(II)V"⟩
theorem ps_d_chk_0 : decode ps_b_chk 0 = .ok (.iload_n 0, 1) := by decide +kernel
theorem ps_d_chk_1 : decode ps_b_chk 1 = .ok (.iload_n 1, 1) := by decide +kernel
theorem ps_d_chk_2 : decode ps_b_chk 2 = .ok (.getstatic 1053, 3) := by decide +kernel
theorem ps_d_chk_5 : decode ps_b_chk 5 = .ok (.invokestatic 1059, 3) := by decide +kernel
theorem ps_d_chk_8 : decode ps_b_chk 8 = .ok (.pop, 1) := by decide +kernel
theorem ps_d_chk_9 : decode ps_b_chk 9 = .ok (.return_, 1) := by decide +kernel
abbrev ps_b_lca : ByteArray := prog_26_method_2_code
def ps_y_lca : MethodName := ⟨"java/lang/StringLatin1", "charAt", "([BI)C"⟩
theorem ps_d_lca_0 : decode ps_b_lca 0 = .ok (.iload_n 1, 1) := by decide +kernel
theorem ps_d_lca_1 : decode ps_b_lca 1 = .ok (.aload_n 0, 1) := by decide +kernel
theorem ps_d_lca_2 : decode ps_b_lca 2 = .ok (.arraylength, 1) := by decide +kernel
theorem ps_d_lca_3 : decode ps_b_lca 3 = .ok (.invokestatic 9, 3) := by decide +kernel
theorem ps_d_lca_6 : decode ps_b_lca 6 = .ok (.aload_n 0, 1) := by decide +kernel
theorem ps_d_lca_7 : decode ps_b_lca 7 = .ok (.iload_n 1, 1) := by decide +kernel
theorem ps_d_lca_8 : decode ps_b_lca 8 = .ok (.baload, 1) := by decide +kernel
theorem ps_d_lca_9 : decode ps_b_lca 9 = .ok (.sipush 255, 3) := by decide +kernel
theorem ps_d_lca_12 : decode ps_b_lca 12 = .ok (.iand, 1) := by decide +kernel
theorem ps_d_lca_13 : decode ps_b_lca 13 = .ok (.i2c, 1) := by decide +kernel
theorem ps_d_lca_14 : decode ps_b_lca 14 = .ok (.ireturn, 1) := by decide +kernel
abbrev ps_b_ca : ByteArray := prog_25_method_56_code
def ps_y_ca : MethodName := ⟨"java/lang/String", "charAt", "(I)C"⟩
theorem ps_d_ca_0 : decode ps_b_ca 0 = .ok (.aload_n 0, 1) := by decide +kernel
theorem ps_d_ca_1 : decode ps_b_ca 1 = .ok (.invokevirtual 492, 3) := by decide +kernel
theorem ps_d_ca_4 : decode ps_b_ca 4 = .ok (.ifCond .eq 12, 3) := by decide +kernel
theorem ps_d_ca_7 : decode ps_b_ca 7 = .ok (.aload_n 0, 1) := by decide +kernel
theorem ps_d_ca_8 : decode ps_b_ca 8 = .ok (.getfield 9, 3) := by decide +kernel
theorem ps_d_ca_11 : decode ps_b_ca 11 = .ok (.iload_n 1, 1) := by decide +kernel
theorem ps_d_ca_12 : decode ps_b_ca 12 = .ok (.invokestatic 495, 3) := by decide +kernel
theorem ps_d_ca_15 : decode ps_b_ca 15 = .ok (.ireturn, 1) := by decide +kernel
/-- what is read of a String constant: its two fields, its bytes; the two statics on the way -/
def ps_K (A : Nat → Prop) (U : State) : Prop := va_Z "java/lang/String" "COMPACT_STRINGS" "Z" (.int 1) A U U.heap ∧ va_Zq "jdk/internal/util/Preconditions" "SIOOBE_FORMATTER" "Ljava/util/function/BiFunction;" A U U.heap
def ps_O (A : Nat → Prop) (q v : Nat) (bs : List Int32) (U : State) : Prop := va_O "java/lang/String" q A U U.heap ∧ va_OF "java/lang/String" "coder" "B" (.int 0) q A U U.heap ∧ va_OF "java/lang/String" "value" "[B" (.ref v) q A U U.heap ∧ va_T .byte v bs.length (fun j => .int (bs.getD j 0)) A U U.heap
theorem ps_K.go {A : Nat → Prop} {s U : State} {locs : List Loc} (h : ps_K A s) (hal : s.vm.Alike U.vm) (hS : va_S A s.heap U.heap locs) : ps_K A U := ⟨va_Z.moved hal (h.1.kept hS.2.1), va_Zq.moved hal (h.2.kept hS.2.1)⟩
theorem ps_O.go {A : Nat → Prop} {s U : State} {q v : Nat} {bs : List Int32} {locs : List Loc} (h : ps_O A q v bs s) (hal : s.vm.Alike U.vm) (hS : va_S A s.heap U.heap locs) : ps_O A q v bs U := ⟨va_O.moved hal (h.1.kept hS.2.1), va_OF.moved hal (h.2.1.kept hS.2.1), va_OF.moved hal (h.2.2.1.kept hS.2.1), va_T.moved hal (h.2.2.2.kept hS.2.1)⟩
theorem ps_S0 {A : Nat → Prop} {s U : State} (h : U.heap = s.heap) : va_S A s.heap U.heap [] := by rw [h]; exact va_S.rf
/-- a start: the arguments, the String -/
def ps_P (av : List Value) (A : Nat → Prop) (q v : Nat) (bs : List Int32) : Array Value → State → Prop := fun a U => a = av.toArray ∧ ps_K A U ∧ ps_O A q v bs U
theorem ps_P_blind {av : List Value} {A : Nat → Prop} {q v : Nat} {bs : List Int32} : FrameBlind (ps_P av A q v bs) := by
  intro a U g mk h
  exact ⟨h.1, h.2.1.go (Vm.Alike.refl _) (ps_S0 rfl), h.2.2.go (Vm.Alike.refl _) (ps_S0 rfl)⟩
/-- an end: the answer, the heap as it was -/
def ps_Q (r : Option Value) : Array Value → State → Outcome → State → Prop := fun _ st oc t => oc = .returned r ∧ t.heap = st.heap
theorem ps_good {y : MethodName} {cc : ByteArray} {n : Nat} {ret : Option FieldType} (h : Cond.code y cc n ret ∈ tables_1) : GoodIn pm_W0 (Cond.code y cc n ret :: pm_W0) := fun w hw => by
  rcases List.mem_cons.mp hw with rfl | hw
  · exact ⟨pm_W0_of h rfl, good_of_word rfl⟩
  · exact ⟨hw, good_of_word (List.mem_filter.mp hw).2⟩
section PsC
variable {p : Program} {l : Launch} {e : Env} {R : Room} {s : State} {m : MethodId} {args : Array Value} {below : List Frame} {meth : Method} {c : Code} {H : Heap} {locs : List Loc} {cells slots : Nat} {Q : State → Prop}
theorem ps_ret {pc : Nat} {ls : Array Slot} {st0 rest : List Value} {r : Option Value} {a : Array Value} (hr : va_Run p l e R s m args below meth c H locs cells slots 0 0 (F0 m pc ls st0) rest (ps_Q r a) (fun _ => False)) (kk : W p l e R s m args below meth c H locs cells slots Q (F0 m (pc + 3) ls (r.toList ++ rest))) : W p l e R s m args below meth c H locs cells slots Q (F0 m pc ls st0) := by
  intro T hT X
  obtain ⟨v, st₀, t, T', L, h0, X', hL, e1, e2, ⟨hv, hh⟩, st⟩ := hr T hT X
  cases hv
  have hL0 : L = [] := by
    cases L with
    | nil => rfl
    | cons q L => exact (hL q List.mem_cons_self).elim
  subst hL0
  rw [List.append_nil] at X'
  obtain ⟨t2, a1, b1⟩ := kk T' (by rw [e1, hh, h0]) X'
  exact ⟨t2, st t2 a1, b1⟩
/-- a call of one of them on a String -/
theorem ps_callV {cc bytes : ByteArray} {nL maxL index n pc : Nat} {ls : Array Slot} {own : String} {y : MethodName} {ret : Option FieldType} {rm : Room} {Pc : Array Value → State → Prop} {r : Option Value} {q : Nat} {As rest : List Value}
    (S : CallFix p m c cc nL s args pm_W0 own) (hM : Met l y (Cond.code y bytes maxL ret :: pm_W0) rm Pc (ps_Q r) 0 0 (fun _ => False)) (hcd : Cond.code y bytes maxL ret ∈ tables_1) (hcl : y.cls = "java/lang/String") (hlk : Cond.methodLink own index y ∈ tables_1) (hin : Cond.instanceMethod y ∈ tables_1) (hse : Cond.selects "java/lang/String" y y ∈ tables_1)
    (hd : (parseMethodDescriptor y.desc).map (fun d => d.parameters.length) = some n) (hrm : rm.cells = 0 ∧ rm.slots = 0) (hR : rm.frames + 1 ≤ R.frames ∧ 8 + (maxL + 11) + rm.locals ≤ R.locals) (hp : PreV s H "java/lang/String" q Pc As) (hn : As.length = n) (hsz : ls.size = nL) (hW8 : (rest.map fun v => v.category).sum ≤ 8) (hdg : decode cc pc = .ok (.invokevirtual index, 3)) (hf : cells ≤ R.cells ∧ slots ≤ R.slots)
    (kk : W p l e R s m args below meth c H locs cells slots Q (F0 m (pc + 3) ls (r.toList ++ rest))) : W p l e R s m args below meth c H locs cells slots Q (F0 m pc ls (As.reverse ++ .ref q :: rest)) := by
  have hw := S.2.2.2.2
  refine ps_ret (a := (Value.ref q :: As).toArray) (va_runV (C := "java/lang/String") S hM ⟨callB_of n hw (ps_good hcd) rfl hrm.1 hrm.2 (hw _ (by rw [hcl]; exact pm_W0_of (by decide +kernel) rfl)) (hw _ (pm_W0_of hlk rfl)) ⟨by rw [hcl]; decide, by rw [hcl]; decide, hd⟩ hR, hw _ (pm_W0_of hin rfl), hw _ (pm_W0_of hse rfl)⟩ hp rfl hn hsz rfl (lv_room hW8) hdg hf) kk
theorem ps_callS {cc bytes : ByteArray} {nL maxL index n pc : Nat} {ls : Array Slot} {own : String} {y : MethodName} {ret : Option FieldType} {rm : Room} {Pc : Array Value → State → Prop} {r : Option Value} {As rest : List Value}
    (S : CallFix p m c cc nL s args pm_W0 own) (hM : Met l y (Cond.code y bytes maxL ret :: pm_W0) rm Pc (ps_Q r) 0 0 (fun _ => False)) (hcd : Cond.code y bytes maxL ret ∈ tables_1) (hini : Cond.initialized y.cls ∈ tables_1) (hlk : Cond.methodLink own index y ∈ tables_1) (hst : Cond.static y ∈ tables_1)
    (hd : y.cls ≠ "java/lang/invoke/MethodHandle" ∧ y.cls ≠ "java/lang/invoke/VarHandle" ∧ (parseMethodDescriptor y.desc).map (fun d => d.parameters.length) = some n) (hrm : rm.cells = 0 ∧ rm.slots = 0) (hR : rm.frames + 1 ≤ R.frames ∧ 8 + (maxL + 11) + rm.locals ≤ R.locals) (hp : PreS s H Pc As) (hn : As.length = n) (hsz : ls.size = nL) (hW8 : (rest.map fun v => v.category).sum ≤ 8) (hdg : decode cc pc = .ok (.invokestatic index, 3)) (hf : cells ≤ R.cells ∧ slots ≤ R.slots)
    (kk : W p l e R s m args below meth c H locs cells slots Q (F0 m (pc + 3) ls (r.toList ++ rest))) : W p l e R s m args below meth c H locs cells slots Q (F0 m pc ls (As.reverse ++ rest)) := by
  have hw := S.2.2.2.2
  refine ps_ret (a := As.toArray) (va_runS S hM ⟨callB_of n hw (ps_good hcd) rfl hrm.1 hrm.2 (hw _ (pm_W0_of hini rfl)) (hw _ (pm_W0_of hlk rfl)) hd hR, hw _ (pm_W0_of hst rfl)⟩ hp rfl hn hsz rfl (lv_room hW8) hdg hf) kk
end PsC
theorem ps_coder (l : Launch) (A : Nat → Prop) (q v : Nat) (bs : List Int32) : Met l ps_y_coder (Cond.code ps_y_coder ps_b_coder 1 (some .byte) :: pm_W0) { frames := 0, cells := 0, slots := 0, locals := 0 } (ps_P [.ref q] A q v bs) (ps_Q (some (.int 0))) 0 0 (fun _ => False) := by
  refine Met.ofW (cc := ps_b_coder) (maxL := 1) (ret := (some .byte)) (by decide) rfl ?_
  intro p e s m args below meth c s₁ B hml hv
  obtain ⟨rfl, ⟨hC, hZ⟩, hO, hcoder, hvalue, hT⟩ := hv
  have hx := B.exec
  have hb := B.bytes
  have hr := B.returns
  have hts := atoms_spec (ws := (Cond.code ps_y_coder ps_b_coder 1 (some .byte) :: pm_W0)) B.pre
  have hw : ∀ w ∈ pm_W0, w.before #[.ref q] s = true := fun w h => hts w (List.mem_cons_of_mem _ h)
  have hown : s.vm.findClass "java/lang/String" = some m.cls := findClass_of_methodNamed B.named
  have hlocks := B.notSynchronized
  have hS : va_S A s.heap s.heap [] := va_S.rf
  have hl := lv_entry ([.ref q]) (n := 1) (Nat.le_of_ble_eq_true rfl)
  rw [lg_entry_eq]
  generalize (lg_sl ([.ref q]) ++ List.replicate (1 - (lg_sl ([.ref q])).length) Slot.unset).toArray = ls at hl ⊢
  have hl : lv_has ls 1 [(0, .ref q)] := hl
  have hSx : CallFix p m c ps_b_coder 1 s #[.ref q] pm_W0 "java/lang/String" := ⟨hx, hb, hml, hown, hw⟩
  refine va_gets hx hb hC hS hown (hw (.fieldLink "java/lang/String" 38 "java/lang/String" "COMPACT_STRINGS" "Z") (pm_W0_of (by decide +kernel) rfl)) (fun _ h => h) ps_d_coder_0 ?_
  refine lv_if_eq hx hb ps_d_coder_3 (tgt := 13) (by decide) (fun h => absurd h (by decide)) (fun _ => ?_)
  refine lv_aload_n hx hb ps_d_coder_6 rfl (lv_at hl 0 rfl) ?_
  refine vk_getf hx hb hcoder hS hown (hw (.fieldLink "java/lang/String" 15 "java/lang/String" "coder" "B") (pm_W0_of (by decide +kernel) rfl)) (fun _ h => h) ps_d_coder_7 ?_
  refine lv_goto hx hb ps_d_coder_10 (tgt := 14) (by decide) ?_
  exact W.zret (ty := .byte) hx hb hr (by decide) (fun t ht hW => ⟨rfl, ht⟩) (fun q h => nomatch h) ps_d_coder_14
theorem ps_lat (l : Launch) (A : Nat → Prop) (q v : Nat) (bs : List Int32) : Met l ps_y_lat (Cond.code ps_y_lat ps_b_lat 1 (some .boolean) :: pm_W0) { frames := 0, cells := 0, slots := 0, locals := 0 } (ps_P [.ref q] A q v bs) (ps_Q (some (.int 1))) 0 0 (fun _ => False) := by
  refine Met.ofW (cc := ps_b_lat) (maxL := 1) (ret := (some .boolean)) (by decide) rfl ?_
  intro p e s m args below meth c s₁ B hml hv
  obtain ⟨rfl, ⟨hC, hZ⟩, hO, hcoder, hvalue, hT⟩ := hv
  have hx := B.exec
  have hb := B.bytes
  have hr := B.returns
  have hts := atoms_spec (ws := (Cond.code ps_y_lat ps_b_lat 1 (some .boolean) :: pm_W0)) B.pre
  have hw : ∀ w ∈ pm_W0, w.before #[.ref q] s = true := fun w h => hts w (List.mem_cons_of_mem _ h)
  have hown : s.vm.findClass "java/lang/String" = some m.cls := findClass_of_methodNamed B.named
  have hlocks := B.notSynchronized
  have hS : va_S A s.heap s.heap [] := va_S.rf
  have hl := lv_entry ([.ref q]) (n := 1) (Nat.le_of_ble_eq_true rfl)
  rw [lg_entry_eq]
  generalize (lg_sl ([.ref q]) ++ List.replicate (1 - (lg_sl ([.ref q])).length) Slot.unset).toArray = ls at hl ⊢
  have hl : lv_has ls 1 [(0, .ref q)] := hl
  have hSx : CallFix p m c ps_b_lat 1 s #[.ref q] pm_W0 "java/lang/String" := ⟨hx, hb, hml, hown, hw⟩
  refine va_gets hx hb hC hS hown (hw (.fieldLink "java/lang/String" 38 "java/lang/String" "COMPACT_STRINGS" "Z") (pm_W0_of (by decide +kernel) rfl)) (fun _ h => h) ps_d_lat_0 ?_
  refine lv_if_eq hx hb ps_d_lat_3 (tgt := 17) (by decide) (fun h => absurd h (by decide)) (fun _ => ?_)
  refine lv_aload_n hx hb ps_d_lat_6 rfl (lv_at hl 0 rfl) ?_
  refine vk_getf hx hb hcoder hS hown (hw (.fieldLink "java/lang/String" 15 "java/lang/String" "coder" "B") (pm_W0_of (by decide +kernel) rfl)) (fun _ h => h) ps_d_lat_7 ?_
  refine lv_if_ne hx hb ps_d_lat_10 (tgt := 17) (by decide) (fun h => absurd rfl h) (fun _ => ?_)
  refine lv_iconst hx hb ps_d_lat_13 (v := 1) rfl ?_
  refine lv_goto hx hb ps_d_lat_14 (tgt := 18) (by decide) ?_
  exact W.zret (ty := .boolean) hx hb hr (by decide) (fun t ht hW => ⟨rfl, ht⟩) (fun q h => nomatch h) ps_d_lat_18
theorem ps_len (l : Launch) (A : Nat → Prop) (q v : Nat) (bs : List Int32) : Met l ps_y_len (Cond.code ps_y_len ps_b_len 1 (some .int) :: pm_W0) { frames := 1, cells := 0, slots := 0, locals := 20 } (ps_P [.ref q] A q v bs) (ps_Q (some (.int (Int32.ofNat bs.length)))) 0 0 (fun _ => False) := by
  refine Met.ofW (cc := ps_b_len) (maxL := 1) (ret := (some .int)) (by decide) rfl ?_
  intro p e s m args below meth c s₁ B hml hv
  obtain ⟨rfl, ⟨hC, hZ⟩, hO, hcoder, hvalue, hT⟩ := hv
  have hx := B.exec
  have hb := B.bytes
  have hr := B.returns
  have hts := atoms_spec (ws := (Cond.code ps_y_len ps_b_len 1 (some .int) :: pm_W0)) B.pre
  have hw : ∀ w ∈ pm_W0, w.before #[.ref q] s = true := fun w h => hts w (List.mem_cons_of_mem _ h)
  have hown : s.vm.findClass "java/lang/String" = some m.cls := findClass_of_methodNamed B.named
  have hlocks := B.notSynchronized
  have hS : va_S A s.heap s.heap [] := va_S.rf
  have hl := lv_entry ([.ref q]) (n := 1) (Nat.le_of_ble_eq_true rfl)
  rw [lg_entry_eq]
  generalize (lg_sl ([.ref q]) ++ List.replicate (1 - (lg_sl ([.ref q])).length) Slot.unset).toArray = ls at hl ⊢
  have hl : lv_has ls 1 [(0, .ref q)] := hl
  have hSx : CallFix p m c ps_b_len 1 s #[.ref q] pm_W0 "java/lang/String" := ⟨hx, hb, hml, hown, hw⟩
  have hK : ps_K A s := ⟨hC, hZ⟩
  have hOO : ps_O A q v bs s := ⟨hO, hcoder, hvalue, hT⟩
  have hcl : ∃ cellB : Cell, s.heap[q]? = some cellB ∧ cellB.vm.isStatics = false ∧ s.vm.findClass "java/lang/String" = some cellB.cls := by
    obtain ⟨cell, h1, h2, h3, -⟩ := hO
    exact ⟨cell, h1, h2, h3⟩
  refine lv_aload_n hx hb ps_d_len_0 rfl (lv_at hl 0 rfl) ?_
  refine vk_getf hx hb hvalue hS hown (hw (.fieldLink "java/lang/String" 9 "java/lang/String" "value" "[B") (pm_W0_of (by decide +kernel) rfl)) (fun _ h => h) ps_d_len_1 ?_
  refine va_tlen hx hb hT hS rfl ps_d_len_4 ?_
  refine lv_aload_n hx hb ps_d_len_5 rfl (lv_at hl 0 rfl) ?_
  refine ps_callV (As := []) (rest := [.int (Int32.ofNat bs.length)]) (n := 0) hSx (ps_coder l A q v bs) (by decide +kernel) rfl (by decide +kernel) (by decide +kernel) (by decide +kernel) (by decide +kernel) ⟨rfl, rfl⟩ ⟨by decide, by decide⟩ ⟨ps_P_blind, hcl, fun U hU hW => ⟨rfl, hK.go hW.alike (ps_S0 hU), hOO.go hW.alike (ps_S0 hU)⟩⟩ rfl hl.1 (Nat.le_of_ble_eq_true rfl) ps_d_len_6 ⟨Nat.le_refl _, Nat.le_refl _⟩ ?_
  refine lv_ishr hx hb ps_d_len_9 ?_
  rw [sb_shr0]
  exact W.iret hx hb hr (fun t ht hW => ⟨rfl, ht⟩) (fun q h => nomatch h) ps_d_len_10
theorem ps_can (l : Launch) (A : Nat → Prop) (q v : Nat) (bs : List Int32) (z : Int32) : Met l ps_y_can (Cond.code ps_y_can ps_b_can 1 (some .boolean) :: pm_W0) { frames := 0, cells := 0, slots := 0, locals := 0 } (ps_P [.int z] A q v bs) (ps_Q (some (.int (if z < 0 ∨ (255 : Int32) < z then 0 else 1)))) 0 0 (fun _ => False) := by
  refine Met.ofW (cc := ps_b_can) (maxL := 1) (ret := (some .boolean)) (by decide) rfl ?_
  intro p e s m args below meth c s₁ B hml hv
  obtain ⟨rfl, ⟨hC, hZ⟩, hO, hcoder, hvalue, hT⟩ := hv
  have hx := B.exec
  have hb := B.bytes
  have hr := B.returns
  have hts := atoms_spec (ws := (Cond.code ps_y_can ps_b_can 1 (some .boolean) :: pm_W0)) B.pre
  have hw : ∀ w ∈ pm_W0, w.before #[.int z] s = true := fun w h => hts w (List.mem_cons_of_mem _ h)
  have hown : s.vm.findClass "java/lang/StringLatin1" = some m.cls := findClass_of_methodNamed B.named
  have hlocks := B.notSynchronized
  have hS : va_S A s.heap s.heap [] := va_S.rf
  have hl := lv_entry ([.int z]) (n := 1) (Nat.le_of_ble_eq_true rfl)
  rw [lg_entry_eq]
  generalize (lg_sl ([.int z]) ++ List.replicate (1 - (lg_sl ([.int z])).length) Slot.unset).toArray = ls at hl ⊢
  have hl : lv_has ls 1 [(0, .int z)] := hl
  have hSx : CallFix p m c ps_b_can 1 s #[.int z] pm_W0 "java/lang/StringLatin1" := ⟨hx, hb, hml, hown, hw⟩
  refine lv_iload_n hx hb ps_d_can_0 rfl (lv_at hl 0 rfl) ?_
  refine lv_if_lt hx hb ps_d_can_1 (tgt := 15) (by decide) (fun h => ?_) (fun h0 => ?_)
  · refine lv_iconst hx hb ps_d_can_15 (v := 0) rfl ?_
    rw [if_pos (Or.inl h)]
    exact W.zret (ty := .boolean) hx hb hr (by decide) (fun t ht hW => ⟨rfl, ht⟩) (fun q h => nomatch h) ps_d_can_16
  · refine lv_iload_n hx hb ps_d_can_4 rfl (lv_at hl 0 rfl) ?_
    refine lv_sipush hx hb ps_d_can_5 (v := 255) rfl ?_
    refine lv_icmp_gt hx hb ps_d_can_8 (tgt := 15) (by decide) (fun h => ?_) (fun h1 => ?_)
    · refine lv_iconst hx hb ps_d_can_15 (v := 0) rfl ?_
      rw [if_pos (Or.inr h)]
      exact W.zret (ty := .boolean) hx hb hr (by decide) (fun t ht hW => ⟨rfl, ht⟩) (fun q h => nomatch h) ps_d_can_16
    · refine lv_iconst hx hb ps_d_can_11 (v := 1) rfl ?_
      refine lv_goto hx hb ps_d_can_12 (tgt := 16) (by decide) ?_
      rw [if_neg (fun h => h.elim h0 h1)]
      exact W.zret (ty := .boolean) hx hb hr (by decide) (fun t ht hW => ⟨rfl, ht⟩) (fun q h => nomatch h) ps_d_can_16
theorem ps_pchk0 (l : Launch) (A : Nat → Prop) (q v : Nat) (bs : List Int32) (z n : Int32) (h0 : ¬ z < 0) (h1 : z < n) : Met l ps_y_pchk (Cond.code ps_y_pchk ps_b_pchk 3 (some .int) :: pm_W0) { frames := 0, cells := 0, slots := 0, locals := 0 } (ps_P [.int z, .int n, .null] A q v bs) (ps_Q (some (.int z))) 0 0 (fun _ => False) := by
  refine Met.ofW (cc := ps_b_pchk) (maxL := 3) (ret := (some .int)) (by decide) rfl ?_
  intro p e s m args below meth c s₁ B hml hv
  obtain ⟨rfl, ⟨hC, hZ⟩, hO, hcoder, hvalue, hT⟩ := hv
  have hx := B.exec
  have hb := B.bytes
  have hr := B.returns
  have hts := atoms_spec (ws := (Cond.code ps_y_pchk ps_b_pchk 3 (some .int) :: pm_W0)) B.pre
  have hw : ∀ w ∈ pm_W0, w.before #[.int z, .int n, .null] s = true := fun w h => hts w (List.mem_cons_of_mem _ h)
  have hown : s.vm.findClass "jdk/internal/util/Preconditions" = some m.cls := findClass_of_methodNamed B.named
  have hlocks := B.notSynchronized
  have hS : va_S A s.heap s.heap [] := va_S.rf
  have hl := lv_entry ([.int z, .int n, .null]) (n := 3) (Nat.le_of_ble_eq_true rfl)
  rw [lg_entry_eq]
  generalize (lg_sl ([.int z, .int n, .null]) ++ List.replicate (3 - (lg_sl ([.int z, .int n, .null])).length) Slot.unset).toArray = ls at hl ⊢
  have hl : lv_has ls 3 [(0, .int z), (1, .int n), (2, .null)] := hl
  have hSx : CallFix p m c ps_b_pchk 3 s #[.int z, .int n, .null] pm_W0 "jdk/internal/util/Preconditions" := ⟨hx, hb, hml, hown, hw⟩
  refine lv_iload_n hx hb ps_d_pchk_0 rfl (lv_at hl 0 rfl) ?_
  refine lv_if_lt hx hb ps_d_pchk_1 (tgt := 9) (by decide) (fun h => absurd h h0) (fun _ => ?_)
  refine lv_iload_n hx hb ps_d_pchk_4 rfl (lv_at hl 0 rfl) ?_
  refine lv_iload_n hx hb ps_d_pchk_5 rfl (lv_at hl 1 rfl) ?_
  refine lv_icmp_lt hx hb ps_d_pchk_6 (tgt := 16) (by decide) (fun _ => ?_) (fun h => absurd h1 h)
  refine lv_iload_n hx hb ps_d_pchk_16 rfl (lv_at hl 0 rfl) ?_
  exact W.iret hx hb hr (fun t ht hW => ⟨rfl, ht⟩) (fun q h => nomatch h) ps_d_pchk_17
theorem ps_pchk1 (l : Launch) (A : Nat → Prop) (q v : Nat) (bs : List Int32) (z n : Int32) (t0 : Nat) (h0 : ¬ z < 0) (h1 : z < n) : Met l ps_y_pchk (Cond.code ps_y_pchk ps_b_pchk 3 (some .int) :: pm_W0) { frames := 0, cells := 0, slots := 0, locals := 0 } (ps_P [.int z, .int n, .ref t0] A q v bs) (ps_Q (some (.int z))) 0 0 (fun _ => False) := by
  refine Met.ofW (cc := ps_b_pchk) (maxL := 3) (ret := (some .int)) (by decide) rfl ?_
  intro p e s m args below meth c s₁ B hml hv
  obtain ⟨rfl, ⟨hC, hZ⟩, hO, hcoder, hvalue, hT⟩ := hv
  have hx := B.exec
  have hb := B.bytes
  have hr := B.returns
  have hts := atoms_spec (ws := (Cond.code ps_y_pchk ps_b_pchk 3 (some .int) :: pm_W0)) B.pre
  have hw : ∀ w ∈ pm_W0, w.before #[.int z, .int n, .ref t0] s = true := fun w h => hts w (List.mem_cons_of_mem _ h)
  have hown : s.vm.findClass "jdk/internal/util/Preconditions" = some m.cls := findClass_of_methodNamed B.named
  have hlocks := B.notSynchronized
  have hS : va_S A s.heap s.heap [] := va_S.rf
  have hl := lv_entry ([.int z, .int n, .ref t0]) (n := 3) (Nat.le_of_ble_eq_true rfl)
  rw [lg_entry_eq]
  generalize (lg_sl ([.int z, .int n, .ref t0]) ++ List.replicate (3 - (lg_sl ([.int z, .int n, .ref t0])).length) Slot.unset).toArray = ls at hl ⊢
  have hl : lv_has ls 3 [(0, .int z), (1, .int n), (2, .ref t0)] := hl
  have hSx : CallFix p m c ps_b_pchk 3 s #[.int z, .int n, .ref t0] pm_W0 "jdk/internal/util/Preconditions" := ⟨hx, hb, hml, hown, hw⟩
  refine lv_iload_n hx hb ps_d_pchk_0 rfl (lv_at hl 0 rfl) ?_
  refine lv_if_lt hx hb ps_d_pchk_1 (tgt := 9) (by decide) (fun h => absurd h h0) (fun _ => ?_)
  refine lv_iload_n hx hb ps_d_pchk_4 rfl (lv_at hl 0 rfl) ?_
  refine lv_iload_n hx hb ps_d_pchk_5 rfl (lv_at hl 1 rfl) ?_
  refine lv_icmp_lt hx hb ps_d_pchk_6 (tgt := 16) (by decide) (fun _ => ?_) (fun h => absurd h1 h)
  refine lv_iload_n hx hb ps_d_pchk_16 rfl (lv_at hl 0 rfl) ?_
  exact W.iret hx hb hr (fun t ht hW => ⟨rfl, ht⟩) (fun q h => nomatch h) ps_d_pchk_17
theorem ps_chk (l : Launch) (A : Nat → Prop) (q v : Nat) (bs : List Int32) (z n : Int32) (h0 : ¬ z < 0) (h1 : z < n) : Met l ps_y_chk (Cond.code ps_y_chk ps_b_chk 2 none :: pm_W0) { frames := 1, cells := 0, slots := 0, locals := 22 } (ps_P [.int z, .int n] A q v bs) (ps_Q none) 0 0 (fun _ => False) := by
  refine Met.ofW (cc := ps_b_chk) (maxL := 2) (ret := none) (by decide) rfl ?_
  intro p e s m args below meth c s₁ B hml hv
  obtain ⟨rfl, ⟨hC, hZ⟩, hO, hcoder, hvalue, hT⟩ := hv
  have hx := B.exec
  have hb := B.bytes
  have hr := B.returns
  have hts := atoms_spec (ws := (Cond.code ps_y_chk ps_b_chk 2 none :: pm_W0)) B.pre
  have hw : ∀ w ∈ pm_W0, w.before #[.int z, .int n] s = true := fun w h => hts w (List.mem_cons_of_mem _ h)
  have hown : s.vm.findClass "java/lang/String" = some m.cls := findClass_of_methodNamed B.named
  have hlocks := B.notSynchronized
  have hS : va_S A s.heap s.heap [] := va_S.rf
  have hl := lv_entry ([.int z, .int n]) (n := 2) (Nat.le_of_ble_eq_true rfl)
  rw [lg_entry_eq]
  generalize (lg_sl ([.int z, .int n]) ++ List.replicate (2 - (lg_sl ([.int z, .int n])).length) Slot.unset).toArray = ls at hl ⊢
  have hl : lv_has ls 2 [(0, .int z), (1, .int n)] := hl
  have hSx : CallFix p m c ps_b_chk 2 s #[.int z, .int n] pm_W0 "java/lang/String" := ⟨hx, hb, hml, hown, hw⟩
  have hK : ps_K A s := ⟨hC, hZ⟩
  have hOO : ps_O A q v bs s := ⟨hO, hcoder, hvalue, hT⟩
  have hcl : ∃ cellB : Cell, s.heap[q]? = some cellB ∧ cellB.vm.isStatics = false ∧ s.vm.findClass "java/lang/String" = some cellB.cls := by
    obtain ⟨cell, h1, h2, h3, -⟩ := hO
    exact ⟨cell, h1, h2, h3⟩
  refine lv_iload_n hx hb ps_d_chk_0 rfl (lv_at hl 0 rfl) ?_
  refine lv_iload_n hx hb ps_d_chk_1 rfl (lv_at hl 1 rfl) ?_
  rcases hZ with hZ | ⟨t0, hZ⟩
  · refine va_gets hx hb hZ hS hown (hw (.fieldLink "java/lang/String" 1053 "jdk/internal/util/Preconditions" "SIOOBE_FORMATTER" "Ljava/util/function/BiFunction;") (pm_W0_of (by decide +kernel) rfl)) (fun _ h => h) ps_d_chk_2 ?_
    refine ps_callS (As := [.int z, .int n, .null]) (rest := []) (n := 3) hSx (ps_pchk0 l A q v bs z n h0 h1) (by decide +kernel) (by decide +kernel) (by decide +kernel) (by decide +kernel) ⟨by decide, by decide, by decide +kernel⟩ ⟨rfl, rfl⟩ ⟨by decide, by decide⟩ ⟨ps_P_blind, fun U hU hW => ⟨rfl, hK.go hW.alike (ps_S0 hU), hOO.go hW.alike (ps_S0 hU)⟩⟩ rfl hl.1 (Nat.le_of_ble_eq_true rfl) ps_d_chk_5 ⟨Nat.le_refl _, Nat.le_refl _⟩ ?_
    refine lv_pop hx hb ps_d_chk_8 rfl ?_
    exact W.vret hx hb hr (fun t ht hW => ⟨rfl, ht⟩) (fun q h => nomatch h) ps_d_chk_9
  · refine va_gets hx hb hZ hS hown (hw (.fieldLink "java/lang/String" 1053 "jdk/internal/util/Preconditions" "SIOOBE_FORMATTER" "Ljava/util/function/BiFunction;") (pm_W0_of (by decide +kernel) rfl)) (fun _ h => h) ps_d_chk_2 ?_
    refine ps_callS (As := [.int z, .int n, .ref t0]) (rest := []) (n := 3) hSx (ps_pchk1 l A q v bs z n t0 h0 h1) (by decide +kernel) (by decide +kernel) (by decide +kernel) (by decide +kernel) ⟨by decide, by decide, by decide +kernel⟩ ⟨rfl, rfl⟩ ⟨by decide, by decide⟩ ⟨ps_P_blind, fun U hU hW => ⟨rfl, hK.go hW.alike (ps_S0 hU), hOO.go hW.alike (ps_S0 hU)⟩⟩ rfl hl.1 (Nat.le_of_ble_eq_true rfl) ps_d_chk_5 ⟨Nat.le_refl _, Nat.le_refl _⟩ ?_
    refine lv_pop hx hb ps_d_chk_8 rfl ?_
    exact W.vret hx hb hr (fun t ht hW => ⟨rfl, ht⟩) (fun q h => nomatch h) ps_d_chk_9
theorem ps_lca (l : Launch) (A : Nat → Prop) (q v : Nat) (bs : List Int32) (j : Nat) (hj : j < bs.length) (hN : bs.length < 2 ^ 31) : Met l ps_y_lca (Cond.code ps_y_lca ps_b_lca 2 (some .char) :: pm_W0) { frames := 2, cells := 0, slots := 0, locals := 43 } (ps_P [.ref v, .int (nI j)] A q v bs) (ps_Q (some (.int (bs.getD j 0 &&& 255)))) 0 0 (fun _ => False) := by
  refine Met.ofW (cc := ps_b_lca) (maxL := 2) (ret := (some .char)) (by decide) rfl ?_
  intro p e s m args below meth c s₁ B hml hv
  obtain ⟨rfl, ⟨hC, hZ⟩, hO, hcoder, hvalue, hT⟩ := hv
  have hx := B.exec
  have hb := B.bytes
  have hr := B.returns
  have hts := atoms_spec (ws := (Cond.code ps_y_lca ps_b_lca 2 (some .char) :: pm_W0)) B.pre
  have hw : ∀ w ∈ pm_W0, w.before #[.ref v, .int (nI j)] s = true := fun w h => hts w (List.mem_cons_of_mem _ h)
  have hown : s.vm.findClass "java/lang/StringLatin1" = some m.cls := findClass_of_methodNamed B.named
  have hlocks := B.notSynchronized
  have hS : va_S A s.heap s.heap [] := va_S.rf
  have hl := lv_entry ([.ref v, .int (nI j)]) (n := 2) (Nat.le_of_ble_eq_true rfl)
  rw [lg_entry_eq]
  generalize (lg_sl ([.ref v, .int (nI j)]) ++ List.replicate (2 - (lg_sl ([.ref v, .int (nI j)])).length) Slot.unset).toArray = ls at hl ⊢
  have hl : lv_has ls 2 [(0, .ref v), (1, .int (nI j))] := hl
  have hSx : CallFix p m c ps_b_lca 2 s #[.ref v, .int (nI j)] pm_W0 "java/lang/StringLatin1" := ⟨hx, hb, hml, hown, hw⟩
  have hK : ps_K A s := ⟨hC, hZ⟩
  have hOO : ps_O A q v bs s := ⟨hO, hcoder, hvalue, hT⟩
  have hcl : ∃ cellB : Cell, s.heap[q]? = some cellB ∧ cellB.vm.isStatics = false ∧ s.vm.findClass "java/lang/String" = some cellB.cls := by
    obtain ⟨cell, h1, h2, h3, -⟩ := hO
    exact ⟨cell, h1, h2, h3⟩
  refine lv_iload_n hx hb ps_d_lca_0 rfl (lv_at hl 1 rfl) ?_
  refine lv_aload_n hx hb ps_d_lca_1 rfl (lv_at hl 0 rfl) ?_
  refine va_tlen hx hb hT hS (v := nI bs.length) rfl ps_d_lca_2 ?_
  refine ps_callS (As := [.int (nI j), .int (nI bs.length)]) (rest := []) (n := 2) hSx (ps_chk l A q v bs (nI j) (nI bs.length) (nI_pos (by omega)) (nI_lt hj hN)) (by decide +kernel) (by decide +kernel) (by decide +kernel) (by decide +kernel) ⟨by decide, by decide, by decide +kernel⟩ ⟨rfl, rfl⟩ ⟨by decide, by decide⟩ ⟨ps_P_blind, fun U hU hW => ⟨rfl, hK.go hW.alike (ps_S0 hU), hOO.go hW.alike (ps_S0 hU)⟩⟩ rfl hl.1 (Nat.le_of_ble_eq_true rfl) ps_d_lca_3 ⟨Nat.le_refl _, Nat.le_refl _⟩ ?_
  refine lv_aload_n hx hb ps_d_lca_6 rfl (lv_at hl 0 rfl) ?_
  refine lv_iload_n hx hb ps_d_lca_7 rfl (lv_at hl 1 rfl) ?_
  refine va_tb hx hb hT hS (vp_in_nI hj hN) (v := .int (bs.getD j 0)) (by show Value.int (bs.getD (nI j).toNatClampNeg 0) = _; rw [nI_clamp (by omega)]) ps_d_lca_8 ?_
  refine lv_sipush hx hb ps_d_lca_9 (v := 255) rfl ?_
  refine lv_iand hx hb ps_d_lca_12 ?_
  refine lv_i2c hx hb ps_d_lca_13 (v := bs.getD j 0 &&& 255) (sc_c2 _) ?_
  exact W.zret (ty := .char) hx hb hr (sc_nar _) (fun t ht hW => ⟨rfl, ht⟩) (fun q h => nomatch h) ps_d_lca_14
theorem ps_ca (l : Launch) (A : Nat → Prop) (q v : Nat) (bs : List Int32) (j : Nat) (hj : j < bs.length) (hN : bs.length < 2 ^ 31) : Met l ps_y_ca (Cond.code ps_y_ca ps_b_ca 2 (some .char) :: pm_W0) { frames := 3, cells := 0, slots := 0, locals := 64 } (ps_P [.ref q, .int (nI j)] A q v bs) (ps_Q (some (.int (bs.getD j 0 &&& 255)))) 0 0 (fun _ => False) := by
  refine Met.ofW (cc := ps_b_ca) (maxL := 2) (ret := (some .char)) (by decide) rfl ?_
  intro p e s m args below meth c s₁ B hml hv
  obtain ⟨rfl, ⟨hC, hZ⟩, hO, hcoder, hvalue, hT⟩ := hv
  have hx := B.exec
  have hb := B.bytes
  have hr := B.returns
  have hts := atoms_spec (ws := (Cond.code ps_y_ca ps_b_ca 2 (some .char) :: pm_W0)) B.pre
  have hw : ∀ w ∈ pm_W0, w.before #[.ref q, .int (nI j)] s = true := fun w h => hts w (List.mem_cons_of_mem _ h)
  have hown : s.vm.findClass "java/lang/String" = some m.cls := findClass_of_methodNamed B.named
  have hlocks := B.notSynchronized
  have hS : va_S A s.heap s.heap [] := va_S.rf
  have hl := lv_entry ([.ref q, .int (nI j)]) (n := 2) (Nat.le_of_ble_eq_true rfl)
  rw [lg_entry_eq]
  generalize (lg_sl ([.ref q, .int (nI j)]) ++ List.replicate (2 - (lg_sl ([.ref q, .int (nI j)])).length) Slot.unset).toArray = ls at hl ⊢
  have hl : lv_has ls 2 [(0, .ref q), (1, .int (nI j))] := hl
  have hSx : CallFix p m c ps_b_ca 2 s #[.ref q, .int (nI j)] pm_W0 "java/lang/String" := ⟨hx, hb, hml, hown, hw⟩
  have hK : ps_K A s := ⟨hC, hZ⟩
  have hOO : ps_O A q v bs s := ⟨hO, hcoder, hvalue, hT⟩
  have hcl : ∃ cellB : Cell, s.heap[q]? = some cellB ∧ cellB.vm.isStatics = false ∧ s.vm.findClass "java/lang/String" = some cellB.cls := by
    obtain ⟨cell, h1, h2, h3, -⟩ := hO
    exact ⟨cell, h1, h2, h3⟩
  refine lv_aload_n hx hb ps_d_ca_0 rfl (lv_at hl 0 rfl) ?_
  refine ps_callV (As := []) (rest := []) (n := 0) hSx (ps_lat l A q v bs) (by decide +kernel) rfl (by decide +kernel) (by decide +kernel) (by decide +kernel) (by decide +kernel) ⟨rfl, rfl⟩ ⟨by decide, by decide⟩ ⟨ps_P_blind, hcl, fun U hU hW => ⟨rfl, hK.go hW.alike (ps_S0 hU), hOO.go hW.alike (ps_S0 hU)⟩⟩ rfl hl.1 (Nat.le_of_ble_eq_true rfl) ps_d_ca_1 ⟨Nat.le_refl _, Nat.le_refl _⟩ ?_
  refine lv_if_eq hx hb ps_d_ca_4 (tgt := 16) (by decide) (fun h => absurd h (by decide)) (fun _ => ?_)
  refine lv_aload_n hx hb ps_d_ca_7 rfl (lv_at hl 0 rfl) ?_
  refine vk_getf hx hb hvalue hS hown (hw (.fieldLink "java/lang/String" 9 "java/lang/String" "value" "[B") (pm_W0_of (by decide +kernel) rfl)) (fun _ h => h) ps_d_ca_8 ?_
  refine lv_iload_n hx hb ps_d_ca_11 rfl (lv_at hl 1 rfl) ?_
  refine ps_callS (As := [.ref v, .int (nI j)]) (rest := []) (n := 2) hSx (ps_lca l A q v bs j hj hN) (by decide +kernel) (by decide +kernel) (by decide +kernel) (by decide +kernel) ⟨by decide, by decide, by decide +kernel⟩ ⟨rfl, rfl⟩ ⟨by decide, by decide⟩ ⟨ps_P_blind, fun U hU hW => ⟨rfl, hK.go hW.alike (ps_S0 hU), hOO.go hW.alike (ps_S0 hU)⟩⟩ rfl hl.1 (Nat.le_of_ble_eq_true rfl) ps_d_ca_12 ⟨Nat.le_refl _, Nat.le_refl _⟩ ?_
  exact W.zret (ty := .char) hx hb hr (sc_nar _) (fun t ht hW => ⟨rfl, ht⟩) (fun q h => nomatch h) ps_d_ca_15
/-- where a byte stands first, from place k on -/
def ps_ixF (z : Int32) : List Int32 → Nat → Int32
  | [], _ => -1
  | b :: l, k => if b = z then nI k else ps_ixF z l (k + 1)
theorem ps_ixc (l : Launch) (A : Nat → Prop) (q v : Nat) (bs : List Int32) (z : Int32) (hN : bs.length < 2 ^ 31) : Met l ps_y_ixc (Cond.code ps_y_ixc ps_b_ixc 6 (some .int) :: pm_W0) { frames := 0, cells := 0, slots := 0, locals := 0 } (ps_P [.ref v, .int z, .int (nI 0), .int (nI bs.length)] A q v bs) (ps_Q (some (.int (ps_ixF z.toInt8.toInt32 bs 0)))) 0 0 (fun _ => False) := by
  refine Met.ofW (cc := ps_b_ixc) (maxL := 6) (ret := (some .int)) (by decide) rfl ?_
  intro p e s m args below meth c s₁ B hml hv
  obtain ⟨rfl, ⟨hC, hZ⟩, hO, hcoder, hvalue, hT⟩ := hv
  have hx := B.exec
  have hb := B.bytes
  have hr := B.returns
  have hts := atoms_spec (ws := (Cond.code ps_y_ixc ps_b_ixc 6 (some .int) :: pm_W0)) B.pre
  have hw : ∀ w ∈ pm_W0, w.before #[.ref v, .int z, .int (nI 0), .int (nI bs.length)] s = true := fun w h => hts w (List.mem_cons_of_mem _ h)
  have hown : s.vm.findClass "java/lang/StringLatin1" = some m.cls := findClass_of_methodNamed B.named
  have hlocks := B.notSynchronized
  have hS : va_S A s.heap s.heap [] := va_S.rf
  have hl := lv_entry ([.ref v, .int z, .int (nI 0), .int (nI bs.length)]) (n := 6) (Nat.le_of_ble_eq_true rfl)
  rw [lg_entry_eq]
  generalize (lg_sl ([.ref v, .int z, .int (nI 0), .int (nI bs.length)]) ++ List.replicate (6 - (lg_sl ([.ref v, .int z, .int (nI 0), .int (nI bs.length)])).length) Slot.unset).toArray = ls at hl ⊢
  have hl : lv_has ls 6 [(0, .ref v), (1, .int z), (2, .int (nI 0)), (3, .int (nI bs.length))] := hl
  have hSx : CallFix p m c ps_b_ixc 6 s #[.ref v, .int z, .int (nI 0), .int (nI bs.length)] pm_W0 "java/lang/StringLatin1" := ⟨hx, hb, hml, hown, hw⟩
  refine lv_iload_n hx hb ps_d_ixc_0 rfl (lv_at hl 1 rfl) ?_
  refine lv_i2b hx hb ps_d_ixc_1 rfl ?_
  refine lv_istore hx hb ps_d_ixc_2 hl (by decide) rfl (fun ls hl => ?_)
  refine lv_iload_n hx hb ps_d_ixc_4 rfl (lv_at hl 3 rfl) ?_
  refine lv_istore hx hb ps_d_ixc_5 hl (by decide) rfl (fun ls hl => ?_)
  have loop : ∀ (r : List Int32) (k : Nat) (ls : Array Slot), bs.drop k = r → k ≤ bs.length → lv_has ls 6 [(5, .int (nI k)), (4, .int z.toInt8.toInt32), (0, .ref v), (1, .int z), (2, .int (nI 0)), (3, .int (nI bs.length))] → W p l e (headSpec (Cond.code ps_y_ixc ps_b_ixc 6 (some .int) :: pm_W0) { frames := 0, cells := 0, slots := 0, locals := 0 }).room s m #[.ref v, .int z, .int (nI 0), .int (nI bs.length)] below meth c s.heap [] 0 0 (MQ below (ps_Q (some (.int (ps_ixF z.toInt8.toInt32 r k)))) #[.ref v, .int z, .int (nI 0), .int (nI bs.length)] s 0 0 (fun _ => False)) (F0 m 7 ls []) := by
    intro r
    induction r with
    | nil =>
      intro k ls hd hk hl
      have hlen : bs.length ≤ k := List.drop_eq_nil_iff.mp hd
      refine lv_iload hx hb ps_d_ixc_7 (lv_at hl 0 rfl) ?_
      refine lv_iload_n hx hb ps_d_ixc_9 rfl (lv_at hl 5 rfl) ?_
      refine lv_icmp_ge hx hb ps_d_ixc_10 (tgt := 31) (by decide) (fun _ => ?_) (fun h => absurd (nI_le hlen (by omega)) h)
      refine lv_iconst hx hb ps_d_ixc_31 (v := -1) rfl ?_
      exact W.iret hx hb hr (fun t ht hW => ⟨rfl, ht⟩) (fun q h => nomatch h) ps_d_ixc_32
    | cons b r ih =>
      intro k ls hd hk hl
      obtain ⟨h1, h2, h3, -⟩ := sc_dropC hd
      refine lv_iload hx hb ps_d_ixc_7 (lv_at hl 0 rfl) ?_
      refine lv_iload_n hx hb ps_d_ixc_9 rfl (lv_at hl 5 rfl) ?_
      refine lv_icmp_ge hx hb ps_d_ixc_10 (tgt := 31) (by decide) (fun h => absurd h (nI_ge h1 hN)) (fun _ => ?_)
      refine lv_aload_n hx hb ps_d_ixc_13 rfl (lv_at hl 2 rfl) ?_
      refine lv_iload hx hb ps_d_ixc_14 (lv_at hl 0 rfl) ?_
      refine va_tb hx hb hT hS (vp_in_nI h1 hN) (v := .int b) (by show Value.int (bs.getD (nI k).toNatClampNeg 0) = _; rw [nI_clamp (by omega), h2]) ps_d_ixc_16 ?_
      refine lv_iload hx hb ps_d_ixc_17 (lv_at hl 1 rfl) ?_
      refine lv_icmp_ne hx hb ps_d_ixc_19 (tgt := 25) (by decide) (fun h => ?_) (fun h => ?_)
      · refine lv_iinc hx hb ps_d_ixc_25 hl (k := 0) rfl (v := nI (k + 1)) (nI_1 k) (by decide) rfl (fun ls hl => ?_)
        refine lv_goto hx hb ps_d_ixc_28 (tgt := 7) (by decide) ?_
        have e : ps_ixF z.toInt8.toInt32 (b :: r) k = ps_ixF z.toInt8.toInt32 r (k + 1) := by rw [ps_ixF, if_neg h]
        rw [e]
        exact ih (k + 1) ls h3 (by omega) hl
      · refine lv_iload hx hb ps_d_ixc_22 (lv_at hl 0 rfl) ?_
        have e : ps_ixF z.toInt8.toInt32 (b :: r) k = nI k := by rw [ps_ixF, if_pos h]
        rw [e]
        exact W.iret hx hb hr (fun t ht hW => ⟨rfl, ht⟩) (fun q h => nomatch h) ps_d_ixc_24
  exact loop bs 0 ls rfl (Nat.zero_le _) hl
def ps_ixv (z : Int32) (bs : List Int32) : Int32 := if z < 0 ∨ (255 : Int32) < z then -1 else ps_ixF z.toInt8.toInt32 bs 0
theorem ps_lix (l : Launch) (A : Nat → Prop) (q v : Nat) (bs : List Int32) (z : Int32) (h0 : 0 < bs.length) (hN : bs.length < 2 ^ 31) : Met l ps_y_lix (Cond.code ps_y_lix ps_b_lix 4 (some .int) :: pm_W0) { frames := 1, cells := 0, slots := 0, locals := 25 } (ps_P [.ref v, .int z, .int (nI 0), .int (nI bs.length)] A q v bs) (ps_Q (some (.int (ps_ixv z bs)))) 0 0 (fun _ => False) := by
  refine Met.ofW (cc := ps_b_lix) (maxL := 4) (ret := (some .int)) (by decide) rfl ?_
  intro p e s m args below meth c s₁ B hml hv
  obtain ⟨rfl, ⟨hC, hZ⟩, hO, hcoder, hvalue, hT⟩ := hv
  have hx := B.exec
  have hb := B.bytes
  have hr := B.returns
  have hts := atoms_spec (ws := (Cond.code ps_y_lix ps_b_lix 4 (some .int) :: pm_W0)) B.pre
  have hw : ∀ w ∈ pm_W0, w.before #[.ref v, .int z, .int (nI 0), .int (nI bs.length)] s = true := fun w h => hts w (List.mem_cons_of_mem _ h)
  have hown : s.vm.findClass "java/lang/StringLatin1" = some m.cls := findClass_of_methodNamed B.named
  have hlocks := B.notSynchronized
  have hS : va_S A s.heap s.heap [] := va_S.rf
  have hl := lv_entry ([.ref v, .int z, .int (nI 0), .int (nI bs.length)]) (n := 4) (Nat.le_of_ble_eq_true rfl)
  rw [lg_entry_eq]
  generalize (lg_sl ([.ref v, .int z, .int (nI 0), .int (nI bs.length)]) ++ List.replicate (4 - (lg_sl ([.ref v, .int z, .int (nI 0), .int (nI bs.length)])).length) Slot.unset).toArray = ls at hl ⊢
  have hl : lv_has ls 4 [(0, .ref v), (1, .int z), (2, .int (nI 0)), (3, .int (nI bs.length))] := hl
  have hSx : CallFix p m c ps_b_lix 4 s #[.ref v, .int z, .int (nI 0), .int (nI bs.length)] pm_W0 "java/lang/StringLatin1" := ⟨hx, hb, hml, hown, hw⟩
  have hK : ps_K A s := ⟨hC, hZ⟩
  have hOO : ps_O A q v bs s := ⟨hO, hcoder, hvalue, hT⟩
  have hcl : ∃ cellB : Cell, s.heap[q]? = some cellB ∧ cellB.vm.isStatics = false ∧ s.vm.findClass "java/lang/String" = some cellB.cls := by
    obtain ⟨cell, h1, h2, h3, -⟩ := hO
    exact ⟨cell, h1, h2, h3⟩
  refine lv_iload_n hx hb ps_d_lix_0 rfl (lv_at hl 1 rfl) ?_
  refine ps_callS (As := [.int z]) (rest := []) (n := 1) hSx (ps_can l A q v bs z) (by decide +kernel) (by decide +kernel) (by decide +kernel) (by decide +kernel) ⟨by decide, by decide, by decide +kernel⟩ ⟨rfl, rfl⟩ ⟨by decide, by decide⟩ ⟨ps_P_blind, fun U hU hW => ⟨rfl, hK.go hW.alike (ps_S0 hU), hOO.go hW.alike (ps_S0 hU)⟩⟩ rfl hl.1 (Nat.le_of_ble_eq_true rfl) ps_d_lix_1 ⟨Nat.le_refl _, Nat.le_refl _⟩ ?_
  by_cases hz : z < 0 ∨ (255 : Int32) < z
  · rw [if_pos hz]
    refine lv_if_ne hx hb ps_d_lix_4 (tgt := 9) (by decide) (fun h => absurd rfl h) (fun _ => ?_)
    refine lv_iconst hx hb ps_d_lix_7 (v := -1) rfl ?_
    have e : ps_ixv z bs = -1 := by unfold ps_ixv; rw [if_pos hz]
    rw [e]
    exact W.iret hx hb hr (fun t ht hW => ⟨rfl, ht⟩) (fun q h => nomatch h) ps_d_lix_8
  · rw [if_neg hz]
    refine lv_if_ne hx hb ps_d_lix_4 (tgt := 9) (by decide) (fun _ => ?_) (fun h => absurd h (by decide))
    have hmi : (Cond.initialized "java/lang/Math").before #[.ref v, .int z, .int (nI 0), .int (nI bs.length)] s = true := hw _ (pm_W0_of (by decide +kernel) rfl)
    refine lv_iload_n hx hb ps_d_lix_9 rfl (lv_at hl 2 rfl) ?_
    refine lv_iconst hx hb ps_d_lix_10 (v := nI 0) rfl ?_
    refine va_mmax hx hb (hml.trans hl.1.symm) hown (hw (.methodLink "java/lang/StringLatin1" 92 Lib.Math.max.name) (pm_W0_of (by decide +kernel) rfl)) (hw _ (pm_W0_of (by decide +kernel) rfl)) hmi (hw _ (pm_W0_of (by decide +kernel) rfl)) (by decide) (by decide) (Nat.le_refl _) (Nat.le_refl _) ps_d_lix_11 ?_
    rw [if_neg (by decide)]
    refine lv_istore_n hx hb ps_d_lix_14 rfl hl (by decide) rfl (fun ls hl => ?_)
    refine lv_iload_n hx hb ps_d_lix_15 rfl (lv_at hl 3 rfl) ?_
    refine lv_aload_n hx hb ps_d_lix_16 rfl (lv_at hl 1 rfl) ?_
    refine va_tlen hx hb hT hS (v := nI bs.length) rfl ps_d_lix_17 ?_
    refine va_mmin hx hb (hml.trans hl.1.symm) hown (hw (.methodLink "java/lang/StringLatin1" 38 Lib.Math.min.name) (pm_W0_of (by decide +kernel) rfl)) (hw _ (pm_W0_of (by decide +kernel) rfl)) hmi (hw _ (pm_W0_of (by decide +kernel) rfl)) (by decide) (by decide) (Nat.le_refl _) (Nat.le_refl _) ps_d_lix_18 ?_
    rw [if_neg Int32.lt_irrefl]
    refine lv_istore_n hx hb ps_d_lix_21 rfl hl (by decide) rfl (fun ls hl => ?_)
    refine lv_iload_n hx hb ps_d_lix_22 rfl (lv_at hl 1 rfl) ?_
    refine lv_iload_n hx hb ps_d_lix_23 rfl (lv_at hl 0 rfl) ?_
    refine lv_icmp_lt hx hb ps_d_lix_24 (tgt := 29) (by decide) (fun _ => ?_) (fun h => absurd (nI_lt h0 hN) h)
    refine lv_aload_n hx hb ps_d_lix_29 rfl (lv_at hl 2 rfl) ?_
    refine lv_iload_n hx hb ps_d_lix_30 rfl (lv_at hl 3 rfl) ?_
    refine lv_iload_n hx hb ps_d_lix_31 rfl (lv_at hl 1 rfl) ?_
    refine lv_iload_n hx hb ps_d_lix_32 rfl (lv_at hl 0 rfl) ?_
    refine ps_callS (As := [.ref v, .int z, .int (nI 0), .int (nI bs.length)]) (rest := []) (n := 4) hSx (ps_ixc l A q v bs z hN) (by decide +kernel) (by decide +kernel) (by decide +kernel) (by decide +kernel) ⟨by decide, by decide, by decide +kernel⟩ ⟨rfl, rfl⟩ ⟨by decide, by decide⟩ ⟨ps_P_blind, fun U hU hW => ⟨rfl, hK.go hW.alike (ps_S0 hU), hOO.go hW.alike (ps_S0 hU)⟩⟩ rfl hl.1 (Nat.le_of_ble_eq_true rfl) ps_d_lix_33 ⟨Nat.le_refl _, Nat.le_refl _⟩ ?_
    have e : ps_ixv z bs = ps_ixF z.toInt8.toInt32 bs 0 := by unfold ps_ixv; rw [if_neg hz]
    rw [e]
    exact W.iret hx hb hr (fun t ht hW => ⟨rfl, ht⟩) (fun q h => nomatch h) ps_d_lix_36
theorem ps_ix2 (l : Launch) (A : Nat → Prop) (q v : Nat) (bs : List Int32) (z : Int32) (h0 : 0 < bs.length) (hN : bs.length < 2 ^ 31) : Met l ps_y_ix2 (Cond.code ps_y_ix2 ps_b_ix2 3 (some .int) :: pm_W0) { frames := 2, cells := 0, slots := 0, locals := 48 } (ps_P [.ref q, .int z, .int (nI 0)] A q v bs) (ps_Q (some (.int (ps_ixv z bs)))) 0 0 (fun _ => False) := by
  refine Met.ofW (cc := ps_b_ix2) (maxL := 3) (ret := (some .int)) (by decide) rfl ?_
  intro p e s m args below meth c s₁ B hml hv
  obtain ⟨rfl, ⟨hC, hZ⟩, hO, hcoder, hvalue, hT⟩ := hv
  have hx := B.exec
  have hb := B.bytes
  have hr := B.returns
  have hts := atoms_spec (ws := (Cond.code ps_y_ix2 ps_b_ix2 3 (some .int) :: pm_W0)) B.pre
  have hw : ∀ w ∈ pm_W0, w.before #[.ref q, .int z, .int (nI 0)] s = true := fun w h => hts w (List.mem_cons_of_mem _ h)
  have hown : s.vm.findClass "java/lang/String" = some m.cls := findClass_of_methodNamed B.named
  have hlocks := B.notSynchronized
  have hS : va_S A s.heap s.heap [] := va_S.rf
  have hl := lv_entry ([.ref q, .int z, .int (nI 0)]) (n := 3) (Nat.le_of_ble_eq_true rfl)
  rw [lg_entry_eq]
  generalize (lg_sl ([.ref q, .int z, .int (nI 0)]) ++ List.replicate (3 - (lg_sl ([.ref q, .int z, .int (nI 0)])).length) Slot.unset).toArray = ls at hl ⊢
  have hl : lv_has ls 3 [(0, .ref q), (1, .int z), (2, .int (nI 0))] := hl
  have hSx : CallFix p m c ps_b_ix2 3 s #[.ref q, .int z, .int (nI 0)] pm_W0 "java/lang/String" := ⟨hx, hb, hml, hown, hw⟩
  have hK : ps_K A s := ⟨hC, hZ⟩
  have hOO : ps_O A q v bs s := ⟨hO, hcoder, hvalue, hT⟩
  have hcl : ∃ cellB : Cell, s.heap[q]? = some cellB ∧ cellB.vm.isStatics = false ∧ s.vm.findClass "java/lang/String" = some cellB.cls := by
    obtain ⟨cell, h1, h2, h3, -⟩ := hO
    exact ⟨cell, h1, h2, h3⟩
  refine lv_aload_n hx hb ps_d_ix2_0 rfl (lv_at hl 0 rfl) ?_
  refine ps_callV (As := []) (rest := []) (n := 0) hSx (ps_lat l A q v bs) (by decide +kernel) rfl (by decide +kernel) (by decide +kernel) (by decide +kernel) (by decide +kernel) ⟨rfl, rfl⟩ ⟨by decide, by decide⟩ ⟨ps_P_blind, hcl, fun U hU hW => ⟨rfl, hK.go hW.alike (ps_S0 hU), hOO.go hW.alike (ps_S0 hU)⟩⟩ rfl hl.1 (Nat.le_of_ble_eq_true rfl) ps_d_ix2_1 ⟨Nat.le_refl _, Nat.le_refl _⟩ ?_
  refine lv_if_eq hx hb ps_d_ix2_4 (tgt := 23) (by decide) (fun h => absurd h (by decide)) (fun _ => ?_)
  refine lv_aload_n hx hb ps_d_ix2_7 rfl (lv_at hl 0 rfl) ?_
  refine vk_getf hx hb hvalue hS hown (hw (.fieldLink "java/lang/String" 9 "java/lang/String" "value" "[B") (pm_W0_of (by decide +kernel) rfl)) (fun _ h => h) ps_d_ix2_8 ?_
  refine lv_iload_n hx hb ps_d_ix2_11 rfl (lv_at hl 1 rfl) ?_
  refine lv_iload_n hx hb ps_d_ix2_12 rfl (lv_at hl 2 rfl) ?_
  refine lv_aload_n hx hb ps_d_ix2_13 rfl (lv_at hl 0 rfl) ?_
  refine ps_callV (As := []) (rest := [.int (nI 0), .int z, .ref v]) (n := 0) hSx (ps_len l A q v bs) (by decide +kernel) rfl (by decide +kernel) (by decide +kernel) (by decide +kernel) (by decide +kernel) ⟨rfl, rfl⟩ ⟨by decide, by decide⟩ ⟨ps_P_blind, hcl, fun U hU hW => ⟨rfl, hK.go hW.alike (ps_S0 hU), hOO.go hW.alike (ps_S0 hU)⟩⟩ rfl hl.1 (Nat.le_of_ble_eq_true rfl) ps_d_ix2_14 ⟨Nat.le_refl _, Nat.le_refl _⟩ ?_
  refine ps_callS (As := [.ref v, .int z, .int (nI 0), .int (nI bs.length)]) (rest := []) (n := 4) hSx (ps_lix l A q v bs z h0 hN) (by decide +kernel) (by decide +kernel) (by decide +kernel) (by decide +kernel) ⟨by decide, by decide, by decide +kernel⟩ ⟨rfl, rfl⟩ ⟨by decide, by decide⟩ ⟨ps_P_blind, fun U hU hW => ⟨rfl, hK.go hW.alike (ps_S0 hU), hOO.go hW.alike (ps_S0 hU)⟩⟩ rfl hl.1 (Nat.le_of_ble_eq_true rfl) ps_d_ix2_17 ⟨Nat.le_refl _, Nat.le_refl _⟩ ?_
  refine lv_goto hx hb ps_d_ix2_20 (tgt := 36) (by decide) ?_
  exact W.iret hx hb hr (fun t ht hW => ⟨rfl, ht⟩) (fun q h => nomatch h) ps_d_ix2_36
theorem ps_ix (l : Launch) (A : Nat → Prop) (q v : Nat) (bs : List Int32) (z : Int32) (h0 : 0 < bs.length) (hN : bs.length < 2 ^ 31) : Met l ps_y_ix (Cond.code ps_y_ix ps_b_ix 2 (some .int) :: pm_W0) { frames := 3, cells := 0, slots := 0, locals := 70 } (ps_P [.ref q, .int z] A q v bs) (ps_Q (some (.int (ps_ixv z bs)))) 0 0 (fun _ => False) := by
  refine Met.ofW (cc := ps_b_ix) (maxL := 2) (ret := (some .int)) (by decide) rfl ?_
  intro p e s m args below meth c s₁ B hml hv
  obtain ⟨rfl, ⟨hC, hZ⟩, hO, hcoder, hvalue, hT⟩ := hv
  have hx := B.exec
  have hb := B.bytes
  have hr := B.returns
  have hts := atoms_spec (ws := (Cond.code ps_y_ix ps_b_ix 2 (some .int) :: pm_W0)) B.pre
  have hw : ∀ w ∈ pm_W0, w.before #[.ref q, .int z] s = true := fun w h => hts w (List.mem_cons_of_mem _ h)
  have hown : s.vm.findClass "java/lang/String" = some m.cls := findClass_of_methodNamed B.named
  have hlocks := B.notSynchronized
  have hS : va_S A s.heap s.heap [] := va_S.rf
  have hl := lv_entry ([.ref q, .int z]) (n := 2) (Nat.le_of_ble_eq_true rfl)
  rw [lg_entry_eq]
  generalize (lg_sl ([.ref q, .int z]) ++ List.replicate (2 - (lg_sl ([.ref q, .int z])).length) Slot.unset).toArray = ls at hl ⊢
  have hl : lv_has ls 2 [(0, .ref q), (1, .int z)] := hl
  have hSx : CallFix p m c ps_b_ix 2 s #[.ref q, .int z] pm_W0 "java/lang/String" := ⟨hx, hb, hml, hown, hw⟩
  have hK : ps_K A s := ⟨hC, hZ⟩
  have hOO : ps_O A q v bs s := ⟨hO, hcoder, hvalue, hT⟩
  have hcl : ∃ cellB : Cell, s.heap[q]? = some cellB ∧ cellB.vm.isStatics = false ∧ s.vm.findClass "java/lang/String" = some cellB.cls := by
    obtain ⟨cell, h1, h2, h3, -⟩ := hO
    exact ⟨cell, h1, h2, h3⟩
  refine lv_aload_n hx hb ps_d_ix_0 rfl (lv_at hl 0 rfl) ?_
  refine lv_iload_n hx hb ps_d_ix_1 rfl (lv_at hl 1 rfl) ?_
  refine lv_iconst hx hb ps_d_ix_2 (v := nI 0) rfl ?_
  refine ps_callV (As := [.int z, .int (nI 0)]) (rest := []) (n := 2) hSx (ps_ix2 l A q v bs z h0 hN) (by decide +kernel) rfl (by decide +kernel) (by decide +kernel) (by decide +kernel) (by decide +kernel) ⟨rfl, rfl⟩ ⟨by decide, by decide⟩ ⟨ps_P_blind, hcl, fun U hU hW => ⟨rfl, hK.go hW.alike (ps_S0 hU), hOO.go hW.alike (ps_S0 hU)⟩⟩ rfl hl.1 (Nat.le_of_ble_eq_true rfl) ps_d_ix_3 ⟨Nat.le_refl _, Nat.le_refl _⟩ ?_
  exact W.iret hx hb hr (fun t ht hW => ⟨rfl, ht⟩) (fun q h => nomatch h) ps_d_ix_6
