/-! one step of the picture machine, an instruction a case (printed by wip/tool/one.py) -/
theorem pm_lnE {k len : Nat} (hk : k ≠ 0) (h : (Nat.beq k 0 || Nat.beq k len) = true) : len = k := by
  rw [Bool.or_eq_true] at h
  rcases h with q | q
  · exact absurd (Nat.eq_of_beq_eq_true q) hk
  · exact (Nat.eq_of_beq_eq_true q).symm
/-- what a frame ends with -/
def pm_End (y : pm_Hd) (e : pm_M) (r : Option Value ⊕ Unit) (pc : Nat) (st : List Value) : Prop := match r with
  | .inl none => decode (pm_byt y.2.1) pc = .ok (.return_, 1) ∧ st = [] ∧ e.2.2.2.1 = 4
  | .inl (some v) => st = [v] ∧ pm_fit e.2.2.2.1 v = true ∧ ((e.2.2.2.1 ≤ 1 ∧ decode (pm_byt y.2.1) pc = .ok (.ireturn, 1)) ∨ (e.2.2.2.1 = 2 ∧ decode (pm_byt y.2.1) pc = .ok (.lreturn, 1)) ∨ (e.2.2.2.1 = 3 ∧ decode (pm_byt y.2.1) pc = .ok (.areturn, 1)))
  | .inr _ => st = [] ∧ ∃ ix b z w, decode (pm_byt y.2.1) pc = .ok (.new ix, 3) ∧ pm_get (pm_lnk e.2.2.1) ix = some (13, b, z, w) ∧ e.2.2.1 = 11 ∧ decode (pm_byt y.2.1) (pc + 3) = .ok (.dup, 1) ∧ decode (pm_byt y.2.1) (pc + 4) = .ok (.invokespecial 184, 3) ∧ decode (pm_byt y.2.1) (pc + 7) = .ok (.athrow, 1)
theorem pm_thr {m pc ix b z w : Nat} {e : pm_M} {y : pm_Hd} (he : pm_ent m = some e) (hy : pm_get pm_hds m = some y) (hok : pm_oki m e y pc (.new ix) = true) (hg : pm_get (pm_lnk e.2.2.1) ix = some (13, b, z, w)) : e.2.2.1 = 11 ∧ decode (pm_byt y.2.1) (pc + 3) = .ok (.dup, 1) ∧ decode (pm_byt y.2.1) (pc + 4) = .ok (.invokespecial 184, 3) ∧ decode (pm_byt y.2.1) (pc + 7) = .ok (.athrow, 1) := by
  have h : (match pm_get (pm_lnk e.2.2.1) ix with
    | some K => !Nat.beq K.1 13 || (Nat.beq e.2.2.1 11 && (decide (pm_get e.2.2.2.2 (pc + 3) = some (.dup, 1)) && (decide (pm_get e.2.2.2.2 (pc + 4) = some (.invokespecial 184, 3)) && decide (pm_get e.2.2.2.2 (pc + 7) = some (.athrow, 1)))))
    | none => true) = true := hok
  rw [hg] at h
  have h : (false || (Nat.beq e.2.2.1 11 && (decide (pm_get e.2.2.2.2 (pc + 3) = some (.dup, 1)) && (decide (pm_get e.2.2.2.2 (pc + 4) = some (.invokespecial 184, 3)) && decide (pm_get e.2.2.2.2 (pc + 7) = some (.athrow, 1)))))) = true := h
  simp only [Bool.false_or, Bool.and_eq_true, decide_eq_true_eq] at h
  obtain ⟨h1, h2, h3, h4⟩ := h
  exact ⟨Nat.eq_of_beq_eq_true h1, (pm_code he hy h2).1, (pm_code he hy h3).1, (pm_code he hy h4).1⟩
section PmO
variable {p : Program} {l : Launch} {e : Env} {R : Room} {s : State} {mid : MethodId} {args : Array Value} {below : List Frame} {meth : Method} {c : Code} {H : Heap} {locs : List Loc} {cells slots : Nat} {Q : State → Prop}
variable {D : va_G} {cA : Nat → ClassId} {A : Nat → Prop} {ad : Nat → Nat} {X : List (Nat × List Value)} {m : Nat} {E : pm_M} {y : pm_Hd} {hb sb x : Nat} {h : pm_H}
variable {d pc len : Nat} {ls : pm_L} {st : List Value} {ih : pm_I} {o : pm_H × (Option Value ⊕ Unit)}
set_option maxHeartbeats 4000000 in
theorem pm_one {i : Instr} (F : pm_Fr p s mid args meth c D cA A ad X m E y) (hX : pm_X0 X) (hA : pm_At s D cA A ad m hb sb x h H locs cells slots) (hd : decode (pm_byt y.2.1) pc = .ok (i, len)) (hln : (Nat.beq (pm_ln i) 0 || Nat.beq (pm_ln i) len) = true) (hok : pm_oki m E y pc i = true)
    (hroom : ∀ (h1 : pm_H) (q : Nat) (ls : pm_L) (st : List Value), ih d h1 m q ls st = some o → h1.length + x ≤ R.cells + hb ∧ pm_slt h1 + 6 * x ≤ R.slots + sb)
    (hK : ∀ h1 H1 locs1 cells1 slots1 q ls st, pm_At s D cA A ad m hb sb x h1 H1 locs1 cells1 slots1 → ih d h1 m q ls st = some o → pm_J p l e R s mid args below meth c H1 locs1 cells1 slots1 Q ad E.2.1 q ls st)
    (hend : o.1 = h → pm_End y E o.2 pc st → (∀ z, o.2 = .inr z → pm_scH h = true) → pm_J p l e R s mid args below meth c H locs cells slots Q ad E.2.1 pc ls st)
    (hinv : ∀ how ix, ((how = 1 ∧ i = .invokevirtual ix) ∨ (how = 2 ∧ i = .invokestatic ix) ∨ (how = 3 ∧ i = .invokespecial ix)) → len = 3 → pm_gInv X how ix ih d h m E.2.2.1 pc 3 ls st = some o → pm_J p l e R s mid args below meth c H locs cells slots Q ad E.2.1 pc ls st)
    (hr : pm_dsp X i ih d h m E.2.2.1 pc len ls st = some o) : pm_J p l e R s mid args below meth c H locs cells slots Q ad E.2.1 pc ls st := by
  have hK0 : ∀ q ls st, ih d h m q ls st = some o → pm_J p l e R s mid args below meth c H locs cells slots Q ad E.2.1 q ls st := fun q ls st => hK h H locs cells slots q ls st hA
  have hx := F.1
  have hbc := F.2.1
  cases i with
  | iconst n =>
    have hlen := pm_lnE (k := 1) (by decide) hln
    subst hlen
    have hr : pm_sC (.int (Int32.ofInt n)) (ih d h m) pc 1 ls st = some o := hr
    exact pm_jC (fun LS rest k => lv_iconst hx hbc hd rfl k) rfl hK0 hr
  | bipush n =>
    have hlen := pm_lnE (k := 2) (by decide) hln
    subst hlen
    have hr : pm_sC (.int (Int8.ofInt n).toInt32) (ih d h m) pc 2 ls st = some o := hr
    exact pm_jC (fun LS rest k => lv_bipush hx hbc hd rfl k) rfl hK0 hr
  | sipush n =>
    have hlen := pm_lnE (k := 3) (by decide) hln
    subst hlen
    have hr : pm_sC (.int (Int16.ofInt n).toInt32) (ih d h m) pc 3 ls st = some o := hr
    exact pm_jC (fun LS rest k => lv_sipush hx hbc hd rfl k) rfl hK0 hr
  | lconst n =>
    have hlen := pm_lnE (k := 1) (by decide) hln
    subst hlen
    have hr : pm_sC (.long (Int64.ofNat n.val)) (ih d h m) pc 1 ls st = some o := hr
    exact pm_jC (fun LS rest k => lv_lconst hx hbc hd rfl k) rfl hK0 hr
  | aload k =>
    have hlen := pm_lnE (k := 2) (by decide) hln
    subst hlen
    have hr : pm_sAld k (ih d h m) pc 2 ls st = some o := hr
    exact pm_jAld (fun x LS rest h1 k => lv_aload hx hbc hd h1 k) hK0 hr
  | aload_n k =>
    have hlen := pm_lnE (k := 1) (by decide) hln
    subst hlen
    have hr : pm_sAld k.val (ih d h m) pc 1 ls st = some o := hr
    exact pm_jAld (fun x LS rest h1 k => lv_aload_n hx hbc hd rfl h1 k) hK0 hr
  | iload k =>
    have hlen := pm_lnE (k := 2) (by decide) hln
    subst hlen
    have hr : pm_sIld k (ih d h m) pc 2 ls st = some o := hr
    exact pm_jIld (fun x LS rest h1 k => lv_iload hx hbc hd h1 k) hK0 hr
  | iload_n k =>
    have hlen := pm_lnE (k := 1) (by decide) hln
    subst hlen
    have hr : pm_sIld k.val (ih d h m) pc 1 ls st = some o := hr
    exact pm_jIld (fun x LS rest h1 k => lv_iload_n hx hbc hd rfl h1 k) hK0 hr
  | lload k =>
    have hlen := pm_lnE (k := 2) (by decide) hln
    subst hlen
    have hr : pm_sLld k (ih d h m) pc 2 ls st = some o := hr
    exact pm_jLld (fun x LS rest h1 k => lv_lload hx hbc hd h1 k) hK0 hr
  | lload_n k =>
    have hlen := pm_lnE (k := 1) (by decide) hln
    subst hlen
    have hr : pm_sLld k.val (ih d h m) pc 1 ls st = some o := hr
    exact pm_jLld (fun x LS rest h1 k => lv_lload_n hx hbc hd rfl h1 k) hK0 hr
  | istore k =>
    have hlen := pm_lnE (k := 2) (by decide) hln
    subst hlen
    have hr : pm_sIst k (ih d h m) pc 2 ls st = some o := hr
    exact pm_jIst (fun x LS rest lv h1 h2 kk => lv_istore hx hbc hd h1 h2 rfl kk) hK0 hr
  | istore_n k =>
    have hlen := pm_lnE (k := 1) (by decide) hln
    subst hlen
    have hr : pm_sIst k.val (ih d h m) pc 1 ls st = some o := hr
    exact pm_jIst (fun x LS rest lv h1 h2 kk => lv_istore_n hx hbc hd rfl h1 h2 rfl kk) hK0 hr
  | astore k =>
    have hlen := pm_lnE (k := 2) (by decide) hln
    subst hlen
    have hr : pm_sAst k (ih d h m) pc 2 ls st = some o := hr
    exact pm_jAst (fun x LS rest lv h1 h2 kk => lv_astore hx hbc hd h1 h2 rfl kk) hK0 hr
  | astore_n k =>
    have hlen := pm_lnE (k := 1) (by decide) hln
    subst hlen
    have hr : pm_sAst k.val (ih d h m) pc 1 ls st = some o := hr
    exact pm_jAst (fun x LS rest lv h1 h2 kk => lv_astore_n hx hbc hd rfl h1 h2 rfl kk) hK0 hr
  | lstore k =>
    have hlen := pm_lnE (k := 2) (by decide) hln
    subst hlen
    have hr : pm_sLst k (ih d h m) pc 2 ls st = some o := hr
    exact pm_jLst (fun x LS rest lv h1 h2 kk => lv_lstore hx hbc hd h1 h2 rfl kk) hK0 hr
  | lstore_n k =>
    have hlen := pm_lnE (k := 1) (by decide) hln
    subst hlen
    have hr : pm_sLst k.val (ih d h m) pc 1 ls st = some o := hr
    exact pm_jLst (fun x LS rest lv h1 h2 kk => lv_lstore_n hx hbc hd rfl h1 h2 rfl kk) hK0 hr
  | iinc k n =>
    have hlen := pm_lnE (k := 3) (by decide) hln
    subst hlen
    have hr : pm_sInc k n (ih d h m) pc 3 ls st = some o := hr
    exact pm_jInc (fun x LS rest lv j h1 h2 h3 kk => lv_iinc hx hbc hd h1 h2 rfl h3 rfl kk) hK0 hr
  | iadd =>
    have hlen := pm_lnE (k := 1) (by decide) hln
    subst hlen
    have hr : pm_sII (fun x y => x + y) (ih d h m) pc 1 ls st = some o := hr
    exact pm_jII (fun x y LS rest k => lv_iadd hx hbc hd k) hK0 hr
  | isub =>
    have hlen := pm_lnE (k := 1) (by decide) hln
    subst hlen
    have hr : pm_sII (fun x y => x - y) (ih d h m) pc 1 ls st = some o := hr
    exact pm_jII (fun x y LS rest k => lv_isub hx hbc hd k) hK0 hr
  | imul =>
    have hlen := pm_lnE (k := 1) (by decide) hln
    subst hlen
    have hr : pm_sII (fun x y => x * y) (ih d h m) pc 1 ls st = some o := hr
    exact pm_jII (fun x y LS rest k => lv_imul hx hbc hd k) hK0 hr
  | iand =>
    have hlen := pm_lnE (k := 1) (by decide) hln
    subst hlen
    have hr : pm_sII (fun x y => x &&& y) (ih d h m) pc 1 ls st = some o := hr
    exact pm_jII (fun x y LS rest k => lv_iand hx hbc hd k) hK0 hr
  | ior =>
    have hlen := pm_lnE (k := 1) (by decide) hln
    subst hlen
    have hr : pm_sII (fun x y => x ||| y) (ih d h m) pc 1 ls st = some o := hr
    exact pm_jII (fun x y LS rest k => lv_ior hx hbc hd k) hK0 hr
  | ishl =>
    have hlen := pm_lnE (k := 1) (by decide) hln
    subst hlen
    have hr : pm_sII (fun x y => x <<< (y &&& 31)) (ih d h m) pc 1 ls st = some o := hr
    exact pm_jII (fun x y LS rest k => lv_ishl hx hbc hd k) hK0 hr
  | ishr =>
    have hlen := pm_lnE (k := 1) (by decide) hln
    subst hlen
    have hr : pm_sII (fun x y => x >>> (y &&& 31)) (ih d h m) pc 1 ls st = some o := hr
    exact pm_jII (fun x y LS rest k => lv_ishr hx hbc hd k) hK0 hr
  | iushr =>
    have hlen := pm_lnE (k := 1) (by decide) hln
    subst hlen
    have hr : pm_sII (fun x y => (x.toUInt32 >>> (y.toUInt32 &&& Int32.toUInt32 31)).toInt32) (ih d h m) pc 1 ls st = some o := hr
    exact pm_jII (fun x y LS rest k => lv_iushr hx hbc hd rfl k) hK0 hr
  | idiv =>
    have hlen := pm_lnE (k := 1) (by decide) hln
    subst hlen
    have hr : pm_sIIz (fun x y => x / y) (ih d h m) pc 1 ls st = some o := hr
    exact pm_jIIz (fun x y LS rest h0 k => lv_idiv hx hbc hd h0 k) hK0 hr
  | irem =>
    have hlen := pm_lnE (k := 1) (by decide) hln
    subst hlen
    have hr : pm_sIIz (fun x y => x - x / y * y) (ih d h m) pc 1 ls st = some o := hr
    exact pm_jIIz (fun x y LS rest h0 k => lv_irem hx hbc hd h0 k) hK0 hr
  | ineg =>
    have hlen := pm_lnE (k := 1) (by decide) hln
    subst hlen
    have hr : pm_sI (fun x => -x) (ih d h m) pc 1 ls st = some o := hr
    exact pm_jI (fun x LS rest k => lv_ineg hx hbc hd k) hK0 hr
  | ladd =>
    have hlen := pm_lnE (k := 1) (by decide) hln
    subst hlen
    have hr : pm_sLL (fun x y => x + y) (ih d h m) pc 1 ls st = some o := hr
    exact pm_jLL (fun x y LS rest k => lv_ladd hx hbc hd k) hK0 hr
  | lsub =>
    have hlen := pm_lnE (k := 1) (by decide) hln
    subst hlen
    have hr : pm_sLL (fun x y => x - y) (ih d h m) pc 1 ls st = some o := hr
    exact pm_jLL (fun x y LS rest k => lv_lsub hx hbc hd k) hK0 hr
  | lmul =>
    have hlen := pm_lnE (k := 1) (by decide) hln
    subst hlen
    have hr : pm_sLL (fun x y => x * y) (ih d h m) pc 1 ls st = some o := hr
    exact pm_jLL (fun x y LS rest k => lv_lmul hx hbc hd k) hK0 hr
  | land =>
    have hlen := pm_lnE (k := 1) (by decide) hln
    subst hlen
    have hr : pm_sLL (fun x y => x &&& y) (ih d h m) pc 1 ls st = some o := hr
    exact pm_jLL (fun x y LS rest k => lv_land hx hbc hd k) hK0 hr
  | lor =>
    have hlen := pm_lnE (k := 1) (by decide) hln
    subst hlen
    have hr : pm_sLL (fun x y => x ||| y) (ih d h m) pc 1 ls st = some o := hr
    exact pm_jLL (fun x y LS rest k => lv_lor hx hbc hd k) hK0 hr
  | ldiv =>
    have hlen := pm_lnE (k := 1) (by decide) hln
    subst hlen
    have hr : pm_sLLz (fun x y => x / y) (ih d h m) pc 1 ls st = some o := hr
    exact pm_jLLz (fun x y LS rest h0 k => lv_ldiv hx hbc hd h0 k) hK0 hr
  | lrem =>
    have hlen := pm_lnE (k := 1) (by decide) hln
    subst hlen
    have hr : pm_sLLz (fun x y => x - x / y * y) (ih d h m) pc 1 ls st = some o := hr
    exact pm_jLLz (fun x y LS rest h0 k => lv_lrem hx hbc hd h0 k) hK0 hr
  | lneg =>
    have hlen := pm_lnE (k := 1) (by decide) hln
    subst hlen
    have hr : pm_sL (fun x => -x) (ih d h m) pc 1 ls st = some o := hr
    exact pm_jL (fun x LS rest k => lv_lneg hx hbc hd k) hK0 hr
  | lshl =>
    have hlen := pm_lnE (k := 1) (by decide) hln
    subst hlen
    have hr : pm_sLI (fun x y => x <<< (y.toInt64 &&& 63)) (ih d h m) pc 1 ls st = some o := hr
    exact pm_jLI (fun x y LS rest k => lv_lshl hx hbc hd rfl k) hK0 hr
  | lshr =>
    have hlen := pm_lnE (k := 1) (by decide) hln
    subst hlen
    have hr : pm_sLI (fun x y => x >>> (y.toInt64 &&& 63)) (ih d h m) pc 1 ls st = some o := hr
    exact pm_jLI (fun x y LS rest k => lv_lshr hx hbc hd rfl k) hK0 hr
  | lushr =>
    have hlen := pm_lnE (k := 1) (by decide) hln
    subst hlen
    have hr : pm_sLI (fun x y => (x.toUInt64 >>> (y.toInt64.toUInt64 &&& Int64.toUInt64 63)).toInt64) (ih d h m) pc 1 ls st = some o := hr
    exact pm_jLI (fun x y LS rest k => lv_lushr hx hbc hd rfl k) hK0 hr
  | lcmp =>
    have hlen := pm_lnE (k := 1) (by decide) hln
    subst hlen
    have hr : pm_sCmp (ih d h m) pc 1 ls st = some o := hr
    exact pm_jCmp (fun x y LS rest k => W.lcmp hx hbc hd k) hK0 hr
  | i2l =>
    have hlen := pm_lnE (k := 1) (by decide) hln
    subst hlen
    have hr : pm_sIL (fun x => x.toInt64) (ih d h m) pc 1 ls st = some o := hr
    exact pm_jIL (fun x LS rest k => lv_i2l hx hbc hd rfl k) hK0 hr
  | l2i =>
    have hlen := pm_lnE (k := 1) (by decide) hln
    subst hlen
    have hr : pm_sLi (fun x => x.toInt32) (ih d h m) pc 1 ls st = some o := hr
    exact pm_jLi (fun x LS rest k => lv_l2i hx hbc hd rfl k) hK0 hr
  | i2b =>
    have hlen := pm_lnE (k := 1) (by decide) hln
    subst hlen
    have hr : pm_sI (fun x => x.toInt8.toInt32) (ih d h m) pc 1 ls st = some o := hr
    exact pm_jI (fun x LS rest k => lv_i2b hx hbc hd rfl k) hK0 hr
  | i2c =>
    have hlen := pm_lnE (k := 1) (by decide) hln
    subst hlen
    have hr : pm_sI (fun x => (x.toUInt32 % 65536).toInt32) (ih d h m) pc 1 ls st = some o := hr
    exact pm_jI (fun x LS rest k => lv_i2c hx hbc hd rfl k) hK0 hr
  | dup =>
    have hlen := pm_lnE (k := 1) (by decide) hln
    subst hlen
    have hr : pm_sDup (ih d h m) pc 1 ls st = some o := hr
    exact pm_jDup (fun v LS rest h1 k => lv_dup hx hbc hd h1 k) hK0 hr
  | pop =>
    have hlen := pm_lnE (k := 1) (by decide) hln
    subst hlen
    have hr : pm_sPop (ih d h m) pc 1 ls st = some o := hr
    exact pm_jPop (fun v LS rest h1 k => lv_pop hx hbc hd h1 k) hK0 hr
  | pop2 =>
    have hlen := pm_lnE (k := 1) (by decide) hln
    subst hlen
    have hr : pm_sPop2 (ih d h m) pc 1 ls st = some o := hr
    exact pm_jPop2 (fun v LS rest h1 k => lv_pop2_2 hx hbc hd h1 k) hK0 hr
  | ifCond cd off =>
    have hlen := pm_lnE (k := 3) (by decide) hln
    subst hlen
    have hr : pm_sIf cd off (ih d h m) pc 3 ls st = some o := hr
    exact pm_jIf (fun x LS rest t ht k1 k2 => pm_rowIf hx hbc hd x LS rest t ht k1 k2) hK0 hr
  | if_icmp cd off =>
    have hlen := pm_lnE (k := 3) (by decide) hln
    subst hlen
    have hr : pm_sIf2 cd off (ih d h m) pc 3 ls st = some o := hr
    exact pm_jIf2 (fun x y LS rest t ht k1 k2 => pm_rowIf2 hx hbc hd x y LS rest t ht k1 k2) hK0 hr
  | goto off =>
    have hlen := pm_lnE (k := 3) (by decide) hln
    subst hlen
    have hr : pm_sGo off (ih d h m) pc 3 ls st = some o := hr
    exact pm_jGo (fun LS rest t ht k => lv_goto hx hbc hd ht k) hK0 hr
  | tableswitch d0 lo hi offs =>
    have hr : pm_sTsw d0 lo hi offs (ih d h m) pc len ls st = some o := hr
    exact pm_jTsw hx hbc hd hK0 hr
  | lookupswitch d0 ps =>
    have hr : pm_sLsw d0 ps (ih d h m) pc len ls st = some o := hr
    exact pm_jLsw hx hbc hd hK0 hr
  | ldc ix =>
    have hlen := pm_lnE (k := 2) (by decide) hln
    subst hlen
    have hr : pm_gLdc ix ih d h m E.2.2.1 pc 2 ls st = some o := hr
    exact pm_jLdc F hd hK0 hr
  | ldc_w ix =>
    have hlen := pm_lnE (k := 3) (by decide) hln
    subst hlen
    have hr : pm_gLdw ix ih d h m E.2.2.1 pc 3 ls st = some o := hr
    exact pm_jLdw F hd hK0 hr
  | ldc2_w ix =>
    have hlen := pm_lnE (k := 3) (by decide) hln
    subst hlen
    have hr : pm_gLd2 ix ih d h m E.2.2.1 pc 3 ls st = some o := hr
    exact pm_jLd2 F hd hK0 hr
  | getstatic ix =>
    have hlen := pm_lnE (k := 3) (by decide) hln
    subst hlen
    have hr : pm_gSta ix ih d h m E.2.2.1 pc 3 ls st = some o := hr
    exact pm_jSta F hA hd hK0 hr
  | getfield ix =>
    have hlen := pm_lnE (k := 3) (by decide) hln
    subst hlen
    have hr : pm_gGet ix ih d h m E.2.2.1 pc 3 ls st = some o := hr
    exact pm_jGet F hA hd hK0 hr
  | putfield ix =>
    have hlen := pm_lnE (k := 3) (by decide) hln
    subst hlen
    have hr : pm_gPut ix ih d h m E.2.2.1 pc 3 ls st = some o := hr
    have hok : (!Nat.beq m 309 && match pm_get (pm_lnk E.2.2.1) ix with
      | some K => match vwCl[K.2.1]? with
        | some r => !(r.2.1 K.2.2.1).2.2.2 || (Nat.beq K.2.1 E.2.2.1 && decide (y.1.name = "<init>"))
        | none => true
      | none => true) = true := hok
    rw [Bool.and_eq_true] at hok
    have hm : m ≠ 309 := fun q => by
      rw [q] at hok
      exact absurd hok.1 (by decide)
    refine pm_jPut F hA hd hm (fun ci k t C T N hg hv hf => ?_) (fun h1 H1 locs1 q ls st => hK h1 H1 locs1 cells slots q ls st) hr
    have h2 := hok.2
    rw [hg] at h2
    dsimp only at h2
    rw [hv] at h2
    dsimp only at h2
    rw [hf] at h2
    simp only [Bool.not_true, Bool.false_or, Bool.and_eq_true, decide_eq_true_eq] at h2
    exact ⟨Nat.eq_of_beq_eq_true h2.1, h2.2⟩
  | new ix =>
    have hlen := pm_lnE (k := 3) (by decide) hln
    subst hlen
    have hr : pm_gNew X ix ih d h m E.2.2.1 pc 3 ls st = some o := hr
    exact pm_jNew F hX hA hd hroom (fun b z w hg hs hst ho => hend (by rw [ho]) (by rw [ho]; exact ⟨hst, ix, b, z, w, hd, hg, pm_thr F.2.2.2.2.2.2.2.1 F.2.2.2.2.2.2.2.2.1 hok hg⟩) (fun _ _ => hs)) (fun h1 H1 c1 s1 q ls st => hK h1 H1 locs c1 s1 q ls st) hr
  | newarray t =>
    have hlen := pm_lnE (k := 2) (by decide) hln
    subst hlen
    have hr : pm_gNwa t ih d h m E.2.2.1 pc 2 ls st = some o := hr
    exact pm_jNwa F hA hd hroom (fun h1 H1 c1 s1 q ls st => hK h1 H1 locs c1 s1 q ls st) hr
  | anewarray ix =>
    have hlen := pm_lnE (k := 3) (by decide) hln
    subst hlen
    have hr : pm_gAnw ix ih d h m E.2.2.1 pc 3 ls st = some o := hr
    exact pm_jAnw F hA hd hroom (fun h1 H1 c1 s1 q ls st => hK h1 H1 locs c1 s1 q ls st) hr
  | arraylength =>
    have hlen := pm_lnE (k := 1) (by decide) hln
    subst hlen
    have hr : pm_gLen X ih d h m E.2.2.1 pc 1 ls st = some o := hr
    exact pm_jLen F hA hd hK0 hr
  | iaload =>
    have hlen := pm_lnE (k := 1) (by decide) hln
    subst hlen
    have hr : pm_gAld X 0 0 ih d h m E.2.2.1 pc 1 ls st = some o := hr
    exact pm_jIald F hA (pm_rowI F hA hd) (fun _ => hd) hK0 hr
  | baload =>
    have hlen := pm_lnE (k := 1) (by decide) hln
    subst hlen
    have hr : pm_gAld X 1 4 ih d h m E.2.2.1 pc 1 ls st = some o := hr
    exact pm_jIald F hA (pm_rowB F hA hd) (fun q => by omega) hK0 hr
  | caload =>
    have hlen := pm_lnE (k := 1) (by decide) hln
    subst hlen
    have hr : pm_gAld X 2 2 ih d h m E.2.2.1 pc 1 ls st = some o := hr
    exact pm_jIald F hA (pm_rowC F hA hd) (fun q => by omega) hK0 hr
  | laload =>
    have hlen := pm_lnE (k := 1) (by decide) hln
    subst hlen
    have hr : pm_gLald X ih d h m E.2.2.1 pc 1 ls st = some o := hr
    exact pm_jLald F hA hd hK0 hr
  | aaload =>
    have hlen := pm_lnE (k := 1) (by decide) hln
    subst hlen
    have hr : pm_gAald ih d h m E.2.2.1 pc 1 ls st = some o := hr
    exact pm_jAald F hA hd hK0 hr
  | iastore =>
    have hlen := pm_lnE (k := 1) (by decide) hln
    subst hlen
    have hr : pm_gIst 0 (fun x => x) ih d h m E.2.2.1 pc 1 ls st = some o := hr
    have hok : (!Nat.beq m 309) = true := hok
    have hm : m ≠ 309 := fun q => by
      rw [q] at hok
      exact absurd hok (by decide)
    refine pm_jIast hA hm (by decide) (by decide) (fun k v j z LS rest hk hin kk => ?_) (fun h1 H1 locs1 q ls st => hK h1 H1 locs1 cells slots q ls st) hr
    have ha := pm_ws_at (ad := ad) (cA := cA) hk
    rw [show pm_re ad cA (.inl (0, v)) = .inl (cA 0, v.length, .inl (fun j => pm_iv (v.getD j .null))) from rfl] at ha
    exact va_iast hx hbc F.2.2.2.2.2.1.1 hA.1.1 hA.1.2.1 (pm_S_self hA.2.1) k 0 ha rfl hin hd kk
  | bastore =>
    have hlen := pm_lnE (k := 1) (by decide) hln
    subst hlen
    have hr : pm_gIst 1 (fun x => x &&& 1) ih d h m E.2.2.1 pc 1 ls st = some o := hr
    have hok : (!Nat.beq m 309) = true := hok
    have hm : m ≠ 309 := fun q => by
      rw [q] at hok
      exact absurd hok (by decide)
    refine pm_jIast hA hm (by decide) (by decide) (fun k v j z LS rest hk hin kk => ?_) (fun h1 H1 locs1 q ls st => hK h1 H1 locs1 cells slots q ls st) hr
    have ha := pm_ws_at (ad := ad) (cA := cA) hk
    rw [show pm_re ad cA (.inl (1, v)) = .inl (cA 1, v.length, .inl (fun j => pm_iv (v.getD j .null))) from rfl] at ha
    exact va_zast hx hbc F.2.2.2.2.2.1.1 hA.1.1 hA.1.2.1 (pm_S_self hA.2.1) k 1 ha rfl hin hd kk
  | castore =>
    have hlen := pm_lnE (k := 1) (by decide) hln
    subst hlen
    have hr : pm_gIst 2 (fun x => x.toUInt32.toUInt16.toUInt32.toInt32) ih d h m E.2.2.1 pc 1 ls st = some o := hr
    have hok : (!Nat.beq m 309) = true := hok
    have hm : m ≠ 309 := fun q => by
      rw [q] at hok
      exact absurd hok (by decide)
    refine pm_jIast hA hm (by decide) (by decide) (fun k v j z LS rest hk hin kk => ?_) (fun h1 H1 locs1 q ls st => hK h1 H1 locs1 cells slots q ls st) hr
    have ha := pm_ws_at (ad := ad) (cA := cA) hk
    rw [show pm_re ad cA (.inl (2, v)) = .inl (cA 2, v.length, .inl (fun j => pm_iv (v.getD j .null))) from rfl] at ha
    exact va_cast hx hbc F.2.2.2.2.2.1.1 hA.1.1 hA.1.2.1 (pm_S_self hA.2.1) k 2 ha rfl hin hd kk
  | lastore =>
    have hlen := pm_lnE (k := 1) (by decide) hln
    subst hlen
    have hr : pm_gLst ih d h m E.2.2.1 pc 1 ls st = some o := hr
    have hok : (!Nat.beq m 309) = true := hok
    have hm : m ≠ 309 := fun q => by
      rw [q] at hok
      exact absurd hok (by decide)
    exact pm_jLast F hA hm hd (fun h1 H1 locs1 q ls st => hK h1 H1 locs1 cells slots q ls st) hr
  | aastore =>
    have hlen := pm_lnE (k := 1) (by decide) hln
    subst hlen
    have hr : pm_gAst ih d h m E.2.2.1 pc 1 ls st = some o := hr
    have hok : (!Nat.beq m 309) = true := hok
    have hm : m ≠ 309 := fun q => by
      rw [q] at hok
      exact absurd hok (by decide)
    exact pm_jAast F hA hm hd (fun h1 H1 locs1 q ls st => hK h1 H1 locs1 cells slots q ls st) hr
  | invokestatic ix =>
    have hlen := pm_lnE (k := 3) (by decide) hln
    subst hlen
    have hr : pm_gInv X 2 ix ih d h m E.2.2.1 pc 3 ls st = some o := hr
    exact hinv 2 ix (Or.inr (Or.inl ⟨rfl, rfl⟩)) rfl hr
  | invokevirtual ix =>
    have hlen := pm_lnE (k := 3) (by decide) hln
    subst hlen
    have hr : pm_gInv X 1 ix ih d h m E.2.2.1 pc 3 ls st = some o := hr
    exact hinv 1 ix (Or.inl ⟨rfl, rfl⟩) rfl hr
  | invokespecial ix =>
    have hlen := pm_lnE (k := 3) (by decide) hln
    subst hlen
    have hr : pm_gInv X 3 ix ih d h m E.2.2.1 pc 3 ls st = some o := hr
    exact hinv 3 ix (Or.inr (Or.inr ⟨rfl, rfl⟩)) rfl hr
  | ireturn =>
    have hlen := pm_lnE (k := 1) (by decide) hln
    subst hlen
    have hr : pm_gRet 0 1 ih d h m E.2.2.1 pc 1 ls st = some o := hr
    unfold pm_gRet at hr
    split at hr
    · rename_i v
      rw [F.2.2.2.2.2.2.2.1] at hr
      dsimp only at hr
      replace hr := pm_cond_true hr
      obtain ⟨hb1, hr⟩ := hr
      replace hr := pm_cond_true hr
      obtain ⟨hb2, hr⟩ := hr
      replace hr := pm_cond_true hr
      obtain ⟨hb3, hr⟩ := hr
      have ho := (Option.some.inj hr).symm
      have q1 := Nat.le_of_ble_eq_true hb1
      have q2 := Nat.le_of_ble_eq_true hb2
      exact hend (by rw [ho]) (by rw [ho]; exact ⟨rfl, hb3, Or.inl ⟨q2, hd⟩⟩) (fun z hz => by rw [ho] at hz; cases hz)
    · cases hr
  | lreturn =>
    have hlen := pm_lnE (k := 1) (by decide) hln
    subst hlen
    have hr : pm_gRet 2 2 ih d h m E.2.2.1 pc 1 ls st = some o := hr
    unfold pm_gRet at hr
    split at hr
    · rename_i v
      rw [F.2.2.2.2.2.2.2.1] at hr
      dsimp only at hr
      replace hr := pm_cond_true hr
      obtain ⟨hb1, hr⟩ := hr
      replace hr := pm_cond_true hr
      obtain ⟨hb2, hr⟩ := hr
      replace hr := pm_cond_true hr
      obtain ⟨hb3, hr⟩ := hr
      have ho := (Option.some.inj hr).symm
      have q1 := Nat.le_of_ble_eq_true hb1
      have q2 := Nat.le_of_ble_eq_true hb2
      exact hend (by rw [ho]) (by rw [ho]; exact ⟨rfl, hb3, Or.inr (Or.inl ⟨by omega, hd⟩)⟩) (fun z hz => by rw [ho] at hz; cases hz)
    · cases hr
  | areturn =>
    have hlen := pm_lnE (k := 1) (by decide) hln
    subst hlen
    have hr : pm_gRet 3 3 ih d h m E.2.2.1 pc 1 ls st = some o := hr
    unfold pm_gRet at hr
    split at hr
    · rename_i v
      rw [F.2.2.2.2.2.2.2.1] at hr
      dsimp only at hr
      replace hr := pm_cond_true hr
      obtain ⟨hb1, hr⟩ := hr
      replace hr := pm_cond_true hr
      obtain ⟨hb2, hr⟩ := hr
      replace hr := pm_cond_true hr
      obtain ⟨hb3, hr⟩ := hr
      have ho := (Option.some.inj hr).symm
      have q1 := Nat.le_of_ble_eq_true hb1
      have q2 := Nat.le_of_ble_eq_true hb2
      exact hend (by rw [ho]) (by rw [ho]; exact ⟨rfl, hb3, Or.inr (Or.inr ⟨by omega, hd⟩)⟩) (fun z hz => by rw [ho] at hz; cases hz)
    · cases hr
  | return_ =>
    have hlen := pm_lnE (k := 1) (by decide) hln
    subst hlen
    have hr : pm_gRtv ih d h m E.2.2.1 pc 1 ls st = some o := hr
    unfold pm_gRtv at hr
    split at hr
    · rw [F.2.2.2.2.2.2.2.1] at hr
      dsimp only at hr
      replace hr := pm_cond_true hr
      obtain ⟨hb1, hr⟩ := hr
      have ho := (Option.some.inj hr).symm
      exact hend (by rw [ho]) (by rw [ho]; exact ⟨hd, rfl, Nat.eq_of_beq_eq_true hb1⟩) (fun z hz => by rw [ho] at hz; cases hz)
    · cases hr
  | _ => exact nomatch (show (none : pm_R) = some o from hr)
end PmO
