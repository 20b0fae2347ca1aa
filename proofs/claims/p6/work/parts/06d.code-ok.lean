/-! the code of the methods: what decode gives, what stands in it (wip/tool/heads.py) -/
/-- an instruction's length; 0: any -/
def pm_ln (i : Instr) : Nat := match i with
  | .bipush _ => 2
  | .sipush _ => 3
  | .ldc _ => 2
  | .ldc_w _ => 3
  | .ldc2_w _ => 3
  | .aload _ => 2
  | .iload _ => 2
  | .lload _ => 2
  | .astore _ => 2
  | .istore _ => 2
  | .lstore _ => 2
  | .iinc _ _ => 3
  | .ifCond _ _ => 3
  | .if_icmp _ _ => 3
  | .goto _ => 3
  | .tableswitch _ _ _ _ => 0
  | .lookupswitch _ _ => 0
  | .getstatic _ => 3
  | .getfield _ => 3
  | .putfield _ => 3
  | .new _ => 3
  | .newarray _ => 2
  | .anewarray _ => 3
  | .invokestatic _ => 3
  | .invokevirtual _ => 3
  | .invokespecial _ => 3
  | .checkcast _ => 3
  | .ifnull _ => 3
  | .ifnonnull _ => 3
  | _ => 1
/-- what may stand where: no store in the law's own frame; a final field in its constructor alone; a throw as javac writes it -/
noncomputable def pm_oki (m : Nat) (e : pm_M) (y : pm_Hd) (pc : Nat) (i : Instr) : Bool := match i with
  | .putfield ix => !Nat.beq m 309 && match pm_get (pm_lnk e.2.2.1) ix with
    | some K => match vwCl[K.2.1]? with
      | some r => !(r.2.1 K.2.2.1).2.2.2 || (Nat.beq K.2.1 e.2.2.1 && decide (y.1.name = "<init>"))
      | none => true
    | none => true
  | .iastore => !Nat.beq m 309
  | .bastore => !Nat.beq m 309
  | .castore => !Nat.beq m 309
  | .lastore => !Nat.beq m 309
  | .aastore => !Nat.beq m 309
  | .invokestatic ix => match pm_get (pm_lnk e.2.2.1) ix with
    | some K => !(Nat.beq K.1 12 && Nat.beq m 309)
    | none => true
  | .new ix => match pm_get (pm_lnk e.2.2.1) ix with
    | some K => !Nat.beq K.1 13 || (Nat.beq e.2.2.1 11 && (decide (pm_get e.2.2.2.2 (pc + 3) = some (.dup, 1)) && (decide (pm_get e.2.2.2.2 (pc + 4) = some (.invokespecial 184, 3)) && decide (pm_get e.2.2.2.2 (pc + 7) = some (.athrow, 1)))))
    | none => true
  | _ => true
noncomputable def pm_crow (m : Nat) (e : pm_M) (y : pm_Hd) (q : Nat × Instr × Nat) : Bool := cond (decide (decode (pm_byt y.2.1) q.1 = .ok q.2)) (cond (Nat.beq (pm_ln q.2.1) 0 || Nat.beq (pm_ln q.2.1) q.2.2) (pm_oki m e y q.1 q.2.1) false) false
noncomputable def pm_cm (q : Nat × pm_M) : Bool := match pm_get pm_hds q.1 with
  | some y => pm_all (fun c => pm_all (pm_crow q.1 q.2 y) c) q.2.2.2.2.2
  | none => false
