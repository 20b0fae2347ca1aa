/-! the code of the methods: what decode gives, what stands in it (wip/tool/heads.py) -/
/-- an instruction's length; 0: any -/
def pm_ln (i : Instr) : Nat := match i with
  | .bipush _ => 2
  | .sipush _ => 3
  | .ldc _ => 2
  | .ldc_w _ => 3
  | .ldc2_w _ => 3
  | .aload _ => 2
  | .iload _ => 2
  | .lload _ => 2
  | .astore _ => 2
  | .istore _ => 2
  | .lstore _ => 2
  | .iinc _ _ => 3
  | .ifCond _ _ => 3
  | .if_icmp _ _ => 3
  | .goto _ => 3
  | .tableswitch _ _ _ _ => 0
  | .lookupswitch _ _ => 0
  | .getstatic _ => 3
  | .getfield _ => 3
  | .putfield _ => 3
  | .new _ => 3
  | .newarray _ => 2
  | .anewarray _ => 3
  | .invokestatic _ => 3
  | .invokevirtual _ => 3
  | .invokespecial _ => 3
  | .checkcast _ => 3
  | .ifnull _ => 3
  | .ifnonnull _ => 3
  | _ => 1
/-- what may stand where: no store in the law's own frame; a final field in its constructor alone; a throw as javac writes it -/
noncomputable def pm_oki (m : Nat) (e : pm_M) (y : pm_Hd) (pc : Nat) (i : Instr) : Bool := match i with
  | .putfield ix => !Nat.beq m 309 && match pm_get (pm_lnk e.2.2.1) ix with
    | some K => match vwCl[K.2.1]? with
      | some r => !(r.2.1 K.2.2.1).2.2.2 || (Nat.beq K.2.1 e.2.2.1 && decide (y.1.name = "<init>"))
      | none => true
    | none => true
  | .iastore => !Nat.beq m 309
  | .bastore => !Nat.beq m 309
  | .castore => !Nat.beq m 309
  | .lastore => !Nat.beq m 309
  | .aastore => !Nat.beq m 309
  | .invokestatic ix => match pm_get (pm_lnk e.2.2.1) ix with
    | some K => !(Nat.beq K.1 12 && Nat.beq m 309)
    | none => true
  | .new ix => match pm_get (pm_lnk e.2.2.1) ix with
    | some K => !Nat.beq K.1 13 || (Nat.beq e.2.2.1 11 && (decide (pm_get e.2.2.2.2 (pc + 3) = some (.dup, 1)) && (decide (pm_get e.2.2.2.2 (pc + 4) = some (.invokespecial 184, 3)) && decide (pm_get e.2.2.2.2 (pc + 7) = some (.athrow, 1)))))
    | none => true
  | _ => true
noncomputable def pm_crow (m : Nat) (e : pm_M) (y : pm_Hd) (q : Nat × Instr × Nat) : Bool := cond (decide (decode (pm_byt y.2.1) q.1 = .ok q.2)) (cond (Nat.beq (pm_ln q.2.1) 0 || Nat.beq (pm_ln q.2.1) q.2.2) (pm_oki m e y q.1 q.2.1) false) false
noncomputable def pm_cm (q : Nat × pm_M) : Bool := match pm_get pm_hds q.1 with
  | some y => pm_all (fun c => pm_all (pm_crow q.1 q.2 y) c) q.2.2.2.2.2
  | none => false
/-! decode, a shift by whole words of the code: what the rest of the bytes gives, all of them give -/
/-- B is some multiple of four bytes, then b -/
def pm_shf (k : Nat) (B b : ByteArray) : Prop := k % 4 = 0 ∧ B.size = k + b.size ∧ ∀ i (h : i < b.size) (h2 : k + i < B.size), B[k + i] = b[i]
def pm_loc {α : Type} (k : Nat) (B b : ByteArray) (r r2 : Jvm.ClassFile.Decoder α) : Prop := ∀ p x q, r b p = .ok (x, q) → r2 B (k + p) = .ok (x, k + q)
theorem pm_loc_pure {α : Type} {k : Nat} {B b : ByteArray} (x : α) : pm_loc k B b (pure x) (pure x) := by
  intro p y q h
  have h2 : (Except.ok (x, p) : Except Jvm.ClassFile.DecodeError (α × Nat)) = .ok (y, q) := h
  injection h2 with h2
  injection h2 with h3 h4
  subst h3 h4
  rfl
theorem pm_loc_throw {α : Type} {k : Nat} {B b : ByteArray} (e e2 : Jvm.ClassFile.DecodeError) : pm_loc k B b (throw e : Jvm.ClassFile.Decoder α) (throw e2) := by
  intro p y q h
  have h2 : (Except.error e : Except Jvm.ClassFile.DecodeError (α × Nat)) = .ok (y, q) := h
  cases h2
theorem pm_loc_bind {α β : Type} {k : Nat} {B b : ByteArray} {r r2 : Jvm.ClassFile.Decoder α} {f f2 : α → Jvm.ClassFile.Decoder β} (h1 : pm_loc k B b r r2) (h2 : ∀ x, pm_loc k B b (f x) (f2 x)) : pm_loc k B b (r >>= f) (r2 >>= f2) := by
  intro p y q h
  have h3 : (match r b p with | .ok (x, q) => f x b q | .error e => .error e : Except Jvm.ClassFile.DecodeError (β × Nat)) = .ok (y, q) := by
    rw [← h]
    show _ = Except.bind (r b p) _
    cases r b p with
    | ok z => rfl
    | error e => rfl
  show Except.bind (r2 B (k + p)) _ = _
  cases hr : r b p with
  | error e => rw [hr] at h3; cases h3
  | ok z =>
    rw [hr] at h3
    rw [h1 p z.1 z.2 hr]
    exact h2 z.1 z.2 y q h3
theorem pm_loc_u1 {k : Nat} {B b : ByteArray} (hs : pm_shf k B b) : pm_loc k B b Jvm.ClassFile.Reader.u1 Jvm.ClassFile.Reader.u1 := by
  intro p y q h
  have hu : ∀ (c : ByteArray) (p : Nat), (Jvm.ClassFile.Reader.u1 : Jvm.ClassFile.Decoder Nat) c p = if h : p < c.size then .ok (c[p].toNat, p + 1) else .error (.truncated p) := by
    intro c p
    unfold Jvm.ClassFile.Reader.u1
    by_cases hp : p < c.size
    · rw [dif_pos hp]; show (dite _ _ _ : Jvm.ClassFile.Decoder Nat) c p = _; rw [dif_pos hp]; rfl
    · rw [dif_neg hp]; show (dite _ _ _ : Jvm.ClassFile.Decoder Nat) c p = _; rw [dif_neg hp]; rfl
  rw [hu] at h
  rw [hu]
  split at h
  · rename_i hp
    rw [dif_pos (by have := hs.2.1; omega)]
    injection h with h
    injection h with h3 h4
    subst h3 h4
    rw [hs.2.2 p hp]
    rfl
  · cases h
theorem pm_loc_map {α β : Type} {k : Nat} {B b : ByteArray} {r r2 : Jvm.ClassFile.Decoder α} {f : α → β} (h1 : pm_loc k B b r r2) : pm_loc k B b (f <$> r) (f <$> r2) := by
  have h := pm_loc_bind (f := fun x => (pure (f x) : Jvm.ClassFile.Decoder β)) (f2 := fun x => pure (f x)) h1 (fun x => pm_loc_pure (f x))
  intro p y q hq
  have e : ∀ (r : Jvm.ClassFile.Decoder α) (c : ByteArray) (p : Nat), (f <$> r) c p = (r >>= fun x => (pure (f x) : Jvm.ClassFile.Decoder β)) c p := by
    intro r c p
    show Except.bind (r c p) _ = Except.bind (r c p) _
    cases r c p <;> rfl
  rw [e] at hq ⊢
  exact h p y q hq
theorem pm_loc_u2 {k : Nat} {B b : ByteArray} (hs : pm_shf k B b) : pm_loc k B b Jvm.ClassFile.Reader.u2 Jvm.ClassFile.Reader.u2 :=
  pm_loc_bind (pm_loc_u1 hs) (fun _ => pm_loc_bind (pm_loc_u1 hs) (fun _ => pm_loc_pure _))
theorem pm_loc_u4 {k : Nat} {B b : ByteArray} (hs : pm_shf k B b) : pm_loc k B b Jvm.ClassFile.Reader.u4 Jvm.ClassFile.Reader.u4 :=
  pm_loc_bind (pm_loc_u2 hs) (fun _ => pm_loc_bind (pm_loc_u2 hs) (fun _ => pm_loc_pure _))
theorem pm_loc_s1 {k : Nat} {B b : ByteArray} (hs : pm_shf k B b) : pm_loc k B b Jvm.ClassFile.Reader.s1 Jvm.ClassFile.Reader.s1 := pm_loc_map (pm_loc_u1 hs)
theorem pm_loc_s2 {k : Nat} {B b : ByteArray} (hs : pm_shf k B b) : pm_loc k B b Jvm.ClassFile.Reader.s2 Jvm.ClassFile.Reader.s2 := pm_loc_map (pm_loc_u2 hs)
theorem pm_loc_s4 {k : Nat} {B b : ByteArray} (hs : pm_shf k B b) : pm_loc k B b Jvm.ClassFile.Reader.s4 Jvm.ClassFile.Reader.s4 := pm_loc_map (pm_loc_u4 hs)
theorem pm_loc_pad {k : Nat} {B b : ByteArray} (hs : pm_shf k B b) : pm_loc k B b Jvm.ClassFile.Decoder.padding Jvm.ClassFile.Decoder.padding := by
  intro p y q h
  have hu : ∀ (c : ByteArray) (p : Nat), Jvm.ClassFile.Decoder.padding c p = if p + (4 - p % 4) % 4 ≤ c.size then .ok ((), p + (4 - p % 4) % 4) else .error (.truncated c.size) := by
    intro c p
    show Except.bind ((Jvm.ClassFile.Reader.bytes ((4 - p % 4) % 4) : Jvm.ClassFile.Decoder _) c p) _ = _
    have hb : (Jvm.ClassFile.Reader.bytes ((4 - p % 4) % 4) : Jvm.ClassFile.Decoder _) c p = if p + (4 - p % 4) % 4 ≤ c.size then .ok (c.extract p (p + (4 - p % 4) % 4), p + (4 - p % 4) % 4) else .error (.truncated c.size) := by
      by_cases hp : p + (4 - p % 4) % 4 ≤ c.size
      · rw [if_pos hp]; show (ite _ _ _ : Jvm.ClassFile.Decoder _) c p = _; rw [if_pos hp]; rfl
      · rw [if_neg hp]; show (ite _ _ _ : Jvm.ClassFile.Decoder _) c p = _; rw [if_neg hp]; rfl
    rw [hb]
    split <;> rfl
  rw [hu] at h
  rw [hu]
  have hk := hs.1
  have hz := hs.2.1
  have e : (4 - (k + p) % 4) % 4 = (4 - p % 4) % 4 := by omega
  rw [e]
  split at h
  · rename_i hp
    rw [if_pos (by omega)]
    injection h with h
    injection h with h3 h4
    subst h4
    rw [Nat.add_assoc]
  · cases h
theorem pm_loc_go {α : Type} {k : Nat} {B b : ByteArray} {r : Jvm.ClassFile.Decoder α} (h : pm_loc k B b r r) : ∀ (n : Nat) (a : Array α), pm_loc k B b (Jvm.ClassFile.Reader.times.go r n a) (Jvm.ClassFile.Reader.times.go r n a)
  | 0, a => pm_loc_pure a
  | n + 1, a => pm_loc_bind h (fun x => pm_loc_go h n (a.push x))
theorem pm_loc_times {α : Type} {k : Nat} {B b : ByteArray} {r : Jvm.ClassFile.Decoder α} (n : Nat) (h : pm_loc k B b r r) : pm_loc k B b (Jvm.ClassFile.Reader.times n r) (Jvm.ClassFile.Reader.times n r) := pm_loc_go h n #[]
theorem pm_loc_ts {k : Nat} {B b : ByteArray} (hs : pm_shf k B b) (p1 p2 : Nat) : pm_loc k B b (Jvm.ClassFile.Decoder.tableswitch p1) (Jvm.ClassFile.Decoder.tableswitch p2) := by
  refine pm_loc_bind (pm_loc_pad hs) (fun _ => pm_loc_bind (pm_loc_s4 hs) (fun d => pm_loc_bind (pm_loc_s4 hs) (fun lo => pm_loc_bind (pm_loc_s4 hs) (fun hi => ?_))))
  split
  · exact pm_loc_bind (pm_loc_times _ (pm_loc_s4 hs)) (fun _ => pm_loc_pure _)
  · exact pm_loc_bind (pm_loc_throw _ _) (fun _ => pm_loc_bind (pm_loc_times _ (pm_loc_s4 hs)) (fun _ => pm_loc_pure _))
theorem pm_loc_ls {k : Nat} {B b : ByteArray} (hs : pm_shf k B b) (p1 p2 : Nat) : pm_loc k B b (Jvm.ClassFile.Decoder.lookupswitch p1) (Jvm.ClassFile.Decoder.lookupswitch p2) := by
  refine pm_loc_bind (pm_loc_pad hs) (fun _ => pm_loc_bind (pm_loc_s4 hs) (fun d => pm_loc_bind (pm_loc_s4 hs) (fun np => ?_)))
  split
  · refine pm_loc_bind (pm_loc_times _ (pm_loc_bind (pm_loc_s4 hs) (fun _ => pm_loc_bind (pm_loc_s4 hs) (fun _ => pm_loc_pure _)))) (fun _ => ?_)
    split
    · exact pm_loc_pure _
    · exact pm_loc_throw _ _
  · exact pm_loc_throw _ _
theorem pm_loc_na {k : Nat} {B b : ByteArray} (hs : pm_shf k B b) (p1 p2 : Nat) : pm_loc k B b (Jvm.ClassFile.Decoder.newarray p1) (Jvm.ClassFile.Decoder.newarray p2) := by
  refine pm_loc_bind (pm_loc_u1 hs) (fun n => ?_)
  split <;> first | exact pm_loc_pure _ | exact pm_loc_throw _ _
theorem pm_loc_ii {k : Nat} {B b : ByteArray} (hs : pm_shf k B b) (p1 p2 : Nat) : pm_loc k B b (Jvm.ClassFile.Decoder.invokeinterface p1) (Jvm.ClassFile.Decoder.invokeinterface p2) := by
  refine pm_loc_bind (pm_loc_u2 hs) (fun _ => pm_loc_bind (pm_loc_u1 hs) (fun _ => pm_loc_bind (pm_loc_u1 hs) (fun _ => ?_)))
  split
  · exact pm_loc_pure _
  · exact pm_loc_throw _ _
theorem pm_loc_id {k : Nat} {B b : ByteArray} (hs : pm_shf k B b) (p1 p2 : Nat) : pm_loc k B b (Jvm.ClassFile.Decoder.invokedynamic p1) (Jvm.ClassFile.Decoder.invokedynamic p2) := by
  refine pm_loc_bind (pm_loc_u2 hs) (fun _ => pm_loc_bind (pm_loc_u2 hs) (fun _ => ?_))
  split
  · exact pm_loc_pure _
  · exact pm_loc_throw _ _
theorem pm_loc_ma {k : Nat} {B b : ByteArray} (hs : pm_shf k B b) (p1 p2 : Nat) : pm_loc k B b (Jvm.ClassFile.Decoder.multianewarray p1) (Jvm.ClassFile.Decoder.multianewarray p2) := by
  refine pm_loc_bind (pm_loc_u2 hs) (fun _ => pm_loc_bind (pm_loc_u1 hs) (fun _ => ?_))
  split
  · exact pm_loc_pure _
  · exact pm_loc_throw _ _
theorem pm_loc_wd {k : Nat} {B b : ByteArray} (hs : pm_shf k B b) (p1 p2 : Nat) : pm_loc k B b (Jvm.ClassFile.Decoder.wide p1) (Jvm.ClassFile.Decoder.wide p2) := by
  refine pm_loc_bind (pm_loc_u1 hs) (fun n => ?_)
  split
  all_goals first
    | exact pm_loc_bind (pm_loc_u2 hs) (fun _ => pm_loc_pure _)
    | exact pm_loc_bind (pm_loc_u2 hs) (fun _ => pm_loc_bind (pm_loc_s2 hs) (fun _ => pm_loc_pure _))
    | exact pm_loc_throw _ _
set_option maxHeartbeats 4000000 in
set_option maxRecDepth 100000 in
theorem pm_loc_instr {k : Nat} {B b : ByteArray} (hs : pm_shf k B b) (p1 p2 : Nat) : pm_loc k B b (Jvm.ClassFile.Decoder.instr p1) (Jvm.ClassFile.Decoder.instr p2) := by
  refine pm_loc_bind (pm_loc_u1 hs) (fun n => ?_)
  split
  all_goals with_reducible first
    | exact pm_loc_pure _
    | exact pm_loc_throw _ _
    | exact pm_loc_bind (pm_loc_u2 hs) (fun _ => pm_loc_pure _)
    | exact pm_loc_bind (pm_loc_s2 hs) (fun _ => pm_loc_pure _)
    | exact pm_loc_bind (pm_loc_u1 hs) (fun _ => pm_loc_pure _)
    | exact pm_loc_bind (pm_loc_s1 hs) (fun _ => pm_loc_pure _)
    | exact pm_loc_bind (pm_loc_s4 hs) (fun _ => pm_loc_pure _)
    | exact pm_loc_bind (pm_loc_u1 hs) (fun _ => pm_loc_bind (pm_loc_s1 hs) (fun _ => pm_loc_pure _))
    | exact pm_loc_ts hs _ _
    | exact pm_loc_ls hs _ _
    | exact pm_loc_na hs _ _
    | exact pm_loc_ii hs _ _
    | exact pm_loc_id hs _ _
    | exact pm_loc_ma hs _ _
    | exact pm_loc_wd hs _ _
/-- decode of what stands behind the first k bytes -/
theorem pm_dec_shf {k : Nat} {B b : ByteArray} (hs : pm_shf k B b) {p : Nat} {x : Instr × Nat} (h : decode b p = .ok x) : decode B (k + p) = .ok x := by
  have h2 : Except.bind ((Jvm.ClassFile.Decoder.instr p) b p) (fun z => (pure (z.1, z.2 - p) : Except Jvm.ClassFile.DecodeError (Instr × Nat))) = .ok x := h
  show Except.bind ((Jvm.ClassFile.Decoder.instr (k + p)) B (k + p)) (fun z => (pure (z.1, z.2 - (k + p)) : Except Jvm.ClassFile.DecodeError (Instr × Nat))) = .ok x
  cases hr : (Jvm.ClassFile.Decoder.instr p) b p with
  | error e => rw [hr] at h2; cases h2
  | ok z =>
    rw [hr] at h2
    rw [pm_loc_instr hs p (k + p) p z.1 z.2 hr, ← h2]
    show Except.ok (z.1, k + z.2 - (k + p)) = Except.ok (z.1, z.2 - p)
    rw [Nat.add_sub_add_left]
noncomputable def pm_crow2 (m : Nat) (e : pm_M) (y : pm_Hd) (k : Nat) (l : List UInt8) (q : Nat × Instr × Nat) : Bool := cond (Nat.ble k q.1) (cond (decide (decode ⟨⟨l⟩⟩ (Nat.sub q.1 k) = .ok q.2)) (cond (Nat.beq (pm_ln q.2.1) 0 || Nat.beq (pm_ln q.2.1) q.2.2) (pm_oki m e y q.1 q.2.1) false) false) false
theorem pm_crow2_ok {m : Nat} {e : pm_M} {y : pm_Hd} {k : Nat} {l : List UInt8} {q : Nat × Instr × Nat} (hs : pm_shf k (pm_byt y.2.1) ⟨⟨l⟩⟩) (h : pm_crow2 m e y k l q = true) : pm_crow m e y q = true := by
  unfold pm_crow2 at h
  cases h0 : Nat.ble k q.1 with
  | false => rw [h0] at h; cases h
  | true =>
    rw [h0, cond_true] at h
    cases h1 : decide (decode ⟨⟨l⟩⟩ (Nat.sub q.1 k) = .ok q.2) with
    | false => rw [h1] at h; cases h
    | true =>
      rw [h1, cond_true] at h
      have hk := Nat.le_of_ble_eq_true h0
      have h2 := pm_dec_shf hs (of_decide_eq_true h1)
      rw [show k + Nat.sub q.1 k = q.1 from Nat.add_sub_cancel' hk] at h2
      unfold pm_crow
      rw [decide_eq_true h2, cond_true]
      exact h
noncomputable def pm_chs (m : Nat) (e : pm_M) (y : pm_Hd) : List (List (Nat × Instr × Nat)) → Nat → List UInt8 → Bool
  | [], _, _ => true
  | c :: cs, k, l => cond (pm_all (pm_crow2 m e y k l) c) (pm_chs m e y cs (Nat.add k 16) (l.drop 16)) false
theorem pm_shf_drop {k : Nat} {B : ByteArray} {l : List UInt8} (hl : 16 ≤ l.length) (h : pm_shf k B ⟨⟨l⟩⟩) : pm_shf (k + 16) B ⟨⟨l.drop 16⟩⟩ := by
  have h2 : B.size = k + l.length := h.2.1
  refine ⟨by have := h.1; omega, ?_, ?_⟩
  · show B.size = k + 16 + (l.drop 16).length
    rw [h2, List.length_drop]; omega
  · intro i hi h3
    have hi : i < (l.drop 16).length := hi
    rw [List.length_drop] at hi
    have h4 := h.2.2 (16 + i) (show 16 + i < l.length by omega) (by omega)
    have e : k + 16 + i = k + (16 + i) := by omega
    have e2 : B[k + 16 + i] = B[k + (16 + i)]'(by omega) := by congr 1
    rw [e2, h4]
    show l[16 + i]'(by omega) = (l.drop 16)[i]'(by rw [List.length_drop]; omega)
    rw [List.getElem_drop]
/-- past the end nothing is asked -/
theorem pm_chs_ok {m : Nat} {e : pm_M} {y : pm_Hd} : ∀ (cs : List (List (Nat × Instr × Nat))) (k : Nat) (l : List UInt8), pm_shf k (pm_byt y.2.1) ⟨⟨l⟩⟩ → 16 * cs.length ≤ l.length + 16 → pm_chs m e y cs k l = true → pm_all (fun c => pm_all (pm_crow m e y) c) cs = true
  | [], k, l, hs, hl, h => rfl
  | c :: cs, k, l, hs, hl, h => by
    have h : cond (pm_all (pm_crow2 m e y k l) c) (pm_chs m e y cs (Nat.add k 16) (l.drop 16)) false = true := h
    cases h1 : pm_all (pm_crow2 m e y k l) c with
    | false => rw [h1] at h; cases h
    | true =>
      rw [h1, cond_true] at h
      rw [pm_all_eq, List.all_eq_true]
      intro x hx
      rcases List.mem_cons.mp hx with rfl | hx
      · rw [pm_all_eq, List.all_eq_true] at h1 ⊢
        exact fun z hz => pm_crow2_ok hs (h1 z hz)
      · have hc : cs ≠ [] := by rintro rfl; cases hx
        have hn : 1 ≤ cs.length := by cases cs with | nil => exact absurd rfl hc | cons a b => simp
        have hl2 : 16 * (cs.length + 1) ≤ l.length + 16 := hl
        have h3 := pm_chs_ok cs (k + 16) (l.drop 16) (pm_shf_drop (by omega) hs) (by rw [List.length_drop]; omega) h
        rw [pm_all_eq, List.all_eq_true] at h3
        exact h3 x hx
noncomputable def pm_cm2 (q : Nat × pm_M) : Bool := match pm_get pm_hds q.1 with
  | some y => cond (Nat.ble (16 * q.2.2.2.2.2.length) ((pm_byt y.2.1).data.toList.length + 16)) (pm_chs q.1 q.2 y q.2.2.2.2.2 0 (pm_byt y.2.1).data.toList) false
  | none => false
theorem pm_cm2_ok {q : Nat × pm_M} (h : pm_cm2 q = true) : pm_cm q = true := by
  unfold pm_cm2 at h
  unfold pm_cm
  cases hy : pm_get pm_hds q.1 with
  | none => rw [hy] at h; cases h
  | some y =>
    rw [hy] at h
    dsimp only at h ⊢
    cases h1 : Nat.ble (16 * q.2.2.2.2.2.length) ((pm_byt y.2.1).data.toList.length + 16) with
    | false => rw [h1] at h; cases h
    | true =>
      rw [h1, cond_true] at h
      refine pm_chs_ok _ 0 _ ⟨rfl, ?_, ?_⟩ (Nat.le_of_ble_eq_true h1) h
      · rw [Nat.zero_add]
      · intro i hi h2
        simp only [Nat.zero_add]


