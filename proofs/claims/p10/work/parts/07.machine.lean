/-! the machine's handlers: K goes on in this method, ih in any -/
noncomputable def pm_kill (ls : pm_L) (i : Nat) : pm_L := Nat.rec ls (fun j _ => match pm_nth ls j with
    | some (some v) => cond (Nat.beq v.category 2) (pm_set ls j none) ls
    | _ => ls) i
noncomputable def pm_put1 (ls : pm_L) (i : Nat) (v : Value) : pm_L := pm_set (pm_kill ls i) i (some v)
noncomputable def pm_put2 (ls : pm_L) (i : Nat) (v : Value) : pm_L := pm_set (pm_set (pm_kill ls i) i (some v)) (i + 1) none
noncomputable def pm_lay (as : List Value) : Nat → pm_L := List.rec (fun n => pm_rep n none) (fun v _ ih n => match v with
    | .long _ => some v :: none :: ih (n - 2)
    | .double _ => some v :: none :: ih (n - 2)
    | _ => some v :: ih (n - 1)) as
noncomputable def pm_pop (n : Nat) : List Value → List Value → Option (List Value × List Value) :=
  Nat.rec (fun st acc => some (acc, st)) (fun _ ih st acc => List.rec none (fun v r _ => ih r (v :: acc)) st) n
noncomputable def pm_cell (h : pm_H) (a : Nat) : Option pm_C := cond (Nat.blt a 16) none (pm_nth h (a - 16))
def pm_cnd (c : ClassFile.Cond) (x y : Int32) : Bool := match c with
  | .eq => decide (x = y)
  | .ne => !decide (x = y)
  | .lt => decide (x < y)
  | .ge => decide (y ≤ x)
  | .gt => decide (y < x)
  | .le => decide (x ≤ y)
/-- may a field of the type code hold it: 0 int, 1 boolean, 2 long, 3 a reference -/
def pm_fit (t : Nat) (v : Value) : Bool := match v with
  | .int x => cond (Nat.beq t 0) true (Nat.beq t 1 && (decide (x = 0) || decide (x = 1)))
  | .long _ => Nat.beq t 2
  | .ref _ => Nat.beq t 3
  | .null => Nat.beq t 3
  | _ => false
/-- the elements in a place that is read: an own array, or one that is there at the start; type code 0 int, 1 boolean, 2 char, 3 long, 4 byte, 5 + ci: of references to class ci -/
noncomputable def pm_row (X : List (Nat × List Value)) (h : pm_H) (a : Nat) : Option (Nat × List Value) := cond (Nat.blt a 16) (match pm_nth X a with
  | some q => cond (Nat.beq q.1 0) (some q) none
  | none => none) (match pm_nth h (a - 16) with
  | some (.inl q) => some q
  | _ => none)
noncomputable def pm_in (i : Int32) (n : Nat) : Bool := cond (decide (i < 0)) false (Nat.blt i.toNatClampNeg n)
/-- the type codes of arrays that there are: of numbers, of Marks, of Scripts -/
def pm_okt (t : Nat) : Bool := Nat.blt t 5 || Nat.beq t 8 || Nat.beq t 12
def pm_tc (t : ArrayType) : Nat × Value := match t with
  | .int => (0, .int 0)
  | .boolean => (1, .int 0)
  | .char => (2, .int 0)
  | .long => (3, .long 0)
  | .byte => (4, .int 0)
  | _ => (99, .null)
def pm_scv (n : Nat) (v : Value) : Bool := match v with
  | .ref a => Nat.blt a n
  | _ => true
noncomputable def pm_scc (n : Nat) (c : pm_C) : Bool := match c with
  | .inl q => cond (Nat.blt q.1 5) true (pm_all (pm_scv n) q.2)
  | .inr q => pm_all (pm_scv n) q.2
noncomputable def pm_scH (h : pm_H) : Bool := pm_all (pm_scc (16 + pm_len h)) h
def pm_scl (n : Nat) (v : Option Value) : Bool := match v with
  | some (.ref a) => Nat.blt a n
  | _ => true
def pm_cpy (src dst : List Value) (sp dp n : Nat) : List Value := dst.take dp ++ ((src.drop sp).take n ++ dst.drop (dp + n))
noncomputable def pm_tsw (x lo hi dflt : Int) (offs : Array Int) (K : Int → pm_R) : pm_R := if x < lo ∨ hi < x then K dflt else match pm_nth offs.toList (x - lo).toNat with
  | some o => K o
  | none => none
abbrev pm_S : Type := (Nat → pm_L → List Value → pm_R) → Nat → Nat → pm_L → List Value → pm_R
abbrev pm_I : Type := Nat → pm_H → Nat → Nat → pm_L → List Value → pm_R
abbrev pm_G : Type := pm_I → Nat → pm_H → Nat → Nat → Nat → Nat → pm_L → List Value → pm_R
noncomputable def pm_to (z : Int) (K : Nat → pm_R) : pm_R := match z with
  | .ofNat t => pm_fn t K
  | _ => none
noncomputable def pm_sC (v : Value) : pm_S := fun K pc len ls st => pm_fn (pc + len) fun q => K q ls (v :: st)
noncomputable def pm_sIld (k : Nat) : pm_S := fun K pc len ls st => match pm_nth ls k with
  | some (some (.int a)) => pm_fn (pc + len) fun q => K q ls (.int a :: st)
  | _ => none
noncomputable def pm_sLld (k : Nat) : pm_S := fun K pc len ls st => match pm_nth ls k with
  | some (some (.long a)) => pm_fn (pc + len) fun q => K q ls (.long a :: st)
  | _ => none
noncomputable def pm_sAld (k : Nat) : pm_S := fun K pc len ls st => match pm_nth ls k with
  | some (some (.ref a)) => pm_fn (pc + len) fun q => K q ls (.ref a :: st)
  | _ => none
noncomputable def pm_sIst (k : Nat) : pm_S := fun K pc len ls st => match st with
  | .int x :: r => cond (Nat.blt k (pm_len ls)) (pm_fi x fun y => pm_fn (pc + len) fun q => K q (pm_put1 ls k (.int y)) r) none
  | _ => none
noncomputable def pm_sLst (k : Nat) : pm_S := fun K pc len ls st => match st with
  | .long x :: r => cond (Nat.blt (k + 1) (pm_len ls)) (pm_fl x fun y => pm_fn (pc + len) fun q => K q (pm_put2 ls k (.long y)) r) none
  | _ => none
noncomputable def pm_sAst (k : Nat) : pm_S := fun K pc len ls st => match st with
  | .ref x :: r => cond (Nat.blt k (pm_len ls)) (pm_fn (pc + len) fun q => K q (pm_put1 ls k (.ref x)) r) none
  | _ => none
noncomputable def pm_sInc (k : Nat) (n : Int) : pm_S := fun K pc len ls st => match pm_nth ls k with
  | some (some (.int x)) => cond (Nat.beq len 3) (pm_fi (x + Int32.ofInt n) fun y => pm_fn (pc + len) fun q => K q (pm_put1 ls k (.int y)) st) none
  | _ => none
noncomputable def pm_sII (f : Int32 → Int32 → Int32) : pm_S := fun K pc len ls st => match st with
  | .int y :: .int x :: r => pm_fn (pc + len) fun q => K q ls (.int (f x y) :: r)
  | _ => none
noncomputable def pm_sIIz (f : Int32 → Int32 → Int32) : pm_S := fun K pc len ls st => match st with
  | .int y :: .int x :: r => cond (decide (y = 0)) none (pm_fn (pc + len) fun q => K q ls (.int (f x y) :: r))
  | _ => none
noncomputable def pm_sI (f : Int32 → Int32) : pm_S := fun K pc len ls st => match st with
  | .int x :: r => pm_fn (pc + len) fun q => K q ls (.int (f x) :: r)
  | _ => none
noncomputable def pm_sLL (f : Int64 → Int64 → Int64) : pm_S := fun K pc len ls st => match st with
  | .long y :: .long x :: r => pm_fn (pc + len) fun q => K q ls (.long (f x y) :: r)
  | _ => none
noncomputable def pm_sLLz (f : Int64 → Int64 → Int64) : pm_S := fun K pc len ls st => match st with
  | .long y :: .long x :: r => cond (decide (y = 0)) none (pm_fn (pc + len) fun q => K q ls (.long (f x y) :: r))
  | _ => none
noncomputable def pm_sLI (f : Int64 → Int32 → Int64) : pm_S := fun K pc len ls st => match st with
  | .int y :: .long x :: r => pm_fn (pc + len) fun q => K q ls (.long (f x y) :: r)
  | _ => none
noncomputable def pm_sL (f : Int64 → Int64) : pm_S := fun K pc len ls st => match st with
  | .long x :: r => pm_fn (pc + len) fun q => K q ls (.long (f x) :: r)
  | _ => none
noncomputable def pm_sIL (f : Int32 → Int64) : pm_S := fun K pc len ls st => match st with
  | .int x :: r => pm_fn (pc + len) fun q => K q ls (.long (f x) :: r)
  | _ => none
noncomputable def pm_sLi (f : Int64 → Int32) : pm_S := fun K pc len ls st => match st with
  | .long x :: r => pm_fn (pc + len) fun q => K q ls (.int (f x) :: r)
  | _ => none
noncomputable def pm_sCmp : pm_S := fun K pc len ls st => match st with
  | .long y :: .long x :: r => pm_fn (pc + len) fun q => K q ls (.int (lg_cmp x y) :: r)
  | _ => none
noncomputable def pm_sDup : pm_S := fun K pc len ls st => match st with
  | v :: r => cond (Nat.beq v.category 1) (pm_fn (pc + len) fun q => K q ls (v :: v :: r)) none
  | _ => none
noncomputable def pm_sPop : pm_S := fun K pc len ls st => match st with
  | v :: r => cond (Nat.beq v.category 1) (pm_fn (pc + len) fun q => K q ls r) none
  | _ => none
noncomputable def pm_sPop2 : pm_S := fun K pc len ls st => match st with
  | v :: r => cond (Nat.beq v.category 2) (pm_fn (pc + len) fun q => K q ls r) none
  | _ => none
noncomputable def pm_sIf (c : ClassFile.Cond) (off : Int) : pm_S := fun K pc _ ls st => match st with
  | .int x :: r => pm_to ((pc : Int) + off) fun t => cond (pm_cnd c x 0) (K t ls r) (pm_fn (pc + 3) fun q => K q ls r)
  | _ => none
noncomputable def pm_sIf2 (c : ClassFile.Cond) (off : Int) : pm_S := fun K pc _ ls st => match st with
  | .int y :: .int x :: r => pm_to ((pc : Int) + off) fun t => cond (pm_cnd c x y) (K t ls r) (pm_fn (pc + 3) fun q => K q ls r)
  | _ => none
noncomputable def pm_sGo (off : Int) : pm_S := fun K pc _ ls st => pm_to ((pc : Int) + off) fun t => K t ls st
noncomputable def pm_sTsw (d lo hi : Int) (offs : Array Int) : pm_S := fun K pc _ ls st => match st with
  | .int x :: r => pm_tsw x.toInt lo hi d offs fun o => pm_to ((pc : Int) + o) fun t => K t ls r
  | _ => none
noncomputable def pm_sLsw (d : Int) (ps : Array (Int × Int)) : pm_S := fun K pc _ ls st => match st with
  | .int x :: r => cond ((ps.toList.zip (ps.toList.drop 1)).all (fun (a, next) => a.1 < next.1)) (pm_to ((pc : Int) + Op.lookupswitch.offset ps.toList d x.toInt) fun t => K t ls r) none
  | _ => none
noncomputable def pm_gLdc (ix : Nat) : pm_G := fun ih d h m own pc len ls st => match pm_get (pm_lnk own) ix with
  | some (8, n, _, _) => pm_fn (pc + len) fun q => ih d h m q ls (.int (Int32.ofNat n) :: st)
  | some (10, a, _, _) => pm_fn (pc + len) fun q => ih d h m q ls (.ref a :: st)
  | _ => none
noncomputable def pm_gLdw (ix : Nat) : pm_G := fun ih d h m own pc len ls st => match pm_get (pm_lnk own) ix with
  | some (8, n, _, _) => pm_fn (pc + len) fun q => ih d h m q ls (.int (Int32.ofNat n) :: st)
  | _ => none
noncomputable def pm_gLd2 (ix : Nat) : pm_G := fun ih d h m own pc len ls st => match pm_get (pm_lnk own) ix with
  | some (9, n, _, _) => pm_fn (pc + len) fun q => ih d h m q ls (.long (Int64.ofNat n) :: st)
  | _ => none
noncomputable def pm_gSta (ix : Nat) : pm_G := fun ih d h m own pc len ls st => match pm_get (pm_lnk own) ix with
  | some (11, a, _, _) => pm_fn (pc + len) fun q => ih d h m q ls (.ref a :: st)
  | _ => none
noncomputable def pm_gGet (ix : Nat) : pm_G := fun ih d h m own pc len ls st => match st with
  | .ref a :: r => match pm_get (pm_lnk own) ix, pm_cell h a with
    | some (0, ci, k, _), some (.inr (cj, fs)) => cond (Nat.beq ci cj) (match pm_nth fs k with
        | some v => pm_fn (pc + len) fun q => ih d h m q ls (v :: r)
        | none => none) none
    | _, _ => none
  | _ => none
/-- a value, its number written out -/
noncomputable def pm_fv (v : Value) (k : Value → pm_R) : pm_R := match v with
  | .int x => pm_fi x fun y => k (.int y)
  | .long x => pm_fl x fun y => k (.long y)
  | v => k v
noncomputable def pm_gPut (ix : Nat) : pm_G := fun ih d h m own pc len ls st => match st with
  | v :: .ref a :: r => match pm_get (pm_lnk own) ix, pm_cell h a with
    | some (0, ci, k, t), some (.inr (cj, fs)) => cond (Nat.beq ci cj) (cond (Nat.blt k (pm_len fs)) (cond (pm_fit t v) (pm_fv v fun v => pm_fn (pc + len) fun q => ih d (pm_set h (a - 16) (.inr (cj, pm_set fs k v))) m q ls r) none) none) none
    | _, _ => none
  | _ => none
noncomputable def pm_gNew (X : List (Nat × List Value)) (ix : Nat) : pm_G := fun ih d h m own pc len ls st => match pm_get (pm_lnk own) ix with
  | some (6, ci, n, _) => match pm_nth X (16 + ci) with
    | some (_, fs) => cond (Nat.beq (pm_len fs) n) (pm_fn (pm_len h) fun z => pm_fn (pc + len) fun q => ih d (h ++ [.inr (ci, fs)]) m q ls (.ref (16 + z) :: st)) none
    | none => none
  | some (13, _, _, _) => cond (pm_scH h && Nat.beq (pm_len st) 0) (some (h, .inr ())) none
  | _ => none
noncomputable def pm_gNwa (t : ArrayType) : pm_G := fun ih d h m _ pc len ls st => match st with
  | .int n :: r => cond (decide (n < 0)) none (cond (Nat.ble n.toNatClampNeg 60000) (cond (Nat.blt (pm_tc t).1 5) (pm_fn (pm_len h) fun z => pm_fn (pc + len) fun q => ih d (h ++ [.inl ((pm_tc t).1, pm_rep n.toNatClampNeg (pm_tc t).2)]) m q ls (.ref (16 + z) :: r)) none) none)
  | _ => none
noncomputable def pm_gAnw (ix : Nat) : pm_G := fun ih d h m own pc len ls st => match st, pm_get (pm_lnk own) ix with
  | .int n :: r, some (6, ci, _, _) => cond (decide (n < 0)) none (cond (Nat.ble n.toNatClampNeg 60000 && pm_okt (5 + ci)) (pm_fn (pm_len h) fun z => pm_fn (pc + len) fun q => ih d (h ++ [.inl (5 + ci, pm_rep n.toNatClampNeg .null)]) m q ls (.ref (16 + z) :: r)) none)
  | _, _ => none
noncomputable def pm_gLen (X : List (Nat × List Value)) : pm_G := fun ih d h m _ pc len ls st => match st with
  | .ref a :: r => match pm_row X h a with
    | some (t, l) => cond (pm_okt t) (pm_fn (pm_len l) fun z => pm_fn (pc + len) fun q => ih d h m q ls (.int (Int32.ofNat z) :: r)) none
    | none => none
  | _ => none
/-- a load from a row of the type code t, or t' -/
noncomputable def pm_gAld (X : List (Nat × List Value)) (t t' : Nat) : pm_G := fun ih d h m _ pc len ls st => match st with
  | .int j :: .ref a :: r => match pm_row X h a with
    | some (u, l) => cond (Nat.beq u t || Nat.beq u t') (cond (decide (j < 0)) none (match pm_nth l j.toNatClampNeg with
        | some (.int x) => pm_fn (pc + len) fun q => ih d h m q ls (.int x :: r)
        | _ => none)) none
    | none => none
  | _ => none
noncomputable def pm_gLald (X : List (Nat × List Value)) : pm_G := fun ih d h m _ pc len ls st => match st with
  | .int j :: .ref a :: r => match pm_row X h a with
    | some (u, l) => cond (Nat.beq u 3) (cond (decide (j < 0)) none (match pm_nth l j.toNatClampNeg with
        | some (.long x) => pm_fn (pc + len) fun q => ih d h m q ls (.long x :: r)
        | _ => none)) none
    | none => none
  | _ => none
noncomputable def pm_gAald : pm_G := fun ih d h m _ pc len ls st => match st with
  | .int j :: .ref a :: r => match pm_cell h a with
    | some (.inl (t, l)) => cond (Nat.beq t 8 || Nat.beq t 12) (cond (decide (j < 0)) none (match pm_nth l j.toNatClampNeg with
        | some (.ref x) => pm_fn (pc + len) fun q => ih d h m q ls (.ref x :: r)
        | _ => none)) none
    | _ => none
  | _ => none
/-- a store of an int into a row of the type code t, narrowed by f -/
noncomputable def pm_gIst (t : Nat) (f : Int32 → Int32) : pm_G := fun ih d h m _ pc len ls st => match st with
  | .int x :: .int j :: .ref a :: r => match pm_cell h a with
    | some (.inl (u, l)) => cond (Nat.beq u t) (cond (pm_in j (pm_len l)) (pm_fi (f x) fun y => pm_fn (pc + len) fun q => ih d (pm_set h (a - 16) (.inl (u, pm_set l j.toNatClampNeg (.int y)))) m q ls r) none) none
    | _ => none
  | _ => none
noncomputable def pm_gLst : pm_G := fun ih d h m _ pc len ls st => match st with
  | .long x :: .int j :: .ref a :: r => match pm_cell h a with
    | some (.inl (u, l)) => cond (Nat.beq u 3) (cond (pm_in j (pm_len l)) (pm_fl x fun y => pm_fn (pc + len) fun q => ih d (pm_set h (a - 16) (.inl (u, pm_set l j.toNatClampNeg (.long y)))) m q ls r) none) none
    | _ => none
  | _ => none
noncomputable def pm_gAst : pm_G := fun ih d h m _ pc len ls st => match st with
  | .ref x :: .int j :: .ref a :: r => match pm_cell h a, pm_cell h x with
    | some (.inl (t, l)), some (.inr (ci, _)) => cond (pm_in j (pm_len l)) (cond (Nat.beq t (5 + ci) && (Nat.beq t 8 || Nat.beq t 12)) (pm_fn (pc + len) fun q => ih d (pm_set h (a - 16) (.inl (t, pm_set l j.toNatClampNeg (.ref x)))) m q ls r) none) none
    | _, _ => none
  | _ => none
noncomputable def pm_p0 (X : List (Nat × List Value)) (K : pm_H → List Value → pm_R) (h : pm_H) (st : List Value) : pm_R := match st with
  | .ref _ :: r => K h r
  | _ => none
noncomputable def pm_p1 (X : List (Nat × List Value)) (K : pm_H → List Value → pm_R) (h : pm_H) (st : List Value) : pm_R := match st with
  | .int y :: .int x :: r => K h (.int (if x < y then y else x) :: r)
  | _ => none
noncomputable def pm_p2 (X : List (Nat × List Value)) (K : pm_H → List Value → pm_R) (h : pm_H) (st : List Value) : pm_R := match st with
  | .int y :: .int x :: r => K h (.int (if y < x then y else x) :: r)
  | _ => none
noncomputable def pm_p3 (X : List (Nat × List Value)) (K : pm_H → List Value → pm_R) (h : pm_H) (st : List Value) : pm_R := match st with
  | .int x :: r => K h (.int (if 0 ≤ x then x else 0 - x) :: r)
  | _ => none
noncomputable def pm_p4 (X : List (Nat × List Value)) (K : pm_H → List Value → pm_R) (h : pm_H) (st : List Value) : pm_R := match st with
  | .long x :: r => K h (.long (if 0 < x then x else -x) :: r)
  | _ => none
noncomputable def pm_p5 (X : List (Nat × List Value)) (K : pm_H → List Value → pm_R) (h : pm_H) (st : List Value) : pm_R := match st with
  | .int n :: .int dp :: .ref d :: .int sp :: .ref a :: r => match pm_row X h a, pm_cell h d with
    | some (t, l), some (.inl (t', l')) => cond (Nat.beq t 0 && (Nat.beq t' 0 && (Nat.ble 16 a && (!decide (n < 0) && (!decide (dp < 0) && (!decide (sp < 0) && (Nat.ble (sp.toNatClampNeg + n.toNatClampNeg) (pm_len l) && Nat.ble (dp.toNatClampNeg + n.toNatClampNeg) (pm_len l'))))))))
        (K (pm_set h (d - 16) (.inl (0, pm_cpy l l' sp.toNatClampNeg dp.toNatClampNeg n.toNatClampNeg))) r) none
    | _, _ => none
  | _ => none
noncomputable def pm_p6 (X : List (Nat × List Value)) (K : pm_H → List Value → pm_R) (h : pm_H) (st : List Value) : pm_R := match st with
  | .int x :: .ref d :: r => match pm_cell h d with
    | some (.inl (t, l)) => cond (Nat.beq t 0 && Nat.ble (pm_len l) 60000) (K (pm_set h (d - 16) (.inl (0, pm_rep (pm_len l) (.int x)))) r) none
    | _ => none
  | _ => none
/-- what is called by its meaning: 0 Object.<init>, 1 max, 2 min, 3, 4 abs, 5 arraycopy, 6 fill -/
noncomputable def pm_prim (X : List (Nat × List Value)) (f : Nat) (K : pm_H → List Value → pm_R) (h : pm_H) (st : List Value) : pm_R := match f with
  | 0 => pm_p0 X K h st
  | 1 => pm_p1 X K h st
  | 2 => pm_p2 X K h st
  | 3 => pm_p3 X K h st
  | 4 => pm_p4 X K h st
  | 5 => pm_p5 X K h st
  | 6 => pm_p6 X K h st
  | _ => none
/-- a String constant's characters -/
noncomputable def pm_sx (X : List (Nat × List Value)) (a : Nat) : Option (List Value) := cond (Nat.ble 4 a && Nat.blt a 12) (match pm_nth X a with
  | some q => cond (Nat.beq q.1 4) (some q.2) none
  | none => none) none
/-- where a byte stands first -/
noncomputable def pm_ixF (z : Int32) (l : List Value) : Nat → Int32 := List.rec (fun _ => -1) (fun v _ ih k => match v with
  | .int b => cond (decide (b = z)) (Int32.ofNat k) (ih (k + 1))
  | _ => -1) l
noncomputable def pm_t7 (X : List (Nat × List Value)) (K : pm_H → List Value → pm_R) (h : pm_H) (st : List Value) : pm_R := match st with
  | .ref a :: r => match pm_sx X a with
    | some l => pm_fn (pm_len l) fun n => K h (.int (Int32.ofNat n) :: r)
    | none => none
  | _ => none
noncomputable def pm_t8 (X : List (Nat × List Value)) (K : pm_H → List Value → pm_R) (h : pm_H) (st : List Value) : pm_R := match st with
  | .int j :: .ref a :: r => match pm_sx X a with
    | some l => cond (decide (j < 0)) none (match pm_nth l j.toNatClampNeg with
      | some (.int x) => K h (.int (x &&& 255) :: r)
      | _ => none)
    | none => none
  | _ => none
noncomputable def pm_t9 (X : List (Nat × List Value)) (K : pm_H → List Value → pm_R) (h : pm_H) (st : List Value) : pm_R := match st with
  | .int z :: .ref a :: r => match pm_sx X a with
    | some l => K h (.int (if z < 0 ∨ (255 : Int32) < z then -1 else pm_ixF z.toInt8.toInt32 l 0) :: r)
    | none => none
  | _ => none
/-- the String constants' methods: 7 length, 8 charAt, 9 indexOf -/
noncomputable def pm_str (X : List (Nat × List Value)) (f : Nat) (K : pm_H → List Value → pm_R) (h : pm_H) (st : List Value) : pm_R := match f with
  | 7 => pm_t7 X K h st
  | 8 => pm_t8 X K h st
  | 9 => pm_t9 X K h st
  | _ => none
/-- the words that stay on the stack under a call: 8 at most -/
noncomputable def pm_cat8 (r : List Value) : Bool := Nat.ble (List.rec 0 (fun v _ ih => v.category + ih) r) 8
/-- a call of m' with the arguments As; hnd: what it throws is caught here -/
noncomputable def pm_call (ih : pm_I) (d : Nat) (h : pm_H) (m pc : Nat) (ls : pm_L) (m' : Nat) (As rest : List Value) (hnd : Bool) : pm_R := match d with
  | 0 => none
  | d' + 1 => match pm_ent m' with
    | none => none
    | some e => cond (Nat.beq (pm_len (pm_lay As e.2.1)) e.2.1) (match ih d' h m' 0 (pm_lay As e.2.1) [] with
      | some (h', .inl v) => pm_fn (pc + 3) fun q => ih d h' m q ls (v.toList ++ rest)
      | some (h', .inr _) => cond hnd (some (h', .inl (some (.int 1)))) none
      | none => none) none
/-- by its kind: 1 virtual, 2 static, 3 a constructor -/
noncomputable def pm_gC (how : Nat) (ih : pm_I) (d : Nat) (h : pm_H) (m own pc : Nat) (ls : pm_L) (m' ci : Nat) (As rest : List Value) : pm_R := match how with
  | 1 => match As with
    | .ref a :: _ => match pm_cell h a with
      | some (.inr (cj, _)) => cond (Nat.beq cj ci) (pm_call ih d h m pc ls m' As rest (Nat.beq own 13 && !Nat.beq m 309)) none
      | _ => none
    | _ => none
  | 2 => pm_call ih d h m pc ls m' As rest false
  | 3 => match As with
    | .ref _ :: _ => pm_call ih d h m pc ls m' As rest false
    | _ => none
  | _ => none
/-- how: 1 virtual, 2 static, 3 a constructor -/
noncomputable def pm_gInv (X : List (Nat × List Value)) (how ix : Nat) : pm_G := fun ih d h m own pc _ ls st => match pm_get (pm_lnk own) ix with
  | some (kind, m', na, ci) =>
    cond (Nat.beq kind 12) (cond (Nat.beq how (cond (Nat.beq m' 0) 3 2)) (pm_prim X m' (fun h' st' => cond (pm_cat8 st') (pm_fn (pc + 3) fun q => ih d h' m q ls st') none) h st) none)
      (cond (Nat.beq kind 15) (cond (Nat.beq how 1) (pm_str X m' (fun h' st' => cond (pm_cat8 st') (pm_fn (pc + 3) fun q => ih d h' m q ls st') none) h st) none)
      (match pm_pop na st [] with
      | some (As, rest) => cond (pm_cat8 rest) (cond (Nat.beq kind how) (pm_gC how ih d h m own pc ls m' ci As rest)
          (cond (Nat.beq kind 14 && (Nat.beq how 2 && Nat.beq own 13)) (cond (pm_all (pm_scl (16 + pm_len h)) ls && pm_all (pm_scv (16 + pm_len h)) rest) (pm_call ih d h m pc ls m' As rest false) none) none)) none
      | none => none))
  | none => none
/-- an answer: the stack holds it alone, and it is of the kind that the method's head says -/
noncomputable def pm_gRet (lo hi : Nat) : pm_G := fun _ _ h m _ _ _ _ st => match st with
  | [v] => match pm_ent m with
    | some e => cond (Nat.ble lo e.2.2.2.1) (cond (Nat.ble e.2.2.2.1 hi) (cond (pm_fit e.2.2.2.1 v) (some (h, .inl (some v))) none) none) none
    | none => none
  | _ => none
noncomputable def pm_gRtv : pm_G := fun _ _ h m _ _ _ _ st => match st with
  | [] => match pm_ent m with
    | some e => cond (Nat.beq e.2.2.2.1 4) (some (h, .inl none)) none
    | none => none
  | _ => none
noncomputable def pm_lift (s : pm_S) : pm_G := fun ih d h m _ pc len ls st => s (ih d h m) pc len ls st
noncomputable def pm_dsp (X : List (Nat × List Value)) (i : Instr) : pm_G := match i with
  | .iconst n => pm_lift (pm_sC (.int (Int32.ofInt n)))
  | .bipush n => pm_lift (pm_sC (.int (Int8.ofInt n).toInt32))
  | .sipush n => pm_lift (pm_sC (.int (Int16.ofInt n).toInt32))
  | .lconst n => pm_lift (pm_sC (.long (Int64.ofNat n.val)))
  | .aload k => pm_lift (pm_sAld k)
  | .aload_n k => pm_lift (pm_sAld k.val)
  | .iload k => pm_lift (pm_sIld k)
  | .iload_n k => pm_lift (pm_sIld k.val)
  | .lload k => pm_lift (pm_sLld k)
  | .lload_n k => pm_lift (pm_sLld k.val)
  | .istore k => pm_lift (pm_sIst k)
  | .istore_n k => pm_lift (pm_sIst k.val)
  | .astore k => pm_lift (pm_sAst k)
  | .astore_n k => pm_lift (pm_sAst k.val)
  | .lstore k => pm_lift (pm_sLst k)
  | .lstore_n k => pm_lift (pm_sLst k.val)
  | .iinc k n => pm_lift (pm_sInc k n)
  | .iadd => pm_lift (pm_sII fun x y => x + y)
  | .isub => pm_lift (pm_sII fun x y => x - y)
  | .imul => pm_lift (pm_sII fun x y => x * y)
  | .iand => pm_lift (pm_sII fun x y => x &&& y)
  | .ior => pm_lift (pm_sII fun x y => x ||| y)
  | .idiv => pm_lift (pm_sIIz fun x y => x / y)
  | .irem => pm_lift (pm_sIIz fun x y => x - x / y * y)
  | .ineg => pm_lift (pm_sI fun x => -x)
  | .ishl => pm_lift (pm_sII fun x y => x <<< (y &&& 31))
  | .ishr => pm_lift (pm_sII fun x y => x >>> (y &&& 31))
  | .iushr => pm_lift (pm_sII fun x y => (x.toUInt32 >>> (y.toUInt32 &&& Int32.toUInt32 31)).toInt32)
  | .ladd => pm_lift (pm_sLL fun x y => x + y)
  | .lsub => pm_lift (pm_sLL fun x y => x - y)
  | .lmul => pm_lift (pm_sLL fun x y => x * y)
  | .land => pm_lift (pm_sLL fun x y => x &&& y)
  | .lor => pm_lift (pm_sLL fun x y => x ||| y)
  | .ldiv => pm_lift (pm_sLLz fun x y => x / y)
  | .lrem => pm_lift (pm_sLLz fun x y => x - x / y * y)
  | .lneg => pm_lift (pm_sL fun x => -x)
  | .lshl => pm_lift (pm_sLI fun x y => x <<< (y.toInt64 &&& 63))
  | .lshr => pm_lift (pm_sLI fun x y => x >>> (y.toInt64 &&& 63))
  | .lushr => pm_lift (pm_sLI fun x y => (x.toUInt64 >>> (y.toInt64.toUInt64 &&& Int64.toUInt64 63)).toInt64)
  | .lcmp => pm_lift pm_sCmp
  | .i2l => pm_lift (pm_sIL fun x => x.toInt64)
  | .l2i => pm_lift (pm_sLi fun x => x.toInt32)
  | .i2b => pm_lift (pm_sI fun x => x.toInt8.toInt32)
  | .i2c => pm_lift (pm_sI fun x => (x.toUInt32 % 65536).toInt32)
  | .dup => pm_lift pm_sDup
  | .pop => pm_lift pm_sPop
  | .pop2 => pm_lift pm_sPop2
  | .ifCond c off => pm_lift (pm_sIf c off)
  | .if_icmp c off => pm_lift (pm_sIf2 c off)
  | .goto off => pm_lift (pm_sGo off)
  | .tableswitch d lo hi offs => pm_lift (pm_sTsw d lo hi offs)
  | .lookupswitch d ps => pm_lift (pm_sLsw d ps)
  | .ldc ix => pm_gLdc ix
  | .ldc_w ix => pm_gLdw ix
  | .ldc2_w ix => pm_gLd2 ix
  | .getstatic ix => pm_gSta ix
  | .getfield ix => pm_gGet ix
  | .putfield ix => pm_gPut ix
  | .new ix => pm_gNew X ix
  | .newarray t => pm_gNwa t
  | .anewarray ix => pm_gAnw ix
  | .arraylength => pm_gLen X
  | .iaload => pm_gAld X 0 0
  | .baload => pm_gAld X 1 4
  | .caload => pm_gAld X 2 2
  | .laload => pm_gLald X
  | .aaload => pm_gAald
  | .iastore => pm_gIst 0 fun x => x
  | .bastore => pm_gIst 1 fun x => x &&& 1
  | .castore => pm_gIst 2 fun x => x.toUInt32.toUInt16.toUInt32.toInt32
  | .lastore => pm_gLst
  | .aastore => pm_gAst
  | .invokestatic ix => pm_gInv X 2 ix
  | .invokevirtual ix => pm_gInv X 1 ix
  | .invokespecial ix => pm_gInv X 3 ix
  | .ireturn => pm_gRet 0 1
  | .lreturn => pm_gRet 2 2
  | .areturn => pm_gRet 3 3
  | .return_ => pm_gRtv
  | _ => fun _ _ _ _ _ _ _ _ _ => none
noncomputable def pm_F (X : List (Nat × List Value)) (ih : pm_I) : pm_I := fun d h m pc ls st => match pm_ent m with
  | none => none
  | some e => match pm_get e.2.2.2.2 pc with
    | none => none
    | some q => pm_dsp X q.1 ih d h m e.2.2.1 pc q.2 ls st
/-- the machine: n bounds the steps and the depth -/
noncomputable def pm_x (X : List (Nat × List Value)) (n : Nat) : pm_I := Nat.rec (fun _ _ _ _ _ _ => none) (fun _ ih => pm_F X ih) n
theorem pm_x_succ (X : List (Nat × List Value)) (n : Nat) : pm_x X (n + 1) = pm_F X (pm_x X n) := rfl
