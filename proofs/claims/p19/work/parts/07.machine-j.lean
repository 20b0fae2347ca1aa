section
/-! the machine's handlers: K goes on in this method, ih in any -/
noncomputable def pm_kill (ls : pm_L) (i : Nat) : pm_L := Nat.rec ls (fun j _ => match pm_nth ls j with
    | some (some v) => cond (Nat.beq v.category 2) (pm_set ls j none) ls
    | _ => ls) i
noncomputable def pm_put1 (ls : pm_L) (i : Nat) (v : Value) : pm_L := pm_set (pm_kill ls i) i (some v)
noncomputable def pm_put2 (ls : pm_L) (i : Nat) (v : Value) : pm_L := pm_set (pm_set (pm_kill ls i) i (some v)) (i + 1) none
noncomputable def pm_lay (as : List Value) : Nat → pm_L := List.rec (fun n => pm_rep n none) (fun v _ ih n => match v with
    | .long _ => some v :: none :: ih (n - 2)
    | .double _ => some v :: none :: ih (n - 2)
    | _ => some v :: ih (n - 1)) as
noncomputable def pm_pop (n : Nat) : List Value → List Value → Option (List Value × List Value) :=
  Nat.rec (fun st acc => some (acc, st)) (fun _ ih st acc => List.rec none (fun v r _ => ih r (v :: acc)) st) n
noncomputable def pm_cell (h : pm_H) (a : Nat) : Option pm_C := cond (Nat.blt a 16) none (pm_nth h (a - 16))
def pm_cnd (c : ClassFile.Cond) (x y : Int32) : Bool := match c with
  | .eq => decide (x = y)
  | .ne => !decide (x = y)
  | .lt => decide (x < y)
  | .ge => decide (y ≤ x)
  | .gt => decide (y < x)
  | .le => decide (x ≤ y)
/-- may a field of the type code hold it: 0 int, 1 boolean, 2 long, 3 a reference -/
def pm_fit (t : Nat) (v : Value) : Bool := match v with
  | .int x => cond (Nat.beq t 0) true (Nat.beq t 1 && (decide (x = 0) || decide (x = 1)))
  | .long _ => Nat.beq t 2
  | .ref _ => Nat.beq t 3
  | .null => Nat.beq t 3
  | _ => false
/-- the elements in a place that is read: an own array, or one that is there at the start; type code 0 int, 1 boolean, 2 char, 3 long, 4 byte, 5 + ci: of references to class ci -/
noncomputable def pm_row (X : List (Nat × List Value)) (h : pm_H) (a : Nat) : Option (Nat × List Value) := cond (Nat.blt a 16) (match pm_nth X a with
  | some q => cond (Nat.beq q.1 0) (some q) none
  | none => none) (match pm_nth h (a - 16) with
  | some (.inl q) => some q
  | _ => none)
noncomputable def pm_in (i : Int32) (n : Nat) : Bool := cond (decide (i < 0)) false (Nat.blt i.toNatClampNeg n)
/-- the type codes of arrays that there are: of numbers, of Marks, of Scripts -/
def pm_okt (t : Nat) : Bool := Nat.blt t 5 || Nat.beq t 8 || Nat.beq t 12
def pm_tc (t : ArrayType) : Nat × Value := match t with
  | .int => (0, .int 0)
  | .boolean => (1, .int 0)
  | .char => (2, .int 0)
  | .long => (3, .long 0)
  | .byte => (4, .int 0)
  | _ => (99, .null)
def pm_scv (n : Nat) (v : Value) : Bool := match v with
  | .ref a => Nat.blt a n
  | _ => true
noncomputable def pm_scc (n : Nat) (c : pm_C) : Bool := match c with
  | .inl q => cond (Nat.blt q.1 5) true (pm_all (pm_scv n) q.2)
  | .inr q => pm_all (pm_scv n) q.2
noncomputable def pm_scH (h : pm_H) : Bool := pm_all (pm_scc (16 + pm_len h)) h
def pm_scl (n : Nat) (v : Option Value) : Bool := match v with
  | some (.ref a) => Nat.blt a n
  | _ => true
def pm_cpy (src dst : List Value) (sp dp n : Nat) : List Value := dst.take dp ++ ((src.drop sp).take n ++ dst.drop (dp + n))
noncomputable def pm_tsw (x lo hi dflt : Int) (offs : Array Int) (K : Int → pm_R) : pm_R := if x < lo ∨ hi < x then K dflt else match pm_nth offs.toList (x - lo).toNat with
  | some o => K o
  | none => none
abbrev pm_S : Type := (Nat → pm_L → List Value → pm_R) → Nat → Nat → pm_L → List Value → pm_R
abbrev pm_I : Type := Nat → pm_H → Nat → Nat → pm_L → List Value → pm_R
abbrev pm_G : Type := pm_I → Nat → pm_H → Nat → Nat → Nat → Nat → pm_L → List Value → pm_R
noncomputable def pm_to (z : Int) (K : Nat → pm_R) : pm_R := match z with
  | .ofNat t => pm_fn t K
  | _ => none
noncomputable def pm_sC (v : Value) : pm_S := fun K pc len ls st => pm_fn (pc + len) fun q => K q ls (v :: st)
noncomputable def pm_sIld (k : Nat) : pm_S := fun K pc len ls st => match pm_nth ls k with
  | some (some (.int a)) => pm_fn (pc + len) fun q => K q ls (.int a :: st)
  | _ => none
noncomputable def pm_sLld (k : Nat) : pm_S := fun K pc len ls st => match pm_nth ls k with
  | some (some (.long a)) => pm_fn (pc + len) fun q => K q ls (.long a :: st)
  | _ => none
noncomputable def pm_sAld (k : Nat) : pm_S := fun K pc len ls st => match pm_nth ls k with
  | some (some (.ref a)) => pm_fn (pc + len) fun q => K q ls (.ref a :: st)
  | _ => none
noncomputable def pm_sIst (k : Nat) : pm_S := fun K pc len ls st => match st with
  | .int x :: r => cond (Nat.blt k (pm_len ls)) (pm_fi x fun y => pm_fn (pc + len) fun q => K q (pm_put1 ls k (.int y)) r) none
  | _ => none
noncomputable def pm_sLst (k : Nat) : pm_S := fun K pc len ls st => match st with
  | .long x :: r => cond (Nat.blt (k + 1) (pm_len ls)) (pm_fl x fun y => pm_fn (pc + len) fun q => K q (pm_put2 ls k (.long y)) r) none
  | _ => none
noncomputable def pm_sAst (k : Nat) : pm_S := fun K pc len ls st => match st with
  | .ref x :: r => cond (Nat.blt k (pm_len ls)) (pm_fn (pc + len) fun q => K q (pm_put1 ls k (.ref x)) r) none
  | _ => none
noncomputable def pm_sInc (k : Nat) (n : Int) : pm_S := fun K pc len ls st => match pm_nth ls k with
  | some (some (.int x)) => cond (Nat.beq len 3) (pm_fi (x + Int32.ofInt n) fun y => pm_fn (pc + len) fun q => K q (pm_put1 ls k (.int y)) st) none
  | _ => none
noncomputable def pm_sII (f : Int32 → Int32 → Int32) : pm_S := fun K pc len ls st => match st with
  | .int y :: .int x :: r => pm_fn (pc + len) fun q => K q ls (.int (f x y) :: r)
  | _ => none
noncomputable def pm_sIIz (f : Int32 → Int32 → Int32) : pm_S := fun K pc len ls st => match st with
  | .int y :: .int x :: r => cond (decide (y = 0)) none (pm_fn (pc + len) fun q => K q ls (.int (f x y) :: r))
  | _ => none
noncomputable def pm_sI (f : Int32 → Int32) : pm_S := fun K pc len ls st => match st with
  | .int x :: r => pm_fn (pc + len) fun q => K q ls (.int (f x) :: r)
  | _ => none
noncomputable def pm_sLL (f : Int64 → Int64 → Int64) : pm_S := fun K pc len ls st => match st with
  | .long y :: .long x :: r => pm_fn (pc + len) fun q => K q ls (.long (f x y) :: r)
  | _ => none
noncomputable def pm_sLLz (f : Int64 → Int64 → Int64) : pm_S := fun K pc len ls st => match st with
  | .long y :: .long x :: r => cond (decide (y = 0)) none (pm_fn (pc + len) fun q => K q ls (.long (f x y) :: r))
  | _ => none
noncomputable def pm_sLI (f : Int64 → Int32 → Int64) : pm_S := fun K pc len ls st => match st with
  | .int y :: .long x :: r => pm_fn (pc + len) fun q => K q ls (.long (f x y) :: r)
  | _ => none
noncomputable def pm_sL (f : Int64 → Int64) : pm_S := fun K pc len ls st => match st with
  | .long x :: r => pm_fn (pc + len) fun q => K q ls (.long (f x) :: r)
  | _ => none
noncomputable def pm_sIL (f : Int32 → Int64) : pm_S := fun K pc len ls st => match st with
  | .int x :: r => pm_fn (pc + len) fun q => K q ls (.long (f x) :: r)
  | _ => none
noncomputable def pm_sLi (f : Int64 → Int32) : pm_S := fun K pc len ls st => match st with
  | .long x :: r => pm_fn (pc + len) fun q => K q ls (.int (f x) :: r)
  | _ => none
noncomputable def pm_sCmp : pm_S := fun K pc len ls st => match st with
  | .long y :: .long x :: r => pm_fn (pc + len) fun q => K q ls (.int (lg_cmp x y) :: r)
  | _ => none
noncomputable def pm_sDup : pm_S := fun K pc len ls st => match st with
  | v :: r => cond (Nat.beq v.category 1) (pm_fn (pc + len) fun q => K q ls (v :: v :: r)) none
  | _ => none
noncomputable def pm_sPop : pm_S := fun K pc len ls st => match st with
  | v :: r => cond (Nat.beq v.category 1) (pm_fn (pc + len) fun q => K q ls r) none
  | _ => none
noncomputable def pm_sPop2 : pm_S := fun K pc len ls st => match st with
  | v :: r => cond (Nat.beq v.category 2) (pm_fn (pc + len) fun q => K q ls r) none
  | _ => none
noncomputable def pm_sIf (c : ClassFile.Cond) (off : Int) : pm_S := fun K pc _ ls st => match st with
  | .int x :: r => pm_to ((pc : Int) + off) fun t => cond (pm_cnd c x 0) (K t ls r) (pm_fn (pc + 3) fun q => K q ls r)
  | _ => none
noncomputable def pm_sIf2 (c : ClassFile.Cond) (off : Int) : pm_S := fun K pc _ ls st => match st with
  | .int y :: .int x :: r => pm_to ((pc : Int) + off) fun t => cond (pm_cnd c x y) (K t ls r) (pm_fn (pc + 3) fun q => K q ls r)
  | _ => none
noncomputable def pm_sGo (off : Int) : pm_S := fun K pc _ ls st => pm_to ((pc : Int) + off) fun t => K t ls st
noncomputable def pm_sTsw (d lo hi : Int) (offs : Array Int) : pm_S := fun K pc _ ls st => match st with
  | .int x :: r => pm_tsw x.toInt lo hi d offs fun o => pm_to ((pc : Int) + o) fun t => K t ls r
  | _ => none
noncomputable def pm_sLsw (d : Int) (ps : Array (Int × Int)) : pm_S := fun K pc _ ls st => match st with
  | .int x :: r => cond ((ps.toList.zip (ps.toList.drop 1)).all (fun (a, next) => a.1 < next.1)) (pm_to ((pc : Int) + Op.lookupswitch.offset ps.toList d x.toInt) fun t => K t ls r) none
  | _ => none
noncomputable def pm_gLdc (ix : Nat) : pm_G := fun ih d h m own pc len ls st => match pm_get (pm_lnk own) ix with
  | some (8, n, _, _) => pm_fn (pc + len) fun q => ih d h m q ls (.int (Int32.ofNat n) :: st)
  | some (10, a, _, _) => pm_fn (pc + len) fun q => ih d h m q ls (.ref a :: st)
  | _ => none
noncomputable def pm_gLdw (ix : Nat) : pm_G := fun ih d h m own pc len ls st => match pm_get (pm_lnk own) ix with
  | some (8, n, _, _) => pm_fn (pc + len) fun q => ih d h m q ls (.int (Int32.ofNat n) :: st)
  | _ => none
noncomputable def pm_gLd2 (ix : Nat) : pm_G := fun ih d h m own pc len ls st => match pm_get (pm_lnk own) ix with
  | some (9, n, _, _) => pm_fn (pc + len) fun q => ih d h m q ls (.long (Int64.ofNat n) :: st)
  | _ => none
noncomputable def pm_gSta (ix : Nat) : pm_G := fun ih d h m own pc len ls st => match pm_get (pm_lnk own) ix with
  | some (11, a, _, _) => pm_fn (pc + len) fun q => ih d h m q ls (.ref a :: st)
  | _ => none
noncomputable def pm_gGet (ix : Nat) : pm_G := fun ih d h m own pc len ls st => match st with
  | .ref a :: r => match pm_get (pm_lnk own) ix, pm_cell h a with
    | some (0, ci, k, _), some (.inr (cj, fs)) => cond (Nat.beq ci cj) (match pm_nth fs k with
        | some v => pm_fn (pc + len) fun q => ih d h m q ls (v :: r)
        | none => none) none
    | _, _ => none
  | _ => none
/-- a value, its number written out -/
noncomputable def pm_fv (v : Value) (k : Value → pm_R) : pm_R := match v with
  | .int x => pm_fi x fun y => k (.int y)
  | .long x => pm_fl x fun y => k (.long y)
  | v => k v
noncomputable def pm_gPut (ix : Nat) : pm_G := fun ih d h m own pc len ls st => match st with
  | v :: .ref a :: r => match pm_get (pm_lnk own) ix, pm_cell h a with
    | some (0, ci, k, t), some (.inr (cj, fs)) => cond (Nat.beq ci cj) (cond (Nat.blt k (pm_len fs)) (cond (pm_fit t v) (pm_fv v fun v => pm_fn (pc + len) fun q => ih d (pm_set h (a - 16) (.inr (cj, pm_set fs k v))) m q ls r) none) none) none
    | _, _ => none
  | _ => none
noncomputable def pm_gNew (X : List (Nat × List Value)) (ix : Nat) : pm_G := fun ih d h m own pc len ls st => match pm_get (pm_lnk own) ix with
  | some (6, ci, n, _) => match pm_nth X (16 + ci) with
    | some (_, fs) => cond (Nat.beq (pm_len fs) n) (pm_fn (pm_len h) fun z => pm_fn (pc + len) fun q => ih d (h ++ [.inr (ci, fs)]) m q ls (.ref (16 + z) :: st)) none
    | none => none
  | some (13, _, _, _) => cond (pm_scH h && Nat.beq (pm_len st) 0) (some (h, .inr ())) none
  | _ => none
noncomputable def pm_gNwa (t : ArrayType) : pm_G := fun ih d h m _ pc len ls st => match st with
  | .int n :: r => cond (decide (n < 0)) none (cond (Nat.ble n.toNatClampNeg 60000) (cond (Nat.blt (pm_tc t).1 5) (pm_fn (pm_len h) fun z => pm_fn (pc + len) fun q => ih d (h ++ [.inl ((pm_tc t).1, pm_rep n.toNatClampNeg (pm_tc t).2)]) m q ls (.ref (16 + z) :: r)) none) none)
  | _ => none
noncomputable def pm_gAnw (ix : Nat) : pm_G := fun ih d h m own pc len ls st => match st, pm_get (pm_lnk own) ix with
  | .int n :: r, some (6, ci, _, _) => cond (decide (n < 0)) none (cond (Nat.ble n.toNatClampNeg 60000 && pm_okt (5 + ci)) (pm_fn (pm_len h) fun z => pm_fn (pc + len) fun q => ih d (h ++ [.inl (5 + ci, pm_rep n.toNatClampNeg .null)]) m q ls (.ref (16 + z) :: r)) none)
  | _, _ => none
noncomputable def pm_gLen (X : List (Nat × List Value)) : pm_G := fun ih d h m _ pc len ls st => match st with
  | .ref a :: r => match pm_row X h a with
    | some (t, l) => cond (pm_okt t) (pm_fn (pm_len l) fun z => pm_fn (pc + len) fun q => ih d h m q ls (.int (Int32.ofNat z) :: r)) none
    | none => none
  | _ => none
/-- a load from a row of the type code t, or t' -/
noncomputable def pm_gAld (X : List (Nat × List Value)) (t t' : Nat) : pm_G := fun ih d h m _ pc len ls st => match st with
  | .int j :: .ref a :: r => match pm_row X h a with
    | some (u, l) => cond (Nat.beq u t || Nat.beq u t') (cond (decide (j < 0)) none (match pm_nth l j.toNatClampNeg with
        | some (.int x) => pm_fn (pc + len) fun q => ih d h m q ls (.int x :: r)
        | _ => none)) none
    | none => none
  | _ => none
noncomputable def pm_gLald (X : List (Nat × List Value)) : pm_G := fun ih d h m _ pc len ls st => match st with
  | .int j :: .ref a :: r => match pm_row X h a with
    | some (u, l) => cond (Nat.beq u 3) (cond (decide (j < 0)) none (match pm_nth l j.toNatClampNeg with
        | some (.long x) => pm_fn (pc + len) fun q => ih d h m q ls (.long x :: r)
        | _ => none)) none
    | none => none
  | _ => none
noncomputable def pm_gAald : pm_G := fun ih d h m _ pc len ls st => match st with
  | .int j :: .ref a :: r => match pm_cell h a with
    | some (.inl (t, l)) => cond (Nat.beq t 8 || Nat.beq t 12) (cond (decide (j < 0)) none (match pm_nth l j.toNatClampNeg with
        | some (.ref x) => pm_fn (pc + len) fun q => ih d h m q ls (.ref x :: r)
        | _ => none)) none
    | _ => none
  | _ => none
/-- a store of an int into a row of the type code t, narrowed by f -/
noncomputable def pm_gIst (t : Nat) (f : Int32 → Int32) : pm_G := fun ih d h m _ pc len ls st => match st with
  | .int x :: .int j :: .ref a :: r => match pm_cell h a with
    | some (.inl (u, l)) => cond (Nat.beq u t) (cond (pm_in j (pm_len l)) (pm_fi (f x) fun y => pm_fn (pc + len) fun q => ih d (pm_set h (a - 16) (.inl (u, pm_set l j.toNatClampNeg (.int y)))) m q ls r) none) none
    | _ => none
  | _ => none
noncomputable def pm_gLst : pm_G := fun ih d h m _ pc len ls st => match st with
  | .long x :: .int j :: .ref a :: r => match pm_cell h a with
    | some (.inl (u, l)) => cond (Nat.beq u 3) (cond (pm_in j (pm_len l)) (pm_fl x fun y => pm_fn (pc + len) fun q => ih d (pm_set h (a - 16) (.inl (u, pm_set l j.toNatClampNeg (.long y)))) m q ls r) none) none
    | _ => none
  | _ => none
noncomputable def pm_gAst : pm_G := fun ih d h m _ pc len ls st => match st with
  | .ref x :: .int j :: .ref a :: r => match pm_cell h a, pm_cell h x with
    | some (.inl (t, l)), some (.inr (ci, _)) => cond (pm_in j (pm_len l)) (cond (Nat.beq t (5 + ci) && (Nat.beq t 8 || Nat.beq t 12)) (pm_fn (pc + len) fun q => ih d (pm_set h (a - 16) (.inl (t, pm_set l j.toNatClampNeg (.ref x)))) m q ls r) none) none
    | _, _ => none
  | _ => none
noncomputable def pm_p0 (X : List (Nat × List Value)) (K : pm_H → List Value → pm_R) (h : pm_H) (st : List Value) : pm_R := match st with
  | .ref _ :: r => K h r
  | _ => none
noncomputable def pm_p1 (X : List (Nat × List Value)) (K : pm_H → List Value → pm_R) (h : pm_H) (st : List Value) : pm_R := match st with
  | .int y :: .int x :: r => K h (.int (if x < y then y else x) :: r)
  | _ => none
noncomputable def pm_p2 (X : List (Nat × List Value)) (K : pm_H → List Value → pm_R) (h : pm_H) (st : List Value) : pm_R := match st with
  | .int y :: .int x :: r => K h (.int (if y < x then y else x) :: r)
  | _ => none
noncomputable def pm_p3 (X : List (Nat × List Value)) (K : pm_H → List Value → pm_R) (h : pm_H) (st : List Value) : pm_R := match st with
  | .int x :: r => K h (.int (if 0 ≤ x then x else 0 - x) :: r)
  | _ => none
noncomputable def pm_p4 (X : List (Nat × List Value)) (K : pm_H → List Value → pm_R) (h : pm_H) (st : List Value) : pm_R := match st with
  | .long x :: r => K h (.long (if 0 < x then x else -x) :: r)
  | _ => none
noncomputable def pm_p5 (X : List (Nat × List Value)) (K : pm_H → List Value → pm_R) (h : pm_H) (st : List Value) : pm_R := match st with
  | .int n :: .int dp :: .ref d :: .int sp :: .ref a :: r => match pm_row X h a, pm_cell h d with
    | some (t, l), some (.inl (t', l')) => cond (Nat.beq t 0 && (Nat.beq t' 0 && (Nat.ble 16 a && (!decide (n < 0) && (!decide (dp < 0) && (!decide (sp < 0) && (Nat.ble (sp.toNatClampNeg + n.toNatClampNeg) (pm_len l) && Nat.ble (dp.toNatClampNeg + n.toNatClampNeg) (pm_len l'))))))))
        (K (pm_set h (d - 16) (.inl (0, pm_cpy l l' sp.toNatClampNeg dp.toNatClampNeg n.toNatClampNeg))) r) none
    | _, _ => none
  | _ => none
noncomputable def pm_p6 (X : List (Nat × List Value)) (K : pm_H → List Value → pm_R) (h : pm_H) (st : List Value) : pm_R := match st with
  | .int x :: .ref d :: r => match pm_cell h d with
    | some (.inl (t, l)) => cond (Nat.beq t 0 && Nat.ble (pm_len l) 60000) (K (pm_set h (d - 16) (.inl (0, pm_rep (pm_len l) (.int x)))) r) none
    | _ => none
  | _ => none
/-- what is called by its meaning: 0 Object.<init>, 1 max, 2 min, 3, 4 abs, 5 arraycopy, 6 fill -/
noncomputable def pm_prim (X : List (Nat × List Value)) (f : Nat) (K : pm_H → List Value → pm_R) (h : pm_H) (st : List Value) : pm_R := match f with
  | 0 => pm_p0 X K h st
  | 1 => pm_p1 X K h st
  | 2 => pm_p2 X K h st
  | 3 => pm_p3 X K h st
  | 4 => pm_p4 X K h st
  | 5 => pm_p5 X K h st
  | 6 => pm_p6 X K h st
  | _ => none
/-- a String constant's characters -/
noncomputable def pm_sx (X : List (Nat × List Value)) (a : Nat) : Option (List Value) := cond (Nat.ble 4 a && Nat.blt a 12) (match pm_nth X a with
  | some q => cond (Nat.beq q.1 4) (some q.2) none
  | none => none) none
/-- where a byte stands first -/
noncomputable def pm_ixF (z : Int32) (l : List Value) : Nat → Int32 := List.rec (fun _ => -1) (fun v _ ih k => match v with
  | .int b => cond (decide (b = z)) (Int32.ofNat k) (ih (k + 1))
  | _ => -1) l
noncomputable def pm_t7 (X : List (Nat × List Value)) (K : pm_H → List Value → pm_R) (h : pm_H) (st : List Value) : pm_R := match st with
  | .ref a :: r => match pm_sx X a with
    | some l => pm_fn (pm_len l) fun n => K h (.int (Int32.ofNat n) :: r)
    | none => none
  | _ => none
noncomputable def pm_t8 (X : List (Nat × List Value)) (K : pm_H → List Value → pm_R) (h : pm_H) (st : List Value) : pm_R := match st with
  | .int j :: .ref a :: r => match pm_sx X a with
    | some l => cond (decide (j < 0)) none (match pm_nth l j.toNatClampNeg with
      | some (.int x) => K h (.int (x &&& 255) :: r)
      | _ => none)
    | none => none
  | _ => none
noncomputable def pm_t9 (X : List (Nat × List Value)) (K : pm_H → List Value → pm_R) (h : pm_H) (st : List Value) : pm_R := match st with
  | .int z :: .ref a :: r => match pm_sx X a with
    | some l => K h (.int (if z < 0 ∨ (255 : Int32) < z then -1 else pm_ixF z.toInt8.toInt32 l 0) :: r)
    | none => none
  | _ => none
/-- the String constants' methods: 7 length, 8 charAt, 9 indexOf -/
noncomputable def pm_str (X : List (Nat × List Value)) (f : Nat) (K : pm_H → List Value → pm_R) (h : pm_H) (st : List Value) : pm_R := match f with
  | 7 => pm_t7 X K h st
  | 8 => pm_t8 X K h st
  | 9 => pm_t9 X K h st
  | _ => none
/-- the words that stay on the stack under a call: 8 at most -/
noncomputable def pm_cat8 (r : List Value) : Bool := Nat.ble (List.rec 0 (fun v _ ih => v.category + ih) r) 8
/-- a call of m' with the arguments As; hnd: what it throws is caught here -/
noncomputable def pm_call (ih : pm_I) (d : Nat) (h : pm_H) (m pc : Nat) (ls : pm_L) (m' : Nat) (As rest : List Value) (hnd : Bool) : pm_R := match d with
  | 0 => none
  | d' + 1 => match pm_ent m' with
    | none => none
    | some e => cond (Nat.beq (pm_len (pm_lay As e.2.1)) e.2.1) (match ih d' h m' 0 (pm_lay As e.2.1) [] with
      | some (h', .inl v) => pm_fn (pc + 3) fun q => ih d h' m q ls (v.toList ++ rest)
      | some (h', .inr _) => cond hnd (some (h', .inl (some (.int 1)))) none
      | none => none) none
/-- by its kind: 1 virtual, 2 static, 3 a constructor -/
noncomputable def pm_gC (how : Nat) (ih : pm_I) (d : Nat) (h : pm_H) (m own pc : Nat) (ls : pm_L) (m' ci : Nat) (As rest : List Value) : pm_R := match how with
  | 1 => match As with
    | .ref a :: _ => match pm_cell h a with
      | some (.inr (cj, _)) => cond (Nat.beq cj ci) (pm_call ih d h m pc ls m' As rest (Nat.beq own 13 && !Nat.beq m 309)) none
      | _ => none
    | _ => none
  | 2 => pm_call ih d h m pc ls m' As rest false
  | 3 => match As with
    | .ref _ :: _ => pm_call ih d h m pc ls m' As rest false
    | _ => none
  | _ => none
/-- how: 1 virtual, 2 static, 3 a constructor -/
noncomputable def pm_gInv (X : List (Nat × List Value)) (how ix : Nat) : pm_G := fun ih d h m own pc _ ls st => match pm_get (pm_lnk own) ix with
  | some (kind, m', na, ci) =>
    cond (Nat.beq kind 12) (cond (Nat.beq how (cond (Nat.beq m' 0) 3 2)) (pm_prim X m' (fun h' st' => cond (pm_cat8 st') (pm_fn (pc + 3) fun q => ih d h' m q ls st') none) h st) none)
      (cond (Nat.beq kind 15) (cond (Nat.beq how 1) (pm_str X m' (fun h' st' => cond (pm_cat8 st') (pm_fn (pc + 3) fun q => ih d h' m q ls st') none) h st) none)
      (match pm_pop na st [] with
      | some (As, rest) => cond (pm_cat8 rest) (cond (Nat.beq kind how) (pm_gC how ih d h m own pc ls m' ci As rest)
          (cond (Nat.beq kind 14 && (Nat.beq how 2 && Nat.beq own 13)) (cond (pm_all (pm_scl (16 + pm_len h)) ls && pm_all (pm_scv (16 + pm_len h)) rest) (pm_call ih d h m pc ls m' As rest false) none) none)) none
      | none => none))
  | none => none
/-- an answer: the stack holds it alone, and it is of the kind that the method's head says -/
noncomputable def pm_gRet (lo hi : Nat) : pm_G := fun _ _ h m _ _ _ _ st => match st with
  | [v] => match pm_ent m with
    | some e => cond (Nat.ble lo e.2.2.2.1) (cond (Nat.ble e.2.2.2.1 hi) (cond (pm_fit e.2.2.2.1 v) (some (h, .inl (some v))) none) none) none
    | none => none
  | _ => none
noncomputable def pm_gRtv : pm_G := fun _ _ h m _ _ _ _ st => match st with
  | [] => match pm_ent m with
    | some e => cond (Nat.beq e.2.2.2.1 4) (some (h, .inl none)) none
    | none => none
  | _ => none
noncomputable def pm_lift (s : pm_S) : pm_G := fun ih d h m _ pc len ls st => s (ih d h m) pc len ls st
noncomputable def pm_dsp (X : List (Nat × List Value)) (i : Instr) : pm_G := match i with
  | .iconst n => pm_lift (pm_sC (.int (Int32.ofInt n)))
  | .bipush n => pm_lift (pm_sC (.int (Int8.ofInt n).toInt32))
  | .sipush n => pm_lift (pm_sC (.int (Int16.ofInt n).toInt32))
  | .lconst n => pm_lift (pm_sC (.long (Int64.ofNat n.val)))
  | .aload k => pm_lift (pm_sAld k)
  | .aload_n k => pm_lift (pm_sAld k.val)
  | .iload k => pm_lift (pm_sIld k)
  | .iload_n k => pm_lift (pm_sIld k.val)
  | .lload k => pm_lift (pm_sLld k)
  | .lload_n k => pm_lift (pm_sLld k.val)
  | .istore k => pm_lift (pm_sIst k)
  | .istore_n k => pm_lift (pm_sIst k.val)
  | .astore k => pm_lift (pm_sAst k)
  | .astore_n k => pm_lift (pm_sAst k.val)
  | .lstore k => pm_lift (pm_sLst k)
  | .lstore_n k => pm_lift (pm_sLst k.val)
  | .iinc k n => pm_lift (pm_sInc k n)
  | .iadd => pm_lift (pm_sII fun x y => x + y)
  | .isub => pm_lift (pm_sII fun x y => x - y)
  | .imul => pm_lift (pm_sII fun x y => x * y)
  | .iand => pm_lift (pm_sII fun x y => x &&& y)
  | .ior => pm_lift (pm_sII fun x y => x ||| y)
  | .idiv => pm_lift (pm_sIIz fun x y => x / y)
  | .irem => pm_lift (pm_sIIz fun x y => x - x / y * y)
  | .ineg => pm_lift (pm_sI fun x => -x)
  | .ishl => pm_lift (pm_sII fun x y => x <<< (y &&& 31))
  | .ishr => pm_lift (pm_sII fun x y => x >>> (y &&& 31))
  | .iushr => pm_lift (pm_sII fun x y => (x.toUInt32 >>> (y.toUInt32 &&& Int32.toUInt32 31)).toInt32)
  | .ladd => pm_lift (pm_sLL fun x y => x + y)
  | .lsub => pm_lift (pm_sLL fun x y => x - y)
  | .lmul => pm_lift (pm_sLL fun x y => x * y)
  | .land => pm_lift (pm_sLL fun x y => x &&& y)
  | .lor => pm_lift (pm_sLL fun x y => x ||| y)
  | .ldiv => pm_lift (pm_sLLz fun x y => x / y)
  | .lrem => pm_lift (pm_sLLz fun x y => x - x / y * y)
  | .lneg => pm_lift (pm_sL fun x => -x)
  | .lshl => pm_lift (pm_sLI fun x y => x <<< (y.toInt64 &&& 63))
  | .lshr => pm_lift (pm_sLI fun x y => x >>> (y.toInt64 &&& 63))
  | .lushr => pm_lift (pm_sLI fun x y => (x.toUInt64 >>> (y.toInt64.toUInt64 &&& Int64.toUInt64 63)).toInt64)
  | .lcmp => pm_lift pm_sCmp
  | .i2l => pm_lift (pm_sIL fun x => x.toInt64)
  | .l2i => pm_lift (pm_sLi fun x => x.toInt32)
  | .i2b => pm_lift (pm_sI fun x => x.toInt8.toInt32)
  | .i2c => pm_lift (pm_sI fun x => (x.toUInt32 % 65536).toInt32)
  | .dup => pm_lift pm_sDup
  | .pop => pm_lift pm_sPop
  | .pop2 => pm_lift pm_sPop2
  | .ifCond c off => pm_lift (pm_sIf c off)
  | .if_icmp c off => pm_lift (pm_sIf2 c off)
  | .goto off => pm_lift (pm_sGo off)
  | .tableswitch d lo hi offs => pm_lift (pm_sTsw d lo hi offs)
  | .lookupswitch d ps => pm_lift (pm_sLsw d ps)
  | .ldc ix => pm_gLdc ix
  | .ldc_w ix => pm_gLdw ix
  | .ldc2_w ix => pm_gLd2 ix
  | .getstatic ix => pm_gSta ix
  | .getfield ix => pm_gGet ix
  | .putfield ix => pm_gPut ix
  | .new ix => pm_gNew X ix
  | .newarray t => pm_gNwa t
  | .anewarray ix => pm_gAnw ix
  | .arraylength => pm_gLen X
  | .iaload => pm_gAld X 0 0
  | .baload => pm_gAld X 1 4
  | .caload => pm_gAld X 2 2
  | .laload => pm_gLald X
  | .aaload => pm_gAald
  | .iastore => pm_gIst 0 fun x => x
  | .bastore => pm_gIst 1 fun x => x &&& 1
  | .castore => pm_gIst 2 fun x => x.toUInt32.toUInt16.toUInt32.toInt32
  | .lastore => pm_gLst
  | .aastore => pm_gAst
  | .invokestatic ix => pm_gInv X 2 ix
  | .invokevirtual ix => pm_gInv X 1 ix
  | .invokespecial ix => pm_gInv X 3 ix
  | .ireturn => pm_gRet 0 1
  | .lreturn => pm_gRet 2 2
  | .areturn => pm_gRet 3 3
  | .return_ => pm_gRtv
  | _ => fun _ _ _ _ _ _ _ _ _ => none
noncomputable def pm_F (X : List (Nat × List Value)) (ih : pm_I) : pm_I := fun d h m pc ls st => match pm_ent m with
  | none => none
  | some e => match pm_get e.2.2.2.2 pc with
    | none => none
    | some q => pm_dsp X q.1 ih d h m e.2.2.1 pc q.2 ls st
/-- the machine: n bounds the steps and the depth -/
noncomputable def pm_x (X : List (Nat × List Value)) (n : Nat) : pm_I := Nat.rec (fun _ _ _ _ _ _ => none) (fun _ ih => pm_F X ih) n
theorem pm_x_succ (X : List (Nat × List Value)) (n : Nat) : pm_x X (n + 1) = pm_F X (pm_x X n) := rfl
end
section
/-! soundness, the instructions that leave the heap alone -/
def pm_rv (ad : Nat → Nat) (v : Value) : Value := match v with
  | .ref a => .ref (ad a)
  | v => v
theorem pm_rv_cat (ad : Nat → Nat) (v : Value) : (pm_rv ad v).category = v.category := by cases v <;> rfl
/-- the locals: what the picture knows of them holds -/
def pm_lr (ad : Nat → Nat) (nL : Nat) (ls : pm_L) (LS : Array Slot) : Prop := LS.size = nL ∧ ls.length = nL ∧ lv_wf LS ∧ ∀ (i : Nat) (v : Value), ls[i]? = some (some v) → LS[i]? = some (.val (pm_rv ad v))
def pm_prz (ad : Nat → Nat) (ls : pm_L) : List (Nat × Value) := (List.range ls.length).filterMap (fun i => match ls[i]? with
  | some (some v) => some (i, pm_rv ad v)
  | _ => none)
theorem pm_prz_of {ad : Nat → Nat} {ls : pm_L} {i : Nat} {v : Value} (h : ls[i]? = some (some v)) : (i, pm_rv ad v) ∈ pm_prz ad ls := by
  unfold pm_prz
  refine List.mem_filterMap.mpr ⟨i, List.mem_range.mpr (List.getElem?_eq_some_iff.mp h).1, ?_⟩
  rw [h]
theorem pm_prz_mem {ad : Nat → Nat} {ls : pm_L} {q : Nat × Value} (h : q ∈ pm_prz ad ls) : ∃ v, ls[q.1]? = some (some v) ∧ q.2 = pm_rv ad v := by
  unfold pm_prz at h
  obtain ⟨i, -, hi⟩ := List.mem_filterMap.mp h
  split at hi
  · rename_i v hv
    cases hi
    exact ⟨v, hv, rfl⟩
  · cases hi
theorem pm_lr.has {ad : Nat → Nat} {nL : Nat} {ls : pm_L} {LS : Array Slot} (h : pm_lr ad nL ls LS) : lv_has LS nL (pm_prz ad ls) := by
  refine ⟨h.1, h.2.2.1, fun q hq => ?_⟩
  obtain ⟨v, h1, h2⟩ := pm_prz_mem hq
  rw [h2]
  exact h.2.2.2 _ _ h1
theorem pm_kill_len (ls : pm_L) (i : Nat) : (pm_kill ls i).length = ls.length := by
  cases i with
  | zero => rfl
  | succ j =>
    show List.length (match pm_nth ls j with
      | some (some v) => cond (Nat.beq v.category 2) (pm_set ls j none) ls
      | _ => ls) = _
    split
    · rename_i v _
      cases Nat.beq v.category 2
      · rfl
      · rw [cond_true, pm_set_eq]; simp
    · rfl
theorem pm_kill_get {ls : pm_L} {i k : Nat} {v : Value} (h : (pm_kill ls i)[k]? = some (some v)) : ls[k]? = some (some v) ∧ ¬ (k + 1 = i ∧ v.category = 2) := by
  cases i with
  | zero => exact ⟨h, fun q => by omega⟩
  | succ j =>
    have e : pm_kill ls (j + 1) = (match pm_nth ls j with
      | some (some v) => cond (Nat.beq v.category 2) (pm_set ls j none) ls
      | _ => ls) := rfl
    rw [e] at h
    split at h
    · rename_i w hw
      rw [pm_nth_eq] at hw
      cases hc : Nat.beq w.category 2 with
      | false =>
        rw [hc, cond_false] at h
        refine ⟨h, fun q => ?_⟩
        obtain ⟨q1, q2⟩ := q
        have q3 : k = j := by omega
        subst q3
        rw [hw] at h
        cases h
        rw [q2] at hc
        cases hc
      | true =>
        rw [hc, cond_true, pm_set_eq] at h
        by_cases hk : j = k
        · subst hk
          rw [List.getElem?_set_self (List.getElem?_eq_some_iff.mp hw).1] at h
          cases h
        · rw [List.getElem?_set_ne hk] at h
          exact ⟨h, fun q => hk (by omega)⟩
    · rename_i hn
      refine ⟨h, fun q => ?_⟩
      have q3 : k = j := by omega
      subst q3
      exact hn v (by rw [pm_nth_eq]; exact h)
theorem pm_put1_len (ls : pm_L) (i : Nat) (v : Value) : (pm_put1 ls i v).length = ls.length := by
  unfold pm_put1
  rw [pm_set_eq, List.length_set, pm_kill_len]
theorem pm_put2_len (ls : pm_L) (i : Nat) (v : Value) : (pm_put2 ls i v).length = ls.length := by
  unfold pm_put2
  rw [pm_set_eq, pm_set_eq, List.length_set, List.length_set, pm_kill_len]
theorem pm_put1_get {ls : pm_L} {i k : Nat} {v w : Value} (hi : i < ls.length) (h : (pm_put1 ls i v)[k]? = some (some w)) : (k = i ∧ w = v) ∨ (k ≠ i ∧ ls[k]? = some (some w) ∧ ¬ (k + 1 = i ∧ w.category = 2)) := by
  unfold pm_put1 at h
  rw [pm_set_eq] at h
  by_cases hk : i = k
  · subst hk
    rw [List.getElem?_set_self (by rw [pm_kill_len]; exact hi)] at h
    cases h
    exact Or.inl ⟨rfl, rfl⟩
  · rw [List.getElem?_set_ne hk] at h
    exact Or.inr ⟨fun q => hk q.symm, pm_kill_get h⟩
theorem pm_lr.put1 {ad : Nat → Nat} {nL i : Nat} {ls : pm_L} {LS LS' : Array Slot} {v : Value} (h : pm_lr ad nL ls LS) (hi : i < ls.length)
    (h' : lv_has LS' nL ((i, pm_rv ad v) :: (pm_prz ad ls).filter (fun q => !(q.1 == i) && !(q.1 + 1 == i && q.2.category == 2)))) : pm_lr ad nL (pm_put1 ls i v) LS' := by
  refine ⟨h'.1, by rw [pm_put1_len]; exact h.2.1, h'.2.1, fun k w hk => ?_⟩
  rcases pm_put1_get hi hk with ⟨rfl, rfl⟩ | ⟨h1, h2, h3⟩
  · exact h'.2.2 _ List.mem_cons_self
  · refine h'.2.2 (k, pm_rv ad w) (List.mem_cons_of_mem _ (List.mem_filter.mpr ⟨pm_prz_of h2, ?_⟩))
    show (!(k == i) && !(k + 1 == i && (pm_rv ad w).category == 2)) = true
    rw [pm_rv_cat]
    simp only [Bool.and_eq_true, Bool.not_eq_true', beq_eq_false_iff_ne, ne_eq, Bool.and_eq_false_imp, beq_iff_eq]
    exact ⟨h1, fun q r => h3 ⟨q, r⟩⟩
theorem pm_lr.put2 {ad : Nat → Nat} {nL i : Nat} {ls : pm_L} {LS LS' : Array Slot} {v : Value} (h : pm_lr ad nL ls LS) (hi : i + 1 < ls.length)
    (h' : lv_has LS' nL ((i, pm_rv ad v) :: (pm_prz ad ls).filter (fun q => !(q.1 == i) && (!(q.1 == i + 1) && !(q.1 + 1 == i && q.2.category == 2))))) : pm_lr ad nL (pm_put2 ls i v) LS' := by
  refine ⟨h'.1, by rw [pm_put2_len]; exact h.2.1, h'.2.1, fun k w hk => ?_⟩
  have e : pm_put2 ls i v = (pm_put1 ls i v).set (i + 1) none := by unfold pm_put2 pm_put1; rw [pm_set_eq]
  rw [e] at hk
  by_cases hz : i + 1 = k
  · subst hz
    rw [List.getElem?_set_self (by rw [pm_put1_len]; exact hi)] at hk
    cases hk
  · rw [List.getElem?_set_ne hz] at hk
    rcases pm_put1_get (by omega) hk with ⟨rfl, rfl⟩ | ⟨h1, h2, h3⟩
    · exact h'.2.2 _ List.mem_cons_self
    · refine h'.2.2 (k, pm_rv ad w) (List.mem_cons_of_mem _ (List.mem_filter.mpr ⟨pm_prz_of h2, ?_⟩))
      show (!(k == i) && (!(k == i + 1) && !(k + 1 == i && (pm_rv ad w).category == 2))) = true
      rw [pm_rv_cat]
      simp only [Bool.and_eq_true, Bool.not_eq_true', beq_eq_false_iff_ne, ne_eq, Bool.and_eq_false_imp, beq_iff_eq]
      exact ⟨h1, fun q => hz q.symm, fun q r => h3 ⟨q, r⟩⟩
theorem pm_to_some {z : Int} {K : Nat → pm_R} {o : pm_H × (Option Value ⊕ Unit)} (h : pm_to z K = some o) : ∃ t : Nat, z = (t : Int) ∧ K t = some o := by
  unfold pm_to at h
  split at h
  · rename_i t
    rw [pm_fn_eq] at h
    exact ⟨t, rfl, h⟩
  · cases h
section PmS
variable {p : Program} {l : Launch} {e : Env} {R : Room} {s : State} {m : MethodId} {args : Array Value} {below : List Frame} {meth : Method} {c : Code} {H : Heap} {locs : List Loc} {cells slots : Nat} {Q : State → Prop}
variable {ad : Nat → Nat} {nL pc len : Nat} {ls : pm_L} {st : List Value} {K : Nat → pm_L → List Value → pm_R} {o : pm_H × (Option Value ⊕ Unit)}
/-- the frame of the picture, at every frame of the machine that it is a picture of -/
def pm_J (p : Program) (l : Launch) (e : Env) (R : Room) (s : State) (m : MethodId) (args : Array Value) (below : List Frame) (meth : Method) (c : Code) (H : Heap) (locs : List Loc) (cells slots : Nat) (Q : State → Prop) (ad : Nat → Nat) (nL pc : Nat) (ls : pm_L) (st : List Value) : Prop :=
  ∀ LS : Array Slot, pm_lr ad nL ls LS → W p l e R s m args below meth c H locs cells slots Q (F0 m pc LS (st.map (pm_rv ad)))
theorem pm_jC {v : Value} (row : ∀ (LS : Array Slot) (rest : List Value), W p l e R s m args below meth c H locs cells slots Q (F0 m (pc + len) LS (v :: rest)) → W p l e R s m args below meth c H locs cells slots Q (F0 m pc LS rest)) (hv : pm_rv ad v = v)
    (hK : ∀ q ls st, K q ls st = some o → pm_J p l e R s m args below meth c H locs cells slots Q ad nL q ls st) (h : pm_sC v K pc len ls st = some o) : pm_J p l e R s m args below meth c H locs cells slots Q ad nL pc ls st := by
  intro LS hl
  unfold pm_sC at h
  rw [pm_fn_eq] at h
  have := hK _ _ _ h LS hl
  rw [List.map_cons, hv] at this
  exact row _ _ this
theorem pm_jIld {k : Nat} (row : ∀ (x : Int32) (LS : Array Slot) (rest : List Value), LS[k]? = some (.val (.int x)) → W p l e R s m args below meth c H locs cells slots Q (F0 m (pc + len) LS (.int x :: rest)) → W p l e R s m args below meth c H locs cells slots Q (F0 m pc LS rest))
    (hK : ∀ q ls st, K q ls st = some o → pm_J p l e R s m args below meth c H locs cells slots Q ad nL q ls st) (h : pm_sIld k K pc len ls st = some o) : pm_J p l e R s m args below meth c H locs cells slots Q ad nL pc ls st := by
  intro LS hl
  unfold pm_sIld at h
  split at h
  · rename_i x hx
    rw [pm_fn_eq] at h
    rw [pm_nth_eq] at hx
    exact row _ _ _ (hl.2.2.2 _ _ hx) (hK _ _ _ h LS hl)
  · cases h
theorem pm_jLld {k : Nat} (row : ∀ (x : Int64) (LS : Array Slot) (rest : List Value), LS[k]? = some (.val (.long x)) → W p l e R s m args below meth c H locs cells slots Q (F0 m (pc + len) LS (.long x :: rest)) → W p l e R s m args below meth c H locs cells slots Q (F0 m pc LS rest))
    (hK : ∀ q ls st, K q ls st = some o → pm_J p l e R s m args below meth c H locs cells slots Q ad nL q ls st) (h : pm_sLld k K pc len ls st = some o) : pm_J p l e R s m args below meth c H locs cells slots Q ad nL pc ls st := by
  intro LS hl
  unfold pm_sLld at h
  split at h
  · rename_i x hx
    rw [pm_fn_eq] at h
    rw [pm_nth_eq] at hx
    exact row _ _ _ (hl.2.2.2 _ _ hx) (hK _ _ _ h LS hl)
  · cases h
theorem pm_jAld {k : Nat} (row : ∀ (x : Nat) (LS : Array Slot) (rest : List Value), LS[k]? = some (.val (.ref x)) → W p l e R s m args below meth c H locs cells slots Q (F0 m (pc + len) LS (.ref x :: rest)) → W p l e R s m args below meth c H locs cells slots Q (F0 m pc LS rest))
    (hK : ∀ q ls st, K q ls st = some o → pm_J p l e R s m args below meth c H locs cells slots Q ad nL q ls st) (h : pm_sAld k K pc len ls st = some o) : pm_J p l e R s m args below meth c H locs cells slots Q ad nL pc ls st := by
  intro LS hl
  unfold pm_sAld at h
  split at h
  · rename_i x hx
    rw [pm_fn_eq] at h
    rw [pm_nth_eq] at hx
    exact row _ _ _ (hl.2.2.2 _ _ hx) (hK _ _ _ h LS hl)
  · cases h
theorem pm_jIst {k : Nat} (row : ∀ (x : Int32) (LS : Array Slot) (rest : List Value) (lv : List (Nat × Value)), lv_has LS nL lv → k < nL → (∀ LS' : Array Slot, lv_has LS' nL ((k, Value.int x) :: lv.filter (fun q => !(q.1 == k) && !(q.1 + 1 == k && q.2.category == 2))) → W p l e R s m args below meth c H locs cells slots Q (F0 m (pc + len) LS' rest)) → W p l e R s m args below meth c H locs cells slots Q (F0 m pc LS (.int x :: rest)))
    (hK : ∀ q ls st, K q ls st = some o → pm_J p l e R s m args below meth c H locs cells slots Q ad nL q ls st) (h : pm_sIst k K pc len ls st = some o) : pm_J p l e R s m args below meth c H locs cells slots Q ad nL pc ls st := by
  intro LS hl
  unfold pm_sIst at h
  split at h
  · rename_i x r
    rw [pm_len_eq] at h
    cases hb : Nat.blt k ls.length with
    | false => rw [hb] at h; cases h
    | true =>
      rw [hb, cond_true, pm_fi_eq, pm_fn_eq] at h
      have hk : k < ls.length := Nat.le_of_ble_eq_true hb
      exact row _ _ _ _ hl.has (by rw [← hl.2.1]; exact hk) fun LS' h' => hK _ _ _ h LS' (hl.put1 (v := .int x) hk h')
  · cases h
theorem pm_jAst {k : Nat} (row : ∀ (x : Nat) (LS : Array Slot) (rest : List Value) (lv : List (Nat × Value)), lv_has LS nL lv → k < nL → (∀ LS' : Array Slot, lv_has LS' nL ((k, Value.ref x) :: lv.filter (fun q => !(q.1 == k) && !(q.1 + 1 == k && q.2.category == 2))) → W p l e R s m args below meth c H locs cells slots Q (F0 m (pc + len) LS' rest)) → W p l e R s m args below meth c H locs cells slots Q (F0 m pc LS (.ref x :: rest)))
    (hK : ∀ q ls st, K q ls st = some o → pm_J p l e R s m args below meth c H locs cells slots Q ad nL q ls st) (h : pm_sAst k K pc len ls st = some o) : pm_J p l e R s m args below meth c H locs cells slots Q ad nL pc ls st := by
  intro LS hl
  unfold pm_sAst at h
  split at h
  · rename_i x r
    rw [pm_len_eq] at h
    cases hb : Nat.blt k ls.length with
    | false => rw [hb] at h; cases h
    | true =>
      rw [hb, cond_true, pm_fn_eq] at h
      have hk : k < ls.length := Nat.le_of_ble_eq_true hb
      exact row _ _ _ _ hl.has (by rw [← hl.2.1]; exact hk) fun LS' h' => hK _ _ _ h LS' (hl.put1 (v := .ref x) hk h')
  · cases h
theorem pm_jLst {k : Nat} (row : ∀ (x : Int64) (LS : Array Slot) (rest : List Value) (lv : List (Nat × Value)), lv_has LS nL lv → k + 1 < nL → (∀ LS' : Array Slot, lv_has LS' nL ((k, Value.long x) :: lv.filter (fun q => !(q.1 == k) && (!(q.1 == k + 1) && !(q.1 + 1 == k && q.2.category == 2)))) → W p l e R s m args below meth c H locs cells slots Q (F0 m (pc + len) LS' rest)) → W p l e R s m args below meth c H locs cells slots Q (F0 m pc LS (.long x :: rest)))
    (hK : ∀ q ls st, K q ls st = some o → pm_J p l e R s m args below meth c H locs cells slots Q ad nL q ls st) (h : pm_sLst k K pc len ls st = some o) : pm_J p l e R s m args below meth c H locs cells slots Q ad nL pc ls st := by
  intro LS hl
  unfold pm_sLst at h
  split at h
  · rename_i x r
    rw [pm_len_eq] at h
    cases hb : Nat.blt (k + 1) ls.length with
    | false => rw [hb] at h; cases h
    | true =>
      rw [hb, cond_true, pm_fl_eq, pm_fn_eq] at h
      have hk : k + 1 < ls.length := Nat.le_of_ble_eq_true hb
      exact row _ _ _ _ hl.has (by rw [← hl.2.1]; exact hk) fun LS' h' => hK _ _ _ h LS' (hl.put2 (v := .long x) hk h')
  · cases h
theorem pm_jInc {k : Nat} {n : Int} (row : ∀ (x : Int32) (LS : Array Slot) (rest : List Value) (lv : List (Nat × Value)) (j : Nat), lv_has LS nL lv → lv[j]? = some (k, .int x) → k < nL → (∀ LS' : Array Slot, lv_has LS' nL ((k, Value.int (x + Int32.ofInt n)) :: lv.filter (fun q => !(q.1 == k) && !(q.1 + 1 == k && q.2.category == 2))) → W p l e R s m args below meth c H locs cells slots Q (F0 m (pc + 3) LS' rest)) → W p l e R s m args below meth c H locs cells slots Q (F0 m pc LS rest))
    (hK : ∀ q ls st, K q ls st = some o → pm_J p l e R s m args below meth c H locs cells slots Q ad nL q ls st) (h : pm_sInc k n K pc len ls st = some o) : pm_J p l e R s m args below meth c H locs cells slots Q ad nL pc ls st := by
  intro LS hl
  unfold pm_sInc at h
  split at h
  · rename_i x hx
    rw [pm_nth_eq] at hx
    cases hb : Nat.beq len 3 with
    | false => rw [hb] at h; cases h
    | true =>
      rw [hb, cond_true, pm_fi_eq, pm_fn_eq, Nat.eq_of_beq_eq_true hb] at h
      have hk : k < ls.length := (List.getElem?_eq_some_iff.mp hx).1
      obtain ⟨j, hj⟩ := List.getElem?_of_mem (pm_prz_of (ad := ad) hx)
      exact row x _ _ _ j hl.has hj (by rw [← hl.2.1]; exact hk) fun LS' h' => hK _ _ _ h LS' (hl.put1 (v := .int (x + Int32.ofInt n)) hk h')
  · cases h
theorem pm_jII {f : Int32 → Int32 → Int32} (row : ∀ (x y : Int32) (LS : Array Slot) (rest : List Value), W p l e R s m args below meth c H locs cells slots Q (F0 m (pc + len) LS (.int (f x y) :: rest)) → W p l e R s m args below meth c H locs cells slots Q (F0 m pc LS (.int y :: .int x :: rest)))
    (hK : ∀ q ls st, K q ls st = some o → pm_J p l e R s m args below meth c H locs cells slots Q ad nL q ls st) (h : pm_sII f K pc len ls st = some o) : pm_J p l e R s m args below meth c H locs cells slots Q ad nL pc ls st := by
  intro LS hl
  unfold pm_sII at h
  split at h
  · rw [pm_fn_eq] at h
    exact row _ _ _ _ (hK _ _ _ h LS hl)
  · cases h
theorem pm_jIIz {f : Int32 → Int32 → Int32} (row : ∀ (x y : Int32) (LS : Array Slot) (rest : List Value), ¬ y = 0 → W p l e R s m args below meth c H locs cells slots Q (F0 m (pc + len) LS (.int (f x y) :: rest)) → W p l e R s m args below meth c H locs cells slots Q (F0 m pc LS (.int y :: .int x :: rest)))
    (hK : ∀ q ls st, K q ls st = some o → pm_J p l e R s m args below meth c H locs cells slots Q ad nL q ls st) (h : pm_sIIz f K pc len ls st = some o) : pm_J p l e R s m args below meth c H locs cells slots Q ad nL pc ls st := by
  intro LS hl
  unfold pm_sIIz at h
  split at h
  · rename_i y x r
    by_cases hy : y = 0
    · rw [decide_eq_true hy] at h; cases h
    · rw [decide_eq_false hy, cond_false, pm_fn_eq] at h
      exact row _ _ _ _ hy (hK _ _ _ h LS hl)
  · cases h
theorem pm_jI {f : Int32 → Int32} (row : ∀ (x : Int32) (LS : Array Slot) (rest : List Value), W p l e R s m args below meth c H locs cells slots Q (F0 m (pc + len) LS (.int (f x) :: rest)) → W p l e R s m args below meth c H locs cells slots Q (F0 m pc LS (.int x :: rest)))
    (hK : ∀ q ls st, K q ls st = some o → pm_J p l e R s m args below meth c H locs cells slots Q ad nL q ls st) (h : pm_sI f K pc len ls st = some o) : pm_J p l e R s m args below meth c H locs cells slots Q ad nL pc ls st := by
  intro LS hl
  unfold pm_sI at h
  split at h
  · rw [pm_fn_eq] at h
    exact row _ _ _ (hK _ _ _ h LS hl)
  · cases h
theorem pm_jLL {f : Int64 → Int64 → Int64} (row : ∀ (x y : Int64) (LS : Array Slot) (rest : List Value), W p l e R s m args below meth c H locs cells slots Q (F0 m (pc + len) LS (.long (f x y) :: rest)) → W p l e R s m args below meth c H locs cells slots Q (F0 m pc LS (.long y :: .long x :: rest)))
    (hK : ∀ q ls st, K q ls st = some o → pm_J p l e R s m args below meth c H locs cells slots Q ad nL q ls st) (h : pm_sLL f K pc len ls st = some o) : pm_J p l e R s m args below meth c H locs cells slots Q ad nL pc ls st := by
  intro LS hl
  unfold pm_sLL at h
  split at h
  · rw [pm_fn_eq] at h
    exact row _ _ _ _ (hK _ _ _ h LS hl)
  · cases h
theorem pm_jLLz {f : Int64 → Int64 → Int64} (row : ∀ (x y : Int64) (LS : Array Slot) (rest : List Value), ¬ y = 0 → W p l e R s m args below meth c H locs cells slots Q (F0 m (pc + len) LS (.long (f x y) :: rest)) → W p l e R s m args below meth c H locs cells slots Q (F0 m pc LS (.long y :: .long x :: rest)))
    (hK : ∀ q ls st, K q ls st = some o → pm_J p l e R s m args below meth c H locs cells slots Q ad nL q ls st) (h : pm_sLLz f K pc len ls st = some o) : pm_J p l e R s m args below meth c H locs cells slots Q ad nL pc ls st := by
  intro LS hl
  unfold pm_sLLz at h
  split at h
  · rename_i y x r
    by_cases hy : y = 0
    · rw [decide_eq_true hy] at h; cases h
    · rw [decide_eq_false hy, cond_false, pm_fn_eq] at h
      exact row _ _ _ _ hy (hK _ _ _ h LS hl)
  · cases h
theorem pm_jLI {f : Int64 → Int32 → Int64} (row : ∀ (x : Int64) (y : Int32) (LS : Array Slot) (rest : List Value), W p l e R s m args below meth c H locs cells slots Q (F0 m (pc + len) LS (.long (f x y) :: rest)) → W p l e R s m args below meth c H locs cells slots Q (F0 m pc LS (.int y :: .long x :: rest)))
    (hK : ∀ q ls st, K q ls st = some o → pm_J p l e R s m args below meth c H locs cells slots Q ad nL q ls st) (h : pm_sLI f K pc len ls st = some o) : pm_J p l e R s m args below meth c H locs cells slots Q ad nL pc ls st := by
  intro LS hl
  unfold pm_sLI at h
  split at h
  · rw [pm_fn_eq] at h
    exact row _ _ _ _ (hK _ _ _ h LS hl)
  · cases h
theorem pm_jL {f : Int64 → Int64} (row : ∀ (x : Int64) (LS : Array Slot) (rest : List Value), W p l e R s m args below meth c H locs cells slots Q (F0 m (pc + len) LS (.long (f x) :: rest)) → W p l e R s m args below meth c H locs cells slots Q (F0 m pc LS (.long x :: rest)))
    (hK : ∀ q ls st, K q ls st = some o → pm_J p l e R s m args below meth c H locs cells slots Q ad nL q ls st) (h : pm_sL f K pc len ls st = some o) : pm_J p l e R s m args below meth c H locs cells slots Q ad nL pc ls st := by
  intro LS hl
  unfold pm_sL at h
  split at h
  · rw [pm_fn_eq] at h
    exact row _ _ _ (hK _ _ _ h LS hl)
  · cases h
theorem pm_jIL {f : Int32 → Int64} (row : ∀ (x : Int32) (LS : Array Slot) (rest : List Value), W p l e R s m args below meth c H locs cells slots Q (F0 m (pc + len) LS (.long (f x) :: rest)) → W p l e R s m args below meth c H locs cells slots Q (F0 m pc LS (.int x :: rest)))
    (hK : ∀ q ls st, K q ls st = some o → pm_J p l e R s m args below meth c H locs cells slots Q ad nL q ls st) (h : pm_sIL f K pc len ls st = some o) : pm_J p l e R s m args below meth c H locs cells slots Q ad nL pc ls st := by
  intro LS hl
  unfold pm_sIL at h
  split at h
  · rw [pm_fn_eq] at h
    exact row _ _ _ (hK _ _ _ h LS hl)
  · cases h
theorem pm_jLi {f : Int64 → Int32} (row : ∀ (x : Int64) (LS : Array Slot) (rest : List Value), W p l e R s m args below meth c H locs cells slots Q (F0 m (pc + len) LS (.int (f x) :: rest)) → W p l e R s m args below meth c H locs cells slots Q (F0 m pc LS (.long x :: rest)))
    (hK : ∀ q ls st, K q ls st = some o → pm_J p l e R s m args below meth c H locs cells slots Q ad nL q ls st) (h : pm_sLi f K pc len ls st = some o) : pm_J p l e R s m args below meth c H locs cells slots Q ad nL pc ls st := by
  intro LS hl
  unfold pm_sLi at h
  split at h
  · rw [pm_fn_eq] at h
    exact row _ _ _ (hK _ _ _ h LS hl)
  · cases h
theorem pm_jCmp (row : ∀ (x y : Int64) (LS : Array Slot) (rest : List Value), W p l e R s m args below meth c H locs cells slots Q (F0 m (pc + len) LS (.int (lg_cmp x y) :: rest)) → W p l e R s m args below meth c H locs cells slots Q (F0 m pc LS (.long y :: .long x :: rest)))
    (hK : ∀ q ls st, K q ls st = some o → pm_J p l e R s m args below meth c H locs cells slots Q ad nL q ls st) (h : pm_sCmp K pc len ls st = some o) : pm_J p l e R s m args below meth c H locs cells slots Q ad nL pc ls st := by
  intro LS hl
  unfold pm_sCmp at h
  split at h
  · rw [pm_fn_eq] at h
    exact row _ _ _ _ (hK _ _ _ h LS hl)
  · cases h
theorem pm_jDup (row : ∀ (v : Value) (LS : Array Slot) (rest : List Value), v.category = 1 → W p l e R s m args below meth c H locs cells slots Q (F0 m (pc + len) LS (v :: v :: rest)) → W p l e R s m args below meth c H locs cells slots Q (F0 m pc LS (v :: rest)))
    (hK : ∀ q ls st, K q ls st = some o → pm_J p l e R s m args below meth c H locs cells slots Q ad nL q ls st) (h : pm_sDup K pc len ls st = some o) : pm_J p l e R s m args below meth c H locs cells slots Q ad nL pc ls st := by
  intro LS hl
  unfold pm_sDup at h
  split at h
  · rename_i v r
    cases hb : Nat.beq v.category 1 with
    | false => rw [hb] at h; cases h
    | true =>
      rw [hb, cond_true, pm_fn_eq] at h
      exact row _ _ _ (by rw [pm_rv_cat]; exact Nat.eq_of_beq_eq_true hb) (hK _ _ _ h LS hl)
  · cases h
theorem pm_jPop (row : ∀ (v : Value) (LS : Array Slot) (rest : List Value), v.category = 1 → W p l e R s m args below meth c H locs cells slots Q (F0 m (pc + len) LS rest) → W p l e R s m args below meth c H locs cells slots Q (F0 m pc LS (v :: rest)))
    (hK : ∀ q ls st, K q ls st = some o → pm_J p l e R s m args below meth c H locs cells slots Q ad nL q ls st) (h : pm_sPop K pc len ls st = some o) : pm_J p l e R s m args below meth c H locs cells slots Q ad nL pc ls st := by
  intro LS hl
  unfold pm_sPop at h
  split at h
  · rename_i v r
    cases hb : Nat.beq v.category 1 with
    | false => rw [hb] at h; cases h
    | true =>
      rw [hb, cond_true, pm_fn_eq] at h
      exact row _ _ _ (by rw [pm_rv_cat]; exact Nat.eq_of_beq_eq_true hb) (hK _ _ _ h LS hl)
  · cases h
theorem pm_jPop2 (row : ∀ (v : Value) (LS : Array Slot) (rest : List Value), v.category = 2 → W p l e R s m args below meth c H locs cells slots Q (F0 m (pc + len) LS rest) → W p l e R s m args below meth c H locs cells slots Q (F0 m pc LS (v :: rest)))
    (hK : ∀ q ls st, K q ls st = some o → pm_J p l e R s m args below meth c H locs cells slots Q ad nL q ls st) (h : pm_sPop2 K pc len ls st = some o) : pm_J p l e R s m args below meth c H locs cells slots Q ad nL pc ls st := by
  intro LS hl
  unfold pm_sPop2 at h
  split at h
  · rename_i v r
    cases hb : Nat.beq v.category 2 with
    | false => rw [hb] at h; cases h
    | true =>
      rw [hb, cond_true, pm_fn_eq] at h
      exact row _ _ _ (by rw [pm_rv_cat]; exact Nat.eq_of_beq_eq_true hb) (hK _ _ _ h LS hl)
  · cases h
theorem pm_jIf {cd : ClassFile.Cond} {off : Int} (row : ∀ (x : Int32) (LS : Array Slot) (rest : List Value) (t : Nat), (pc : Int) + off = (t : Int) → (pm_cnd cd x 0 = true → W p l e R s m args below meth c H locs cells slots Q (F0 m t LS rest)) → (pm_cnd cd x 0 = false → W p l e R s m args below meth c H locs cells slots Q (F0 m (pc + 3) LS rest)) → W p l e R s m args below meth c H locs cells slots Q (F0 m pc LS (.int x :: rest)))
    (hK : ∀ q ls st, K q ls st = some o → pm_J p l e R s m args below meth c H locs cells slots Q ad nL q ls st) (h : pm_sIf cd off K pc len ls st = some o) : pm_J p l e R s m args below meth c H locs cells slots Q ad nL pc ls st := by
  intro LS hl
  unfold pm_sIf at h
  split at h
  · rename_i x r
    obtain ⟨t, ht, h⟩ := pm_to_some h
    refine row x LS _ t ht (fun hc => ?_) (fun hc => ?_)
    · rw [hc, cond_true] at h
      exact hK _ _ _ h LS hl
    · rw [hc, cond_false, pm_fn_eq] at h
      exact hK _ _ _ h LS hl
  · cases h
theorem pm_jIf2 {cd : ClassFile.Cond} {off : Int} (row : ∀ (x y : Int32) (LS : Array Slot) (rest : List Value) (t : Nat), (pc : Int) + off = (t : Int) → (pm_cnd cd x y = true → W p l e R s m args below meth c H locs cells slots Q (F0 m t LS rest)) → (pm_cnd cd x y = false → W p l e R s m args below meth c H locs cells slots Q (F0 m (pc + 3) LS rest)) → W p l e R s m args below meth c H locs cells slots Q (F0 m pc LS (.int y :: .int x :: rest)))
    (hK : ∀ q ls st, K q ls st = some o → pm_J p l e R s m args below meth c H locs cells slots Q ad nL q ls st) (h : pm_sIf2 cd off K pc len ls st = some o) : pm_J p l e R s m args below meth c H locs cells slots Q ad nL pc ls st := by
  intro LS hl
  unfold pm_sIf2 at h
  split at h
  · rename_i y x r
    obtain ⟨t, ht, h⟩ := pm_to_some h
    refine row x y LS _ t ht (fun hc => ?_) (fun hc => ?_)
    · rw [hc, cond_true] at h
      exact hK _ _ _ h LS hl
    · rw [hc, cond_false, pm_fn_eq] at h
      exact hK _ _ _ h LS hl
  · cases h
theorem pm_jGo {off : Int} (row : ∀ (LS : Array Slot) (rest : List Value) (t : Nat), (pc : Int) + off = (t : Int) → W p l e R s m args below meth c H locs cells slots Q (F0 m t LS rest) → W p l e R s m args below meth c H locs cells slots Q (F0 m pc LS rest))
    (hK : ∀ q ls st, K q ls st = some o → pm_J p l e R s m args below meth c H locs cells slots Q ad nL q ls st) (h : pm_sGo off K pc len ls st = some o) : pm_J p l e R s m args below meth c H locs cells slots Q ad nL pc ls st := by
  intro LS hl
  unfold pm_sGo at h
  obtain ⟨t, ht, h⟩ := pm_to_some h
  exact row LS _ t ht (hK _ _ _ h LS hl)
theorem pm_jTsw {d lo hi : Int} {offs : Array Int} {cc : ByteArray} (hx : p.tables.exec = Jvm.exec) (hb : c.code = cc) (hd : decode cc pc = .ok (.tableswitch d lo hi offs, len))
    (hK : ∀ q ls st, K q ls st = some o → pm_J p l e R s m args below meth c H locs cells slots Q ad nL q ls st) (h : pm_sTsw d lo hi offs K pc len ls st = some o) : pm_J p l e R s m args below meth c H locs cells slots Q ad nL pc ls st := by
  intro LS hl
  unfold pm_sTsw at h
  split at h
  · rename_i x r
    unfold pm_tsw at h
    split at h
    · rename_i hc
      obtain ⟨t, ht, h⟩ := pm_to_some h
      exact lv_tableOut hx hb hd hc ht (hK _ _ _ h LS hl)
    · rename_i hc
      split at h
      · rename_i o2 ho
        obtain ⟨t, ht, h⟩ := pm_to_some h
        rw [pm_nth_eq] at ho
        exact lv_tableIn hx hb hd (fun q => hc (Or.inl q)) (fun q => hc (Or.inr q)) (by rw [← Array.getElem?_toList]; exact ho) ht (hK _ _ _ h LS hl)
      · cases h
  · cases h
theorem pm_jLsw {d : Int} {ps : Array (Int × Int)} {cc : ByteArray} (hx : p.tables.exec = Jvm.exec) (hb : c.code = cc) (hd : decode cc pc = .ok (.lookupswitch d ps, len))
    (hK : ∀ q ls st, K q ls st = some o → pm_J p l e R s m args below meth c H locs cells slots Q ad nL q ls st) (h : pm_sLsw d ps K pc len ls st = some o) : pm_J p l e R s m args below meth c H locs cells slots Q ad nL pc ls st := by
  intro LS hl
  unfold pm_sLsw at h
  split at h
  · rename_i x r
    cases hp : (ps.toList.zip (ps.toList.drop 1)).all (fun (a, next) => a.1 < next.1) with
    | false => rw [hp] at h; cases h
    | true =>
      rw [hp, cond_true] at h
      obtain ⟨t, ht, h⟩ := pm_to_some h
      exact lv_lookup hx hb hd hp rfl ht (hK _ _ _ h LS hl)
  · cases h
theorem pm_rowIf {cc : ByteArray} (hx : p.tables.exec = Jvm.exec) (hb : c.code = cc) {cd : ClassFile.Cond} {off : Int} (hd : decode cc pc = .ok (.ifCond cd off, 3)) (x : Int32) (LS : Array Slot) (rest : List Value) (t : Nat) (ht : (pc : Int) + off = (t : Int)) (k1 : pm_cnd cd x 0 = true → W p l e R s m args below meth c H locs cells slots Q (F0 m t LS rest)) (k2 : pm_cnd cd x 0 = false → W p l e R s m args below meth c H locs cells slots Q (F0 m (pc + 3) LS rest)) : W p l e R s m args below meth c H locs cells slots Q (F0 m pc LS (.int x :: rest)) := by
  cases cd with
  | eq => exact lv_if_eq hx hb hd ht (fun h => k1 (decide_eq_true h)) (fun h => k2 (decide_eq_false h))
  | ne => exact lv_if_ne hx hb hd ht (fun h => k1 (by show (!decide (x = 0)) = true; rw [decide_eq_false h]; rfl)) (fun h => k2 (by show (!decide (x = 0)) = false; rw [decide_eq_true h]; rfl))
  | lt => exact lv_if_lt hx hb hd ht (fun h => k1 (decide_eq_true h)) (fun h => k2 (decide_eq_false h))
  | ge => exact lv_if_ge hx hb hd ht (fun h => k1 (decide_eq_true h)) (fun h => k2 (decide_eq_false h))
  | gt => exact lv_if_gt hx hb hd ht (fun h => k1 (decide_eq_true h)) (fun h => k2 (decide_eq_false h))
  | le => exact lv_if_le hx hb hd ht (fun h => k1 (decide_eq_true h)) (fun h => k2 (decide_eq_false h))
theorem pm_rowIf2 {cc : ByteArray} (hx : p.tables.exec = Jvm.exec) (hb : c.code = cc) {cd : ClassFile.Cond} {off : Int} (hd : decode cc pc = .ok (.if_icmp cd off, 3)) (x y : Int32) (LS : Array Slot) (rest : List Value) (t : Nat) (ht : (pc : Int) + off = (t : Int)) (k1 : pm_cnd cd x y = true → W p l e R s m args below meth c H locs cells slots Q (F0 m t LS rest)) (k2 : pm_cnd cd x y = false → W p l e R s m args below meth c H locs cells slots Q (F0 m (pc + 3) LS rest)) : W p l e R s m args below meth c H locs cells slots Q (F0 m pc LS (.int y :: .int x :: rest)) := by
  cases cd with
  | eq => exact lv_icmp_eq hx hb hd ht (fun h => k1 (decide_eq_true h)) (fun h => k2 (decide_eq_false h))
  | ne => exact lv_icmp_ne hx hb hd ht (fun h => k1 (by show (!decide (x = y)) = true; rw [decide_eq_false h]; rfl)) (fun h => k2 (by show (!decide (x = y)) = false; rw [decide_eq_true h]; rfl))
  | lt => exact lv_icmp_lt hx hb hd ht (fun h => k1 (decide_eq_true h)) (fun h => k2 (decide_eq_false h))
  | ge => exact lv_icmp_ge hx hb hd ht (fun h => k1 (decide_eq_true h)) (fun h => k2 (decide_eq_false h))
  | gt => exact lv_icmp_gt hx hb hd ht (fun h => k1 (decide_eq_true h)) (fun h => k2 (decide_eq_false h))
  | le => exact lv_icmp_le hx hb hd ht (fun h => k1 (decide_eq_true h)) (fun h => k2 (decide_eq_false h))
end PmS
end
section
/-! soundness, the heap: what a picture is a picture of -/
def pm_iv (v : Value) : Int32 := match v with
  | .int x => x
  | _ => 0
def pm_gv (v : Value) : Int64 := match v with
  | .long x => x
  | _ => 0
def pm_qv (ad : Nat → Nat) (v : Value) : Option Nat := match v with
  | .ref a => some (ad a)
  | _ => none
def pm_ct (ad : Nat → Nat) (t : Nat) (l : List Value) : (Nat → Int32) ⊕ (Nat → Int64) ⊕ (Nat → UInt32) ⊕ (Nat → UInt64) ⊕ (Nat → Option Nat) :=
  if t = 3 then .inr (.inl (fun j => pm_gv (l.getD j .null))) else if t < 5 then .inl (fun j => pm_iv (l.getD j .null)) else .inr (.inr (.inr (.inr (fun j => pm_qv ad (l.getD j .null)))))
theorem pm_ct3 (ad : Nat → Nat) (l : List Value) : pm_ct ad 3 l = .inr (.inl (fun j => pm_gv (l.getD j .null))) := by simp [pm_ct]
theorem pm_ctI (ad : Nat → Nat) {t : Nat} (l : List Value) (h3 : t ≠ 3) (h5 : t < 5) : pm_ct ad t l = .inl (fun j => pm_iv (l.getD j .null)) := by simp [pm_ct, h3, h5]
theorem pm_ctQ (ad : Nat → Nat) {t : Nat} (l : List Value) (h5 : 5 ≤ t) : pm_ct ad t l = .inr (.inr (.inr (.inr (fun j => pm_qv ad (l.getD j .null))))) := by
  have h3 : t ≠ 3 := by omega
  have h : ¬ t < 5 := by omega
  simp [pm_ct, h3, h]
def pm_re (ad : Nat → Nat) (cA : Nat → ClassId) (c : pm_C) : va_E := match c with
  | .inl q => .inl (cA q.1, q.2.length, pm_ct ad q.1 q.2)
  | .inr q => .inr (q.1, q.2.map (pm_rv ad))
def pm_ws (ad : Nat → Nat) (cA : Nat → ClassId) (h : pm_H) : va_W := h.mapIdx (fun k c => (ad (16 + k), pm_re ad cA c))
theorem pm_ws_get (ad : Nat → Nat) (cA : Nat → ClassId) (h : pm_H) (k : Nat) : (pm_ws ad cA h)[k]? = (h[k]?).map (fun c => (ad (16 + k), pm_re ad cA c)) := by
  unfold pm_ws
  rw [List.getElem?_mapIdx]
theorem pm_ws_at {ad : Nat → Nat} {cA : Nat → ClassId} {h : pm_H} {k : Nat} {c : pm_C} (hk : h[k]? = some c) : (pm_ws ad cA h)[k]? = some (ad (16 + k), pm_re ad cA c) := by
  rw [pm_ws_get, hk]; rfl
theorem pm_ws_set {ad : Nat → Nat} {cA : Nat → ClassId} {h : pm_H} {k : Nat} {c : pm_C} (hk : k < h.length) : pm_ws ad cA (h.set k c) = (pm_ws ad cA h).set k (ad (16 + k), pm_re ad cA c) := by
  apply List.ext_getElem?
  intro j
  rw [pm_ws_get]
  by_cases hj : k = j
  · subst hj
    rw [List.getElem?_set_self hk, List.getElem?_set_self (by unfold pm_ws; simpa using hk)]
    rfl
  · rw [List.getElem?_set_ne hj, List.getElem?_set_ne hj, pm_ws_get]
theorem pm_ws_push (ad : Nat → Nat) (cA : Nat → ClassId) (h : pm_H) (c : pm_C) : pm_ws ad cA (h ++ [c]) = pm_ws ad cA h ++ [(ad (16 + h.length), pm_re ad cA c)] := by
  unfold pm_ws
  rw [List.mapIdx_append]
  simp
/-- the classes of the arrays, by the type codes -/
def pm_tys (cA : Nat → ClassId) : List (ClassId × FieldType) := [(cA 0, .int), (cA 1, .boolean), (cA 2, .char), (cA 3, .long), (cA 4, .byte), (cA 0, .int), (cA 0, .int), (cA 0, .int), (cA 8, .object RX3), (cA 0, .int), (cA 0, .int), (cA 0, .int), (cA 12, .object RX7)]
/-- h is a picture of the cells of H that lie in A; the places to come are the addresses to come -/
def pm_rel (D : va_G) (cA : Nat → ClassId) (A : Nat → Prop) (ad : Nat → Nat) (h : pm_H) (H : Heap) : Prop :=
  va_P D vwCl (pm_ws ad cA h) H ∧ va_D A (pm_ws ad cA h) ∧ ∀ j : Nat, ad (16 + h.length + j) = H.size + j
theorem pm_cell_some {h : pm_H} {a : Nat} {c : pm_C} (hc : pm_cell h a = some c) : ∃ k, a = 16 + k ∧ a - 16 = k ∧ h[k]? = some c := by
  unfold pm_cell at hc
  cases hb : Nat.blt a 16 with
  | true => rw [hb] at hc; cases hc
  | false =>
    rw [hb, cond_false, pm_nth_eq] at hc
    have h16 : ¬ a < 16 := fun q => by
      have : Nat.blt a 16 = true := Nat.ble_eq_true_of_le q
      rw [this] at hb; cases hb
    exact ⟨a - 16, by omega, rfl, hc⟩
/-- the size of the heap when the cells that were made are counted -/
theorem pm_up {p : Program} {l : Launch} {e : Env} {R : Room} {s : State} {m : MethodId} {args : Array Value} {below : List Frame} {meth : Method} {c : Code} {H : Heap} {locs : List Loc} {cells slots : Nat} {Q : State → Prop} {g : JFrame} (k : H.size ≤ s.heap.size + cells → W p l e R s m args below meth c H locs cells slots Q g) : W p l e R s m args below meth c H locs cells slots Q g :=
  fun T hT X => k (by rw [← hT]; exact X.heapSize) T hT X
theorem pm_S_trans {A : Nat → Prop} {H0 H H1 : Heap} {L L1 : List Loc} (h : va_S A H0 H L) (h1 : va_S A H H1 L1) : va_S A H0 H1 L1 :=
  ⟨Nat.le_trans h.1 h1.1, fun q hq hA => (h1.2.1 q (Nat.lt_of_lt_of_le hq h.1) hA).trans (h.2.1 q hq hA), h1.2.2⟩
theorem pm_S_self {A : Nat → Prop} {H0 H : Heap} {L : List Loc} (h : va_S A H0 H L) : va_S A H H L := ⟨Nat.le_refl _, fun _ _ _ => rfl, h.2.2⟩
/-- a store: the same cells, one changed; the heap's size is the old one -/
theorem pm_rel.stored {D : va_G} {cA : Nat → ClassId} {A : Nat → Prop} {ad : Nat → Nat} {h : pm_H} {H H1 : Heap} {k : Nat} {c : pm_C} (hr : pm_rel D cA A ad h H) (hk : k < h.length) (hP : va_P D vwCl ((pm_ws ad cA h).set k (ad (16 + k), pm_re ad cA c)) H1) (hD : va_D A ((pm_ws ad cA h).set k (ad (16 + k), pm_re ad cA c))) (hz : H1.size = H.size) : pm_rel D cA A ad (h.set k c) H1 := by
  rw [← pm_ws_set hk] at hP hD
  exact ⟨hP, hD, fun j => by rw [List.length_set, hz]; exact hr.2.2 j⟩
/-- a new cell at the heap's end -/
theorem pm_rel.made {D : va_G} {cA : Nat → ClassId} {A : Nat → Prop} {ad : Nat → Nat} {h : pm_H} {H H1 : Heap} {c : pm_C} (hr : pm_rel D cA A ad h H) (hA : A H.size) (hz : H1.size = H.size + 1) (ho : ∀ q, q < H.size → H1[q]? = H[q]?) (hc : va_at D vwCl (H.size, pm_re ad cA c) H1) : pm_rel D cA A ad (h ++ [c]) H1 := by
  have ha : ad (16 + h.length) = H.size := hr.2.2 0
  refine ⟨?_, ?_, fun j => ?_⟩
  · rw [pm_ws_push, ha]
    refine (hr.1.kept fun k x hx => ho x.1 ((hr.1 k x hx).lt)).app (fun k x hx => ?_)
    have hk : k < 1 := (List.getElem?_eq_some_iff.mp hx).1
    rw [show k = 0 by omega] at hx
    cases hx
    exact hc
  · rw [pm_ws_push, ha]
    exact hr.2.1.push hr.1 rfl hA
  · rw [List.length_append]
    have := hr.2.2 (j + 1)
    show ad (16 + (h.length + 1) + j) = _
    rw [show 16 + (h.length + 1) + j = 16 + h.length + (j + 1) by omega, this, hz]
    omega
theorem pm_row_own {X : List (Nat × List Value)} {h : pm_H} {a t : Nat} {l : List Value} (hr : pm_row X h a = some (t, l)) : (a < 16 ∧ X[a]? = some (t, l) ∧ t = 0) ∨ ∃ k, a = 16 + k ∧ h[k]? = some (.inl (t, l)) := by
  unfold pm_row at hr
  cases hb : Nat.blt a 16 with
  | true =>
    rw [hb, cond_true] at hr
    split at hr
    · rename_i q hq
      rw [pm_nth_eq] at hq
      cases h0 : Nat.beq q.1 0 with
      | false => rw [h0] at hr; cases hr
      | true =>
        rw [h0, cond_true] at hr
        cases hr
        exact Or.inl ⟨Nat.le_of_ble_eq_true hb, hq, Nat.eq_of_beq_eq_true h0⟩
    · cases hr
  | false =>
    rw [hb, cond_false] at hr
    have h16 : ¬ a < 16 := fun q => by
      have : Nat.blt a 16 = true := Nat.ble_eq_true_of_le q
      rw [this] at hb; cases hb
    split at hr
    · rename_i q hq
      rw [pm_nth_eq] at hq
      cases hr
      exact Or.inr ⟨a - 16, by omega, hq⟩
    · cases hr
theorem pm_len_lt {α : Type} {l : List α} {k : Nat} {a : α} (h : l[k]? = some a) : k < l.length := (List.getElem?_eq_some_iff.mp h).1
theorem pm_in_of {i : Int32} {n : Nat} (h : pm_in i n = true) : vp_in i n := by
  unfold pm_in at h
  by_cases hi : i < 0
  · rw [decide_eq_true hi] at h; cases h
  · rw [decide_eq_false hi, cond_false] at h
    have h2 : i.toNatClampNeg < n := Nat.le_of_ble_eq_true h
    rintro (q | q)
    · exact hi q
    · omega
theorem pm_in_lt {i : Int32} {n : Nat} (h : pm_in i n = true) : i.toNatClampNeg < n := by
  unfold pm_in at h
  by_cases hi : i < 0
  · rw [decide_eq_true hi] at h; cases h
  · rw [decide_eq_false hi, cond_false] at h
    exact Nat.le_of_ble_eq_true h
theorem pm_upI (l : List Value) (j : Nat) (x : Int32) (hj : j < l.length) : upd (fun j => pm_iv (l.getD j .null)) j x = fun k => pm_iv ((l.set j (.int x)).getD k .null) := by
  funext k
  unfold upd
  by_cases hk : k = j
  · subst hk
    simp [List.getD_eq_getElem?_getD, List.getElem?_set_self hj, pm_iv]
  · simp [List.getD_eq_getElem?_getD, List.getElem?_set_ne (Ne.symm hk), hk]
theorem pm_upL (l : List Value) (j : Nat) (x : Int64) (hj : j < l.length) : vp_updL (fun j => pm_gv (l.getD j .null)) j x = fun k => pm_gv ((l.set j (.long x)).getD k .null) := by
  funext k
  unfold vp_updL
  by_cases hk : k = j
  · subst hk
    simp [List.getD_eq_getElem?_getD, List.getElem?_set_self hj, pm_gv]
  · simp [List.getD_eq_getElem?_getD, List.getElem?_set_ne (Ne.symm hk), hk]
theorem pm_upQ (ad : Nat → Nat) (l : List Value) (j x : Nat) (hj : j < l.length) : va_up (fun j => pm_qv ad (l.getD j .null)) j (some (ad x)) = fun k => pm_qv ad ((l.set j (.ref x)).getD k .null) := by
  funext k
  unfold va_up
  by_cases hk : k = j
  · subst hk
    simp [List.getD_eq_getElem?_getD, List.getElem?_set_self hj, pm_qv]
  · simp [List.getD_eq_getElem?_getD, List.getElem?_set_ne (Ne.symm hk), hk]
theorem pm_getI {l : List Value} {j : Nat} {x : Int32} (h : l[j]? = some (.int x)) : pm_iv (l.getD j .null) = x := by simp [List.getD_eq_getElem?_getD, h, pm_iv]
theorem pm_getL {l : List Value} {j : Nat} {x : Int64} (h : l[j]? = some (.long x)) : pm_gv (l.getD j .null) = x := by simp [List.getD_eq_getElem?_getD, h, pm_gv]
theorem pm_getQ {ad : Nat → Nat} {l : List Value} {j x : Nat} (h : l[j]? = some (.ref x)) : pm_qv ad (l.getD j .null) = some (ad x) := by simp [List.getD_eq_getElem?_getD, h, pm_qv]
theorem pm_cpy_get (src dst : List Value) (sp dp n k : Nat) (hs : sp + n ≤ src.length) (hd : dp + n ≤ dst.length) : (pm_cpy src dst sp dp n)[k]? = if dp ≤ k ∧ k < dp + n then src[sp + (k - dp)]? else dst[k]? := by
  unfold pm_cpy
  have e1 : (dst.take dp).length = dp := by rw [List.length_take]; omega
  have e2 : ((src.drop sp).take n).length = n := by rw [List.length_take, List.length_drop]; omega
  by_cases h1 : k < dp
  · rw [List.getElem?_append_left (by omega), List.getElem?_take_of_lt h1, if_neg (by omega)]
  · rw [List.getElem?_append_right (by omega), e1]
    by_cases h2 : k < dp + n
    · rw [List.getElem?_append_left (by omega), List.getElem?_take_of_lt (by omega), List.getElem?_drop, if_pos ⟨by omega, h2⟩]
    · rw [List.getElem?_append_right (by omega), e2, List.getElem?_drop, if_neg (by omega)]
      congr 1
      omega
theorem pm_cpy_len (src dst : List Value) (sp dp n : Nat) (hs : sp + n ≤ src.length) (hd : dp + n ≤ dst.length) : (pm_cpy src dst sp dp n).length = dst.length := by
  unfold pm_cpy
  simp only [List.length_append, List.length_take, List.length_drop]
  omega
theorem pm_cpyF {α : Type} (f : Value → α) (src dst : List Value) (sp dp n : Nat) (hs : sp + n ≤ src.length) (hd : dp + n ≤ dst.length) : va_cpy (fun j => f (src.getD j .null)) (fun j => f (dst.getD j .null)) sp dp n = fun k => f ((pm_cpy src dst sp dp n).getD k .null) := by
  funext k
  unfold va_cpy
  simp only [List.getD_eq_getElem?_getD]
  rw [pm_cpy_get _ _ _ _ _ _ hs hd]
  split <;> rfl
end
section
/-! the String constants' own methods, walked (printed by wip/tool/strings.py) -/
abbrev ps_b_can : ByteArray := prog_26_method_4_code
def ps_y_can : MethodName := ⟨"java/lang/StringLatin1", "canEncode", "(I)Z"⟩
theorem ps_d_can_0 : decode ps_b_can 0 = .ok (.iload_n 0, 1) := by decide +kernel
theorem ps_d_can_1 : decode ps_b_can 1 = .ok (.ifCond .lt 14, 3) := by decide +kernel
theorem ps_d_can_4 : decode ps_b_can 4 = .ok (.iload_n 0, 1) := by decide +kernel
theorem ps_d_can_5 : decode ps_b_can 5 = .ok (.sipush 255, 3) := by decide +kernel
theorem ps_d_can_8 : decode ps_b_can 8 = .ok (.if_icmp .gt 7, 3) := by decide +kernel
theorem ps_d_can_11 : decode ps_b_can 11 = .ok (.iconst 1, 1) := by decide +kernel
theorem ps_d_can_12 : decode ps_b_can 12 = .ok (.goto 4, 3) := by decide +kernel
theorem ps_d_can_15 : decode ps_b_can 15 = .ok (.iconst 0, 1) := by decide +kernel
theorem ps_d_can_16 : decode ps_b_can 16 = .ok (.ireturn, 1) := by decide +kernel
abbrev ps_b_ixc : ByteArray := prog_26_method_23_code
def ps_y_ixc : MethodName := ⟨"java/lang/StringLatin1", "indexOfChar", "([BIII)I"⟩
theorem ps_d_ixc_0 : decode ps_b_ixc 0 = .ok (.iload_n 1, 1) := by decide +kernel
theorem ps_d_ixc_1 : decode ps_b_ixc 1 = .ok (.i2b, 1) := by decide +kernel
theorem ps_d_ixc_2 : decode ps_b_ixc 2 = .ok (.istore 4, 2) := by decide +kernel
theorem ps_d_ixc_4 : decode ps_b_ixc 4 = .ok (.iload_n 2, 1) := by decide +kernel
theorem ps_d_ixc_5 : decode ps_b_ixc 5 = .ok (.istore 5, 2) := by decide +kernel
theorem ps_d_ixc_7 : decode ps_b_ixc 7 = .ok (.iload 5, 2) := by decide +kernel
theorem ps_d_ixc_9 : decode ps_b_ixc 9 = .ok (.iload_n 3, 1) := by decide +kernel
theorem ps_d_ixc_10 : decode ps_b_ixc 10 = .ok (.if_icmp .ge 21, 3) := by decide +kernel
theorem ps_d_ixc_13 : decode ps_b_ixc 13 = .ok (.aload_n 0, 1) := by decide +kernel
theorem ps_d_ixc_14 : decode ps_b_ixc 14 = .ok (.iload 5, 2) := by decide +kernel
theorem ps_d_ixc_16 : decode ps_b_ixc 16 = .ok (.baload, 1) := by decide +kernel
theorem ps_d_ixc_17 : decode ps_b_ixc 17 = .ok (.iload 4, 2) := by decide +kernel
theorem ps_d_ixc_19 : decode ps_b_ixc 19 = .ok (.if_icmp .ne 6, 3) := by decide +kernel
theorem ps_d_ixc_22 : decode ps_b_ixc 22 = .ok (.iload 5, 2) := by decide +kernel
theorem ps_d_ixc_24 : decode ps_b_ixc 24 = .ok (.ireturn, 1) := by decide +kernel
theorem ps_d_ixc_25 : decode ps_b_ixc 25 = .ok (.iinc 5 1, 3) := by decide +kernel
theorem ps_d_ixc_28 : decode ps_b_ixc 28 = .ok (.goto (-21), 3) := by decide +kernel
theorem ps_d_ixc_31 : decode ps_b_ixc 31 = .ok (.iconst (-1), 1) := by decide +kernel
theorem ps_d_ixc_32 : decode ps_b_ixc 32 = .ok (.ireturn, 1) := by decide +kernel
abbrev ps_b_lix : ByteArray := prog_26_method_22_code
def ps_y_lix : MethodName := ⟨"java/lang/StringLatin1", "indexOf", "([BIII)I"⟩
theorem ps_d_lix_0 : decode ps_b_lix 0 = .ok (.iload_n 1, 1) := by decide +kernel
theorem ps_d_lix_1 : decode ps_b_lix 1 = .ok (.invokestatic 88, 3) := by decide +kernel
theorem ps_d_lix_4 : decode ps_b_lix 4 = .ok (.ifCond .ne 5, 3) := by decide +kernel
theorem ps_d_lix_7 : decode ps_b_lix 7 = .ok (.iconst (-1), 1) := by decide +kernel
theorem ps_d_lix_8 : decode ps_b_lix 8 = .ok (.ireturn, 1) := by decide +kernel
theorem ps_d_lix_9 : decode ps_b_lix 9 = .ok (.iload_n 2, 1) := by decide +kernel
theorem ps_d_lix_10 : decode ps_b_lix 10 = .ok (.iconst 0, 1) := by decide +kernel
theorem ps_d_lix_11 : decode ps_b_lix 11 = .ok (.invokestatic 92, 3) := by decide +kernel
theorem ps_d_lix_14 : decode ps_b_lix 14 = .ok (.istore_n 2, 1) := by decide +kernel
theorem ps_d_lix_15 : decode ps_b_lix 15 = .ok (.iload_n 3, 1) := by decide +kernel
theorem ps_d_lix_16 : decode ps_b_lix 16 = .ok (.aload_n 0, 1) := by decide +kernel
theorem ps_d_lix_17 : decode ps_b_lix 17 = .ok (.arraylength, 1) := by decide +kernel
theorem ps_d_lix_18 : decode ps_b_lix 18 = .ok (.invokestatic 38, 3) := by decide +kernel
theorem ps_d_lix_21 : decode ps_b_lix 21 = .ok (.istore_n 3, 1) := by decide +kernel
theorem ps_d_lix_22 : decode ps_b_lix 22 = .ok (.iload_n 2, 1) := by decide +kernel
theorem ps_d_lix_23 : decode ps_b_lix 23 = .ok (.iload_n 3, 1) := by decide +kernel
theorem ps_d_lix_24 : decode ps_b_lix 24 = .ok (.if_icmp .lt 5, 3) := by decide +kernel
theorem ps_d_lix_29 : decode ps_b_lix 29 = .ok (.aload_n 0, 1) := by decide +kernel
theorem ps_d_lix_30 : decode ps_b_lix 30 = .ok (.iload_n 1, 1) := by decide +kernel
theorem ps_d_lix_31 : decode ps_b_lix 31 = .ok (.iload_n 2, 1) := by decide +kernel
theorem ps_d_lix_32 : decode ps_b_lix 32 = .ok (.iload_n 3, 1) := by decide +kernel
theorem ps_d_lix_33 : decode ps_b_lix 33 = .ok (.invokestatic 95, 3) := by decide +kernel
theorem ps_d_lix_36 : decode ps_b_lix 36 = .ok (.ireturn, 1) := by decide +kernel
abbrev ps_b_coder : ByteArray := prog_25_method_152_code
def ps_y_coder : MethodName := ⟨"java/lang/String", "coder", "()B"⟩
theorem ps_d_coder_0 : decode ps_b_coder 0 = .ok (.getstatic 38, 3) := by decide +kernel
theorem ps_d_coder_3 : decode ps_b_coder 3 = .ok (.ifCond .eq 10, 3) := by decide +kernel
theorem ps_d_coder_6 : decode ps_b_coder 6 = .ok (.aload_n 0, 1) := by decide +kernel
theorem ps_d_coder_7 : decode ps_b_coder 7 = .ok (.getfield 15, 3) := by decide +kernel
theorem ps_d_coder_10 : decode ps_b_coder 10 = .ok (.goto 4, 3) := by decide +kernel
theorem ps_d_coder_14 : decode ps_b_coder 14 = .ok (.ireturn, 1) := by decide +kernel
abbrev ps_b_len : ByteArray := prog_25_method_54_code
def ps_y_len : MethodName := ⟨"java/lang/String", "length", "()I"⟩
theorem ps_d_len_0 : decode ps_b_len 0 = .ok (.aload_n 0, 1) := by decide +kernel
theorem ps_d_len_1 : decode ps_b_len 1 = .ok (.getfield 9, 3) := by decide +kernel
theorem ps_d_len_4 : decode ps_b_len 4 = .ok (.arraylength, 1) := by decide +kernel
theorem ps_d_len_5 : decode ps_b_len 5 = .ok (.aload_n 0, 1) := by decide +kernel
theorem ps_d_len_6 : decode ps_b_len 6 = .ok (.invokevirtual 335, 3) := by decide +kernel
theorem ps_d_len_9 : decode ps_b_len 9 = .ok (.ishr, 1) := by decide +kernel
theorem ps_d_len_10 : decode ps_b_len 10 = .ok (.ireturn, 1) := by decide +kernel
abbrev ps_b_lat : ByteArray := prog_25_method_154_code
def ps_y_lat : MethodName := ⟨"java/lang/String", "isLatin1", "()Z"⟩
theorem ps_d_lat_0 : decode ps_b_lat 0 = .ok (.getstatic 38, 3) := by decide +kernel
theorem ps_d_lat_3 : decode ps_b_lat 3 = .ok (.ifCond .eq 14, 3) := by decide +kernel
theorem ps_d_lat_6 : decode ps_b_lat 6 = .ok (.aload_n 0, 1) := by decide +kernel
theorem ps_d_lat_7 : decode ps_b_lat 7 = .ok (.getfield 15, 3) := by decide +kernel
theorem ps_d_lat_10 : decode ps_b_lat 10 = .ok (.ifCond .ne 7, 3) := by decide +kernel
theorem ps_d_lat_13 : decode ps_b_lat 13 = .ok (.iconst 1, 1) := by decide +kernel
theorem ps_d_lat_14 : decode ps_b_lat 14 = .ok (.goto 4, 3) := by decide +kernel
theorem ps_d_lat_18 : decode ps_b_lat 18 = .ok (.ireturn, 1) := by decide +kernel
abbrev ps_b_ix2 : ByteArray := prog_25_method_80_code
def ps_y_ix2 : MethodName := ⟨"java/lang/String", "indexOf", "(II)I"⟩
theorem ps_d_ix2_0 : decode ps_b_ix2 0 = .ok (.aload_n 0, 1) := by decide +kernel
theorem ps_d_ix2_1 : decode ps_b_ix2 1 = .ok (.invokevirtual 492, 3) := by decide +kernel
theorem ps_d_ix2_4 : decode ps_b_ix2 4 = .ok (.ifCond .eq 19, 3) := by decide +kernel
theorem ps_d_ix2_7 : decode ps_b_ix2 7 = .ok (.aload_n 0, 1) := by decide +kernel
theorem ps_d_ix2_8 : decode ps_b_ix2 8 = .ok (.getfield 9, 3) := by decide +kernel
theorem ps_d_ix2_11 : decode ps_b_ix2 11 = .ok (.iload_n 1, 1) := by decide +kernel
theorem ps_d_ix2_12 : decode ps_b_ix2 12 = .ok (.iload_n 2, 1) := by decide +kernel
theorem ps_d_ix2_13 : decode ps_b_ix2 13 = .ok (.aload_n 0, 1) := by decide +kernel
theorem ps_d_ix2_14 : decode ps_b_ix2 14 = .ok (.invokevirtual 505, 3) := by decide +kernel
theorem ps_d_ix2_17 : decode ps_b_ix2 17 = .ok (.invokestatic 637, 3) := by decide +kernel
theorem ps_d_ix2_20 : decode ps_b_ix2 20 = .ok (.goto 16, 3) := by decide +kernel
theorem ps_d_ix2_36 : decode ps_b_ix2 36 = .ok (.ireturn, 1) := by decide +kernel
abbrev ps_b_ix : ByteArray := prog_25_method_79_code
def ps_y_ix : MethodName := ⟨"java/lang/String", "indexOf", "(I)I"⟩
theorem ps_d_ix_0 : decode ps_b_ix 0 = .ok (.aload_n 0, 1) := by decide +kernel
theorem ps_d_ix_1 : decode ps_b_ix 1 = .ok (.iload_n 1, 1) := by decide +kernel
theorem ps_d_ix_2 : decode ps_b_ix 2 = .ok (.iconst 0, 1) := by decide +kernel
theorem ps_d_ix_3 : decode ps_b_ix 3 = .ok (.invokevirtual 633, 3) := by decide +kernel
theorem ps_d_ix_6 : decode ps_b_ix 6 = .ok (.ireturn, 1) := by decide +kernel
abbrev ps_b_pchk : ByteArray := prog_34_method_11_code
def ps_y_pchk : MethodName := ⟨"jdk/internal/util/Preconditions", "checkIndex", "(IILjava/util/function/BiFunction;)I"⟩
theorem ps_d_pchk_0 : decode ps_b_pchk 0 = .ok (.iload_n 0, 1) := by decide +kernel
theorem ps_d_pchk_1 : decode ps_b_pchk 1 = .ok (.ifCond .lt 8, 3) := by decide +kernel
theorem ps_d_pchk_4 : decode ps_b_pchk 4 = .ok (.iload_n 0, 1) := by decide +kernel
theorem ps_d_pchk_5 : decode ps_b_pchk 5 = .ok (.iload_n 1, 1) := by decide +kernel
theorem ps_d_pchk_6 : decode ps_b_pchk 6 = .ok (.if_icmp .lt 10, 3) := by decide +kernel
theorem ps_d_pchk_16 : decode ps_b_pchk 16 = .ok (.iload_n 0, 1) := by decide +kernel
theorem ps_d_pchk_17 : decode ps_b_pchk 17 = .ok (.ireturn, 1) := by decide +kernel
abbrev ps_b_chk : ByteArray := prog_25_method_155_code
def ps_y_chk : MethodName := ⟨"java/lang/String", "checkIndex", "(II)V"⟩
theorem ps_d_chk_0 : decode ps_b_chk 0 = .ok (.iload_n 0, 1) := by decide +kernel
theorem ps_d_chk_1 : decode ps_b_chk 1 = .ok (.iload_n 1, 1) := by decide +kernel
theorem ps_d_chk_2 : decode ps_b_chk 2 = .ok (.getstatic 1053, 3) := by decide +kernel
theorem ps_d_chk_5 : decode ps_b_chk 5 = .ok (.invokestatic 1059, 3) := by decide +kernel
theorem ps_d_chk_8 : decode ps_b_chk 8 = .ok (.pop, 1) := by decide +kernel
theorem ps_d_chk_9 : decode ps_b_chk 9 = .ok (.return_, 1) := by decide +kernel
abbrev ps_b_lca : ByteArray := prog_26_method_2_code
def ps_y_lca : MethodName := ⟨"java/lang/StringLatin1", "charAt", "([BI)C"⟩
theorem ps_d_lca_0 : decode ps_b_lca 0 = .ok (.iload_n 1, 1) := by decide +kernel
theorem ps_d_lca_1 : decode ps_b_lca 1 = .ok (.aload_n 0, 1) := by decide +kernel
theorem ps_d_lca_2 : decode ps_b_lca 2 = .ok (.arraylength, 1) := by decide +kernel
theorem ps_d_lca_3 : decode ps_b_lca 3 = .ok (.invokestatic 9, 3) := by decide +kernel
theorem ps_d_lca_6 : decode ps_b_lca 6 = .ok (.aload_n 0, 1) := by decide +kernel
theorem ps_d_lca_7 : decode ps_b_lca 7 = .ok (.iload_n 1, 1) := by decide +kernel
theorem ps_d_lca_8 : decode ps_b_lca 8 = .ok (.baload, 1) := by decide +kernel
theorem ps_d_lca_9 : decode ps_b_lca 9 = .ok (.sipush 255, 3) := by decide +kernel
theorem ps_d_lca_12 : decode ps_b_lca 12 = .ok (.iand, 1) := by decide +kernel
theorem ps_d_lca_13 : decode ps_b_lca 13 = .ok (.i2c, 1) := by decide +kernel
theorem ps_d_lca_14 : decode ps_b_lca 14 = .ok (.ireturn, 1) := by decide +kernel
abbrev ps_b_ca : ByteArray := prog_25_method_56_code
def ps_y_ca : MethodName := ⟨"java/lang/String", "charAt", "(I)C"⟩
theorem ps_d_ca_0 : decode ps_b_ca 0 = .ok (.aload_n 0, 1) := by decide +kernel
theorem ps_d_ca_1 : decode ps_b_ca 1 = .ok (.invokevirtual 492, 3) := by decide +kernel
theorem ps_d_ca_4 : decode ps_b_ca 4 = .ok (.ifCond .eq 12, 3) := by decide +kernel
theorem ps_d_ca_7 : decode ps_b_ca 7 = .ok (.aload_n 0, 1) := by decide +kernel
theorem ps_d_ca_8 : decode ps_b_ca 8 = .ok (.getfield 9, 3) := by decide +kernel
theorem ps_d_ca_11 : decode ps_b_ca 11 = .ok (.iload_n 1, 1) := by decide +kernel
theorem ps_d_ca_12 : decode ps_b_ca 12 = .ok (.invokestatic 495, 3) := by decide +kernel
theorem ps_d_ca_15 : decode ps_b_ca 15 = .ok (.ireturn, 1) := by decide +kernel
/-- what is read of a String constant: its two fields, its bytes; the two statics on the way -/
def ps_K (A : Nat → Prop) (U : State) : Prop := va_Z "java/lang/String" "COMPACT_STRINGS" "Z" (.int 1) A U U.heap ∧ va_Zq "jdk/internal/util/Preconditions" "SIOOBE_FORMATTER" "Ljava/util/function/BiFunction;" A U U.heap
def ps_O (A : Nat → Prop) (q v : Nat) (bs : List Int32) (U : State) : Prop := va_O "java/lang/String" q A U U.heap ∧ va_OF "java/lang/String" "coder" "B" (.int 0) q A U U.heap ∧ va_OF "java/lang/String" "value" "[B" (.ref v) q A U U.heap ∧ va_T .byte v bs.length (fun j => .int (bs.getD j 0)) A U U.heap
theorem ps_K.go {A : Nat → Prop} {s U : State} {locs : List Loc} (h : ps_K A s) (hal : s.vm.Alike U.vm) (hS : va_S A s.heap U.heap locs) : ps_K A U := ⟨va_Z.moved hal (h.1.kept hS.2.1), va_Zq.moved hal (h.2.kept hS.2.1)⟩
theorem ps_O.go {A : Nat → Prop} {s U : State} {q v : Nat} {bs : List Int32} {locs : List Loc} (h : ps_O A q v bs s) (hal : s.vm.Alike U.vm) (hS : va_S A s.heap U.heap locs) : ps_O A q v bs U := ⟨va_O.moved hal (h.1.kept hS.2.1), va_OF.moved hal (h.2.1.kept hS.2.1), va_OF.moved hal (h.2.2.1.kept hS.2.1), va_T.moved hal (h.2.2.2.kept hS.2.1)⟩
theorem ps_S0 {A : Nat → Prop} {s U : State} (h : U.heap = s.heap) : va_S A s.heap U.heap [] := by rw [h]; exact va_S.rf
/-- a start: the arguments, the String -/
def ps_P (av : List Value) (A : Nat → Prop) (q v : Nat) (bs : List Int32) : Array Value → State → Prop := fun a U => a = av.toArray ∧ ps_K A U ∧ ps_O A q v bs U
theorem ps_P_blind {av : List Value} {A : Nat → Prop} {q v : Nat} {bs : List Int32} : FrameBlind (ps_P av A q v bs) := by
  intro a U g mk h
  exact ⟨h.1, h.2.1.go (Vm.Alike.refl _) (ps_S0 rfl), h.2.2.go (Vm.Alike.refl _) (ps_S0 rfl)⟩
/-- an end: the answer, the heap as it was -/
def ps_Q (r : Option Value) : Array Value → State → Outcome → State → Prop := fun _ st oc t => oc = .returned r ∧ t.heap = st.heap
theorem ps_good {y : MethodName} {cc : ByteArray} {n : Nat} {ret : Option FieldType} (h : Cond.code y cc n ret ∈ tables_1) : GoodIn pm_W0 (Cond.code y cc n ret :: pm_W0) := fun w hw => by
  rcases List.mem_cons.mp hw with rfl | hw
  · exact ⟨pm_W0_of h rfl, good_of_word rfl⟩
  · exact ⟨hw, good_of_word (List.mem_filter.mp hw).2⟩
section PsC
variable {p : Program} {l : Launch} {e : Env} {R : Room} {s : State} {m : MethodId} {args : Array Value} {below : List Frame} {meth : Method} {c : Code} {H : Heap} {locs : List Loc} {cells slots : Nat} {Q : State → Prop}
theorem ps_ret {pc : Nat} {ls : Array Slot} {st0 rest : List Value} {r : Option Value} {a : Array Value} (hr : va_Run p l e R s m args below meth c H locs cells slots 0 0 (F0 m pc ls st0) rest (ps_Q r a) (fun _ => False)) (kk : W p l e R s m args below meth c H locs cells slots Q (F0 m (pc + 3) ls (r.toList ++ rest))) : W p l e R s m args below meth c H locs cells slots Q (F0 m pc ls st0) := by
  intro T hT X
  obtain ⟨v, st₀, t, T', L, h0, X', hL, e1, e2, ⟨hv, hh⟩, st⟩ := hr T hT X
  cases hv
  have hL0 : L = [] := by
    cases L with
    | nil => rfl
    | cons q L => exact (hL q List.mem_cons_self).elim
  subst hL0
  rw [List.append_nil] at X'
  obtain ⟨t2, a1, b1⟩ := kk T' (by rw [e1, hh, h0]) X'
  exact ⟨t2, st t2 a1, b1⟩
/-- a call of one of them on a String -/
theorem ps_callV {cc bytes : ByteArray} {nL maxL index n pc : Nat} {ls : Array Slot} {own : String} {y : MethodName} {ret : Option FieldType} {rm : Room} {Pc : Array Value → State → Prop} {r : Option Value} {q : Nat} {As rest : List Value}
    (S : CallFix p m c cc nL s args pm_W0 own) (hM : Met l y (Cond.code y bytes maxL ret :: pm_W0) rm Pc (ps_Q r) 0 0 (fun _ => False)) (hcd : Cond.code y bytes maxL ret ∈ tables_1) (hcl : y.cls = "java/lang/String") (hlk : Cond.methodLink own index y ∈ tables_1) (hin : Cond.instanceMethod y ∈ tables_1) (hse : Cond.selects "java/lang/String" y y ∈ tables_1)
    (hd : (parseMethodDescriptor y.desc).map (fun d => d.parameters.length) = some n) (hrm : rm.cells = 0 ∧ rm.slots = 0) (hR : rm.frames + 1 ≤ R.frames ∧ 8 + (maxL + 11) + rm.locals ≤ R.locals) (hp : PreV s H "java/lang/String" q Pc As) (hn : As.length = n) (hsz : ls.size = nL) (hW8 : (rest.map fun v => v.category).sum ≤ 8) (hdg : decode cc pc = .ok (.invokevirtual index, 3)) (hf : cells ≤ R.cells ∧ slots ≤ R.slots)
    (kk : W p l e R s m args below meth c H locs cells slots Q (F0 m (pc + 3) ls (r.toList ++ rest))) : W p l e R s m args below meth c H locs cells slots Q (F0 m pc ls (As.reverse ++ .ref q :: rest)) := by
  have hw := S.2.2.2.2
  refine ps_ret (a := (Value.ref q :: As).toArray) (va_runV (C := "java/lang/String") S hM ⟨callB_of n hw (ps_good hcd) rfl hrm.1 hrm.2 (hw _ (by rw [hcl]; exact pm_W0_of (by decide +kernel) rfl)) (hw _ (pm_W0_of hlk rfl)) ⟨by rw [hcl]; decide, by rw [hcl]; decide, hd⟩ hR, hw _ (pm_W0_of hin rfl), hw _ (pm_W0_of hse rfl)⟩ hp rfl hn hsz rfl (lv_room hW8) hdg hf) kk
theorem ps_callS {cc bytes : ByteArray} {nL maxL index n pc : Nat} {ls : Array Slot} {own : String} {y : MethodName} {ret : Option FieldType} {rm : Room} {Pc : Array Value → State → Prop} {r : Option Value} {As rest : List Value}
    (S : CallFix p m c cc nL s args pm_W0 own) (hM : Met l y (Cond.code y bytes maxL ret :: pm_W0) rm Pc (ps_Q r) 0 0 (fun _ => False)) (hcd : Cond.code y bytes maxL ret ∈ tables_1) (hini : Cond.initialized y.cls ∈ tables_1) (hlk : Cond.methodLink own index y ∈ tables_1) (hst : Cond.static y ∈ tables_1)
    (hd : y.cls ≠ "java/lang/invoke/MethodHandle" ∧ y.cls ≠ "java/lang/invoke/VarHandle" ∧ (parseMethodDescriptor y.desc).map (fun d => d.parameters.length) = some n) (hrm : rm.cells = 0 ∧ rm.slots = 0) (hR : rm.frames + 1 ≤ R.frames ∧ 8 + (maxL + 11) + rm.locals ≤ R.locals) (hp : PreS s H Pc As) (hn : As.length = n) (hsz : ls.size = nL) (hW8 : (rest.map fun v => v.category).sum ≤ 8) (hdg : decode cc pc = .ok (.invokestatic index, 3)) (hf : cells ≤ R.cells ∧ slots ≤ R.slots)
    (kk : W p l e R s m args below meth c H locs cells slots Q (F0 m (pc + 3) ls (r.toList ++ rest))) : W p l e R s m args below meth c H locs cells slots Q (F0 m pc ls (As.reverse ++ rest)) := by
  have hw := S.2.2.2.2
  refine ps_ret (a := As.toArray) (va_runS S hM ⟨callB_of n hw (ps_good hcd) rfl hrm.1 hrm.2 (hw _ (pm_W0_of hini rfl)) (hw _ (pm_W0_of hlk rfl)) hd hR, hw _ (pm_W0_of hst rfl)⟩ hp rfl hn hsz rfl (lv_room hW8) hdg hf) kk
end PsC
theorem ps_coder (l : Launch) (A : Nat → Prop) (q v : Nat) (bs : List Int32) : Met l ps_y_coder (Cond.code ps_y_coder ps_b_coder 1 (some .byte) :: pm_W0) { frames := 0, cells := 0, slots := 0, locals := 0 } (ps_P [.ref q] A q v bs) (ps_Q (some (.int 0))) 0 0 (fun _ => False) := by
  refine Met.ofW (cc := ps_b_coder) (maxL := 1) (ret := (some .byte)) (by decide) rfl ?_
  intro p e s m args below meth c s₁ B hml hv
  obtain ⟨rfl, ⟨hC, hZ⟩, hO, hcoder, hvalue, hT⟩ := hv
  have hx := B.exec
  have hb := B.bytes
  have hr := B.returns
  have hts := atoms_spec (ws := (Cond.code ps_y_coder ps_b_coder 1 (some .byte) :: pm_W0)) B.pre
  have hw : ∀ w ∈ pm_W0, w.before #[.ref q] s = true := fun w h => hts w (List.mem_cons_of_mem _ h)
  have hown : s.vm.findClass "java/lang/String" = some m.cls := findClass_of_methodNamed B.named
  have hlocks := B.notSynchronized
  have hS : va_S A s.heap s.heap [] := va_S.rf
  have hl := lv_entry ([.ref q]) (n := 1) (Nat.le_of_ble_eq_true rfl)
  rw [lg_entry_eq]
  generalize (lg_sl ([.ref q]) ++ List.replicate (1 - (lg_sl ([.ref q])).length) Slot.unset).toArray = ls at hl ⊢
  have hl : lv_has ls 1 [(0, .ref q)] := hl
  have hSx : CallFix p m c ps_b_coder 1 s #[.ref q] pm_W0 "java/lang/String" := ⟨hx, hb, hml, hown, hw⟩
  refine va_gets hx hb hC hS hown (hw (.fieldLink "java/lang/String" 38 "java/lang/String" "COMPACT_STRINGS" "Z") (pm_W0_of (by decide +kernel) rfl)) (fun _ h => h) ps_d_coder_0 ?_
  refine lv_if_eq hx hb ps_d_coder_3 (tgt := 13) (by decide) (fun h => absurd h (by decide)) (fun _ => ?_)
  refine lv_aload_n hx hb ps_d_coder_6 rfl (lv_at hl 0 rfl) ?_
  refine vk_getf hx hb hcoder hS hown (hw (.fieldLink "java/lang/String" 15 "java/lang/String" "coder" "B") (pm_W0_of (by decide +kernel) rfl)) (fun _ h => h) ps_d_coder_7 ?_
  refine lv_goto hx hb ps_d_coder_10 (tgt := 14) (by decide) ?_
  exact W.zret (ty := .byte) hx hb hr (by decide) (fun t ht hW => ⟨rfl, ht⟩) (fun q h => nomatch h) ps_d_coder_14
theorem ps_lat (l : Launch) (A : Nat → Prop) (q v : Nat) (bs : List Int32) : Met l ps_y_lat (Cond.code ps_y_lat ps_b_lat 1 (some .boolean) :: pm_W0) { frames := 0, cells := 0, slots := 0, locals := 0 } (ps_P [.ref q] A q v bs) (ps_Q (some (.int 1))) 0 0 (fun _ => False) := by
  refine Met.ofW (cc := ps_b_lat) (maxL := 1) (ret := (some .boolean)) (by decide) rfl ?_
  intro p e s m args below meth c s₁ B hml hv
  obtain ⟨rfl, ⟨hC, hZ⟩, hO, hcoder, hvalue, hT⟩ := hv
  have hx := B.exec
  have hb := B.bytes
  have hr := B.returns
  have hts := atoms_spec (ws := (Cond.code ps_y_lat ps_b_lat 1 (some .boolean) :: pm_W0)) B.pre
  have hw : ∀ w ∈ pm_W0, w.before #[.ref q] s = true := fun w h => hts w (List.mem_cons_of_mem _ h)
  have hown : s.vm.findClass "java/lang/String" = some m.cls := findClass_of_methodNamed B.named
  have hlocks := B.notSynchronized
  have hS : va_S A s.heap s.heap [] := va_S.rf
  have hl := lv_entry ([.ref q]) (n := 1) (Nat.le_of_ble_eq_true rfl)
  rw [lg_entry_eq]
  generalize (lg_sl ([.ref q]) ++ List.replicate (1 - (lg_sl ([.ref q])).length) Slot.unset).toArray = ls at hl ⊢
  have hl : lv_has ls 1 [(0, .ref q)] := hl
  have hSx : CallFix p m c ps_b_lat 1 s #[.ref q] pm_W0 "java/lang/String" := ⟨hx, hb, hml, hown, hw⟩
  refine va_gets hx hb hC hS hown (hw (.fieldLink "java/lang/String" 38 "java/lang/String" "COMPACT_STRINGS" "Z") (pm_W0_of (by decide +kernel) rfl)) (fun _ h => h) ps_d_lat_0 ?_
  refine lv_if_eq hx hb ps_d_lat_3 (tgt := 17) (by decide) (fun h => absurd h (by decide)) (fun _ => ?_)
  refine lv_aload_n hx hb ps_d_lat_6 rfl (lv_at hl 0 rfl) ?_
  refine vk_getf hx hb hcoder hS hown (hw (.fieldLink "java/lang/String" 15 "java/lang/String" "coder" "B") (pm_W0_of (by decide +kernel) rfl)) (fun _ h => h) ps_d_lat_7 ?_
  refine lv_if_ne hx hb ps_d_lat_10 (tgt := 17) (by decide) (fun h => absurd rfl h) (fun _ => ?_)
  refine lv_iconst hx hb ps_d_lat_13 (v := 1) rfl ?_
  refine lv_goto hx hb ps_d_lat_14 (tgt := 18) (by decide) ?_
  exact W.zret (ty := .boolean) hx hb hr (by decide) (fun t ht hW => ⟨rfl, ht⟩) (fun q h => nomatch h) ps_d_lat_18
theorem ps_len (l : Launch) (A : Nat → Prop) (q v : Nat) (bs : List Int32) : Met l ps_y_len (Cond.code ps_y_len ps_b_len 1 (some .int) :: pm_W0) { frames := 1, cells := 0, slots := 0, locals := 20 } (ps_P [.ref q] A q v bs) (ps_Q (some (.int (Int32.ofNat bs.length)))) 0 0 (fun _ => False) := by
  refine Met.ofW (cc := ps_b_len) (maxL := 1) (ret := (some .int)) (by decide) rfl ?_
  intro p e s m args below meth c s₁ B hml hv
  obtain ⟨rfl, ⟨hC, hZ⟩, hO, hcoder, hvalue, hT⟩ := hv
  have hx := B.exec
  have hb := B.bytes
  have hr := B.returns
  have hts := atoms_spec (ws := (Cond.code ps_y_len ps_b_len 1 (some .int) :: pm_W0)) B.pre
  have hw : ∀ w ∈ pm_W0, w.before #[.ref q] s = true := fun w h => hts w (List.mem_cons_of_mem _ h)
  have hown : s.vm.findClass "java/lang/String" = some m.cls := findClass_of_methodNamed B.named
  have hlocks := B.notSynchronized
  have hS : va_S A s.heap s.heap [] := va_S.rf
  have hl := lv_entry ([.ref q]) (n := 1) (Nat.le_of_ble_eq_true rfl)
  rw [lg_entry_eq]
  generalize (lg_sl ([.ref q]) ++ List.replicate (1 - (lg_sl ([.ref q])).length) Slot.unset).toArray = ls at hl ⊢
  have hl : lv_has ls 1 [(0, .ref q)] := hl
  have hSx : CallFix p m c ps_b_len 1 s #[.ref q] pm_W0 "java/lang/String" := ⟨hx, hb, hml, hown, hw⟩
  have hK : ps_K A s := ⟨hC, hZ⟩
  have hOO : ps_O A q v bs s := ⟨hO, hcoder, hvalue, hT⟩
  have hcl : ∃ cellB : Cell, s.heap[q]? = some cellB ∧ cellB.vm.isStatics = false ∧ s.vm.findClass "java/lang/String" = some cellB.cls := by
    obtain ⟨cell, h1, h2, h3, -⟩ := hO
    exact ⟨cell, h1, h2, h3⟩
  refine lv_aload_n hx hb ps_d_len_0 rfl (lv_at hl 0 rfl) ?_
  refine vk_getf hx hb hvalue hS hown (hw (.fieldLink "java/lang/String" 9 "java/lang/String" "value" "[B") (pm_W0_of (by decide +kernel) rfl)) (fun _ h => h) ps_d_len_1 ?_
  refine va_tlen hx hb hT hS rfl ps_d_len_4 ?_
  refine lv_aload_n hx hb ps_d_len_5 rfl (lv_at hl 0 rfl) ?_
  refine ps_callV (As := []) (rest := [.int (Int32.ofNat bs.length)]) (n := 0) hSx (ps_coder l A q v bs) (by decide +kernel) rfl (by decide +kernel) (by decide +kernel) (by decide +kernel) (by decide +kernel) ⟨rfl, rfl⟩ ⟨by decide, by decide⟩ ⟨ps_P_blind, hcl, fun U hU hW => ⟨rfl, hK.go hW.alike (ps_S0 hU), hOO.go hW.alike (ps_S0 hU)⟩⟩ rfl hl.1 (Nat.le_of_ble_eq_true rfl) ps_d_len_6 ⟨Nat.le_refl _, Nat.le_refl _⟩ ?_
  refine lv_ishr hx hb ps_d_len_9 ?_
  rw [sb_shr0]
  exact W.iret hx hb hr (fun t ht hW => ⟨rfl, ht⟩) (fun q h => nomatch h) ps_d_len_10
theorem ps_can (l : Launch) (A : Nat → Prop) (q v : Nat) (bs : List Int32) (z : Int32) : Met l ps_y_can (Cond.code ps_y_can ps_b_can 1 (some .boolean) :: pm_W0) { frames := 0, cells := 0, slots := 0, locals := 0 } (ps_P [.int z] A q v bs) (ps_Q (some (.int (if z < 0 ∨ (255 : Int32) < z then 0 else 1)))) 0 0 (fun _ => False) := by
  refine Met.ofW (cc := ps_b_can) (maxL := 1) (ret := (some .boolean)) (by decide) rfl ?_
  intro p e s m args below meth c s₁ B hml hv
  obtain ⟨rfl, ⟨hC, hZ⟩, hO, hcoder, hvalue, hT⟩ := hv
  have hx := B.exec
  have hb := B.bytes
  have hr := B.returns
  have hts := atoms_spec (ws := (Cond.code ps_y_can ps_b_can 1 (some .boolean) :: pm_W0)) B.pre
  have hw : ∀ w ∈ pm_W0, w.before #[.int z] s = true := fun w h => hts w (List.mem_cons_of_mem _ h)
  have hown : s.vm.findClass "java/lang/StringLatin1" = some m.cls := findClass_of_methodNamed B.named
  have hlocks := B.notSynchronized
  have hS : va_S A s.heap s.heap [] := va_S.rf
  have hl := lv_entry ([.int z]) (n := 1) (Nat.le_of_ble_eq_true rfl)
  rw [lg_entry_eq]
  generalize (lg_sl ([.int z]) ++ List.replicate (1 - (lg_sl ([.int z])).length) Slot.unset).toArray = ls at hl ⊢
  have hl : lv_has ls 1 [(0, .int z)] := hl
  have hSx : CallFix p m c ps_b_can 1 s #[.int z] pm_W0 "java/lang/StringLatin1" := ⟨hx, hb, hml, hown, hw⟩
  refine lv_iload_n hx hb ps_d_can_0 rfl (lv_at hl 0 rfl) ?_
  refine lv_if_lt hx hb ps_d_can_1 (tgt := 15) (by decide) (fun h => ?_) (fun h0 => ?_)
  · refine lv_iconst hx hb ps_d_can_15 (v := 0) rfl ?_
    rw [if_pos (Or.inl h)]
    exact W.zret (ty := .boolean) hx hb hr (by decide) (fun t ht hW => ⟨rfl, ht⟩) (fun q h => nomatch h) ps_d_can_16
  · refine lv_iload_n hx hb ps_d_can_4 rfl (lv_at hl 0 rfl) ?_
    refine lv_sipush hx hb ps_d_can_5 (v := 255) rfl ?_
    refine lv_icmp_gt hx hb ps_d_can_8 (tgt := 15) (by decide) (fun h => ?_) (fun h1 => ?_)
    · refine lv_iconst hx hb ps_d_can_15 (v := 0) rfl ?_
      rw [if_pos (Or.inr h)]
      exact W.zret (ty := .boolean) hx hb hr (by decide) (fun t ht hW => ⟨rfl, ht⟩) (fun q h => nomatch h) ps_d_can_16
    · refine lv_iconst hx hb ps_d_can_11 (v := 1) rfl ?_
      refine lv_goto hx hb ps_d_can_12 (tgt := 16) (by decide) ?_
      rw [if_neg (fun h => h.elim h0 h1)]
      exact W.zret (ty := .boolean) hx hb hr (by decide) (fun t ht hW => ⟨rfl, ht⟩) (fun q h => nomatch h) ps_d_can_16
theorem ps_pchk0 (l : Launch) (A : Nat → Prop) (q v : Nat) (bs : List Int32) (z n : Int32) (h0 : ¬ z < 0) (h1 : z < n) : Met l ps_y_pchk (Cond.code ps_y_pchk ps_b_pchk 3 (some .int) :: pm_W0) { frames := 0, cells := 0, slots := 0, locals := 0 } (ps_P [.int z, .int n, .null] A q v bs) (ps_Q (some (.int z))) 0 0 (fun _ => False) := by
  refine Met.ofW (cc := ps_b_pchk) (maxL := 3) (ret := (some .int)) (by decide) rfl ?_
  intro p e s m args below meth c s₁ B hml hv
  obtain ⟨rfl, ⟨hC, hZ⟩, hO, hcoder, hvalue, hT⟩ := hv
  have hx := B.exec
  have hb := B.bytes
  have hr := B.returns
  have hts := atoms_spec (ws := (Cond.code ps_y_pchk ps_b_pchk 3 (some .int) :: pm_W0)) B.pre
  have hw : ∀ w ∈ pm_W0, w.before #[.int z, .int n, .null] s = true := fun w h => hts w (List.mem_cons_of_mem _ h)
  have hown : s.vm.findClass "jdk/internal/util/Preconditions" = some m.cls := findClass_of_methodNamed B.named
  have hlocks := B.notSynchronized
  have hS : va_S A s.heap s.heap [] := va_S.rf
  have hl := lv_entry ([.int z, .int n, .null]) (n := 3) (Nat.le_of_ble_eq_true rfl)
  rw [lg_entry_eq]
  generalize (lg_sl ([.int z, .int n, .null]) ++ List.replicate (3 - (lg_sl ([.int z, .int n, .null])).length) Slot.unset).toArray = ls at hl ⊢
  have hl : lv_has ls 3 [(0, .int z), (1, .int n), (2, .null)] := hl
  have hSx : CallFix p m c ps_b_pchk 3 s #[.int z, .int n, .null] pm_W0 "jdk/internal/util/Preconditions" := ⟨hx, hb, hml, hown, hw⟩
  refine lv_iload_n hx hb ps_d_pchk_0 rfl (lv_at hl 0 rfl) ?_
  refine lv_if_lt hx hb ps_d_pchk_1 (tgt := 9) (by decide) (fun h => absurd h h0) (fun _ => ?_)
  refine lv_iload_n hx hb ps_d_pchk_4 rfl (lv_at hl 0 rfl) ?_
  refine lv_iload_n hx hb ps_d_pchk_5 rfl (lv_at hl 1 rfl) ?_
  refine lv_icmp_lt hx hb ps_d_pchk_6 (tgt := 16) (by decide) (fun _ => ?_) (fun h => absurd h1 h)
  refine lv_iload_n hx hb ps_d_pchk_16 rfl (lv_at hl 0 rfl) ?_
  exact W.iret hx hb hr (fun t ht hW => ⟨rfl, ht⟩) (fun q h => nomatch h) ps_d_pchk_17
theorem ps_pchk1 (l : Launch) (A : Nat → Prop) (q v : Nat) (bs : List Int32) (z n : Int32) (t0 : Nat) (h0 : ¬ z < 0) (h1 : z < n) : Met l ps_y_pchk (Cond.code ps_y_pchk ps_b_pchk 3 (some .int) :: pm_W0) { frames := 0, cells := 0, slots := 0, locals := 0 } (ps_P [.int z, .int n, .ref t0] A q v bs) (ps_Q (some (.int z))) 0 0 (fun _ => False) := by
  refine Met.ofW (cc := ps_b_pchk) (maxL := 3) (ret := (some .int)) (by decide) rfl ?_
  intro p e s m args below meth c s₁ B hml hv
  obtain ⟨rfl, ⟨hC, hZ⟩, hO, hcoder, hvalue, hT⟩ := hv
  have hx := B.exec
  have hb := B.bytes
  have hr := B.returns
  have hts := atoms_spec (ws := (Cond.code ps_y_pchk ps_b_pchk 3 (some .int) :: pm_W0)) B.pre
  have hw : ∀ w ∈ pm_W0, w.before #[.int z, .int n, .ref t0] s = true := fun w h => hts w (List.mem_cons_of_mem _ h)
  have hown : s.vm.findClass "jdk/internal/util/Preconditions" = some m.cls := findClass_of_methodNamed B.named
  have hlocks := B.notSynchronized
  have hS : va_S A s.heap s.heap [] := va_S.rf
  have hl := lv_entry ([.int z, .int n, .ref t0]) (n := 3) (Nat.le_of_ble_eq_true rfl)
  rw [lg_entry_eq]
  generalize (lg_sl ([.int z, .int n, .ref t0]) ++ List.replicate (3 - (lg_sl ([.int z, .int n, .ref t0])).length) Slot.unset).toArray = ls at hl ⊢
  have hl : lv_has ls 3 [(0, .int z), (1, .int n), (2, .ref t0)] := hl
  have hSx : CallFix p m c ps_b_pchk 3 s #[.int z, .int n, .ref t0] pm_W0 "jdk/internal/util/Preconditions" := ⟨hx, hb, hml, hown, hw⟩
  refine lv_iload_n hx hb ps_d_pchk_0 rfl (lv_at hl 0 rfl) ?_
  refine lv_if_lt hx hb ps_d_pchk_1 (tgt := 9) (by decide) (fun h => absurd h h0) (fun _ => ?_)
  refine lv_iload_n hx hb ps_d_pchk_4 rfl (lv_at hl 0 rfl) ?_
  refine lv_iload_n hx hb ps_d_pchk_5 rfl (lv_at hl 1 rfl) ?_
  refine lv_icmp_lt hx hb ps_d_pchk_6 (tgt := 16) (by decide) (fun _ => ?_) (fun h => absurd h1 h)
  refine lv_iload_n hx hb ps_d_pchk_16 rfl (lv_at hl 0 rfl) ?_
  exact W.iret hx hb hr (fun t ht hW => ⟨rfl, ht⟩) (fun q h => nomatch h) ps_d_pchk_17
theorem ps_chk (l : Launch) (A : Nat → Prop) (q v : Nat) (bs : List Int32) (z n : Int32) (h0 : ¬ z < 0) (h1 : z < n) : Met l ps_y_chk (Cond.code ps_y_chk ps_b_chk 2 none :: pm_W0) { frames := 1, cells := 0, slots := 0, locals := 22 } (ps_P [.int z, .int n] A q v bs) (ps_Q none) 0 0 (fun _ => False) := by
  refine Met.ofW (cc := ps_b_chk) (maxL := 2) (ret := none) (by decide) rfl ?_
  intro p e s m args below meth c s₁ B hml hv
  obtain ⟨rfl, ⟨hC, hZ⟩, hO, hcoder, hvalue, hT⟩ := hv
  have hx := B.exec
  have hb := B.bytes
  have hr := B.returns
  have hts := atoms_spec (ws := (Cond.code ps_y_chk ps_b_chk 2 none :: pm_W0)) B.pre
  have hw : ∀ w ∈ pm_W0, w.before #[.int z, .int n] s = true := fun w h => hts w (List.mem_cons_of_mem _ h)
  have hown : s.vm.findClass "java/lang/String" = some m.cls := findClass_of_methodNamed B.named
  have hlocks := B.notSynchronized
  have hS : va_S A s.heap s.heap [] := va_S.rf
  have hl := lv_entry ([.int z, .int n]) (n := 2) (Nat.le_of_ble_eq_true rfl)
  rw [lg_entry_eq]
  generalize (lg_sl ([.int z, .int n]) ++ List.replicate (2 - (lg_sl ([.int z, .int n])).length) Slot.unset).toArray = ls at hl ⊢
  have hl : lv_has ls 2 [(0, .int z), (1, .int n)] := hl
  have hSx : CallFix p m c ps_b_chk 2 s #[.int z, .int n] pm_W0 "java/lang/String" := ⟨hx, hb, hml, hown, hw⟩
  have hK : ps_K A s := ⟨hC, hZ⟩
  have hOO : ps_O A q v bs s := ⟨hO, hcoder, hvalue, hT⟩
  have hcl : ∃ cellB : Cell, s.heap[q]? = some cellB ∧ cellB.vm.isStatics = false ∧ s.vm.findClass "java/lang/String" = some cellB.cls := by
    obtain ⟨cell, h1, h2, h3, -⟩ := hO
    exact ⟨cell, h1, h2, h3⟩
  refine lv_iload_n hx hb ps_d_chk_0 rfl (lv_at hl 0 rfl) ?_
  refine lv_iload_n hx hb ps_d_chk_1 rfl (lv_at hl 1 rfl) ?_
  rcases hZ with hZ | ⟨t0, hZ⟩
  · refine va_gets hx hb hZ hS hown (hw (.fieldLink "java/lang/String" 1053 "jdk/internal/util/Preconditions" "SIOOBE_FORMATTER" "Ljava/util/function/BiFunction;") (pm_W0_of (by decide +kernel) rfl)) (fun _ h => h) ps_d_chk_2 ?_
    refine ps_callS (As := [.int z, .int n, .null]) (rest := []) (n := 3) hSx (ps_pchk0 l A q v bs z n h0 h1) (by decide +kernel) (by decide +kernel) (by decide +kernel) (by decide +kernel) ⟨by decide, by decide, by decide +kernel⟩ ⟨rfl, rfl⟩ ⟨by decide, by decide⟩ ⟨ps_P_blind, fun U hU hW => ⟨rfl, hK.go hW.alike (ps_S0 hU), hOO.go hW.alike (ps_S0 hU)⟩⟩ rfl hl.1 (Nat.le_of_ble_eq_true rfl) ps_d_chk_5 ⟨Nat.le_refl _, Nat.le_refl _⟩ ?_
    refine lv_pop hx hb ps_d_chk_8 rfl ?_
    exact W.vret hx hb hr (fun t ht hW => ⟨rfl, ht⟩) (fun q h => nomatch h) ps_d_chk_9
  · refine va_gets hx hb hZ hS hown (hw (.fieldLink "java/lang/String" 1053 "jdk/internal/util/Preconditions" "SIOOBE_FORMATTER" "Ljava/util/function/BiFunction;") (pm_W0_of (by decide +kernel) rfl)) (fun _ h => h) ps_d_chk_2 ?_
    refine ps_callS (As := [.int z, .int n, .ref t0]) (rest := []) (n := 3) hSx (ps_pchk1 l A q v bs z n t0 h0 h1) (by decide +kernel) (by decide +kernel) (by decide +kernel) (by decide +kernel) ⟨by decide, by decide, by decide +kernel⟩ ⟨rfl, rfl⟩ ⟨by decide, by decide⟩ ⟨ps_P_blind, fun U hU hW => ⟨rfl, hK.go hW.alike (ps_S0 hU), hOO.go hW.alike (ps_S0 hU)⟩⟩ rfl hl.1 (Nat.le_of_ble_eq_true rfl) ps_d_chk_5 ⟨Nat.le_refl _, Nat.le_refl _⟩ ?_
    refine lv_pop hx hb ps_d_chk_8 rfl ?_
    exact W.vret hx hb hr (fun t ht hW => ⟨rfl, ht⟩) (fun q h => nomatch h) ps_d_chk_9
theorem ps_lca (l : Launch) (A : Nat → Prop) (q v : Nat) (bs : List Int32) (j : Nat) (hj : j < bs.length) (hN : bs.length < 2 ^ 31) : Met l ps_y_lca (Cond.code ps_y_lca ps_b_lca 2 (some .char) :: pm_W0) { frames := 2, cells := 0, slots := 0, locals := 43 } (ps_P [.ref v, .int (nI j)] A q v bs) (ps_Q (some (.int (bs.getD j 0 &&& 255)))) 0 0 (fun _ => False) := by
  refine Met.ofW (cc := ps_b_lca) (maxL := 2) (ret := (some .char)) (by decide) rfl ?_
  intro p e s m args below meth c s₁ B hml hv
  obtain ⟨rfl, ⟨hC, hZ⟩, hO, hcoder, hvalue, hT⟩ := hv
  have hx := B.exec
  have hb := B.bytes
  have hr := B.returns
  have hts := atoms_spec (ws := (Cond.code ps_y_lca ps_b_lca 2 (some .char) :: pm_W0)) B.pre
  have hw : ∀ w ∈ pm_W0, w.before #[.ref v, .int (nI j)] s = true := fun w h => hts w (List.mem_cons_of_mem _ h)
  have hown : s.vm.findClass "java/lang/StringLatin1" = some m.cls := findClass_of_methodNamed B.named
  have hlocks := B.notSynchronized
  have hS : va_S A s.heap s.heap [] := va_S.rf
  have hl := lv_entry ([.ref v, .int (nI j)]) (n := 2) (Nat.le_of_ble_eq_true rfl)
  rw [lg_entry_eq]
  generalize (lg_sl ([.ref v, .int (nI j)]) ++ List.replicate (2 - (lg_sl ([.ref v, .int (nI j)])).length) Slot.unset).toArray = ls at hl ⊢
  have hl : lv_has ls 2 [(0, .ref v), (1, .int (nI j))] := hl
  have hSx : CallFix p m c ps_b_lca 2 s #[.ref v, .int (nI j)] pm_W0 "java/lang/StringLatin1" := ⟨hx, hb, hml, hown, hw⟩
  have hK : ps_K A s := ⟨hC, hZ⟩
  have hOO : ps_O A q v bs s := ⟨hO, hcoder, hvalue, hT⟩
  have hcl : ∃ cellB : Cell, s.heap[q]? = some cellB ∧ cellB.vm.isStatics = false ∧ s.vm.findClass "java/lang/String" = some cellB.cls := by
    obtain ⟨cell, h1, h2, h3, -⟩ := hO
    exact ⟨cell, h1, h2, h3⟩
  refine lv_iload_n hx hb ps_d_lca_0 rfl (lv_at hl 1 rfl) ?_
  refine lv_aload_n hx hb ps_d_lca_1 rfl (lv_at hl 0 rfl) ?_
  refine va_tlen hx hb hT hS (v := nI bs.length) rfl ps_d_lca_2 ?_
  refine ps_callS (As := [.int (nI j), .int (nI bs.length)]) (rest := []) (n := 2) hSx (ps_chk l A q v bs (nI j) (nI bs.length) (nI_pos (by omega)) (nI_lt hj hN)) (by decide +kernel) (by decide +kernel) (by decide +kernel) (by decide +kernel) ⟨by decide, by decide, by decide +kernel⟩ ⟨rfl, rfl⟩ ⟨by decide, by decide⟩ ⟨ps_P_blind, fun U hU hW => ⟨rfl, hK.go hW.alike (ps_S0 hU), hOO.go hW.alike (ps_S0 hU)⟩⟩ rfl hl.1 (Nat.le_of_ble_eq_true rfl) ps_d_lca_3 ⟨Nat.le_refl _, Nat.le_refl _⟩ ?_
  refine lv_aload_n hx hb ps_d_lca_6 rfl (lv_at hl 0 rfl) ?_
  refine lv_iload_n hx hb ps_d_lca_7 rfl (lv_at hl 1 rfl) ?_
  refine va_tb hx hb hT hS (vp_in_nI hj hN) (v := .int (bs.getD j 0)) (by show Value.int (bs.getD (nI j).toNatClampNeg 0) = _; rw [nI_clamp (by omega)]) ps_d_lca_8 ?_
  refine lv_sipush hx hb ps_d_lca_9 (v := 255) rfl ?_
  refine lv_iand hx hb ps_d_lca_12 ?_
  refine lv_i2c hx hb ps_d_lca_13 (v := bs.getD j 0 &&& 255) (sc_c2 _) ?_
  exact W.zret (ty := .char) hx hb hr (sc_nar _) (fun t ht hW => ⟨rfl, ht⟩) (fun q h => nomatch h) ps_d_lca_14
theorem ps_ca (l : Launch) (A : Nat → Prop) (q v : Nat) (bs : List Int32) (j : Nat) (hj : j < bs.length) (hN : bs.length < 2 ^ 31) : Met l ps_y_ca (Cond.code ps_y_ca ps_b_ca 2 (some .char) :: pm_W0) { frames := 3, cells := 0, slots := 0, locals := 64 } (ps_P [.ref q, .int (nI j)] A q v bs) (ps_Q (some (.int (bs.getD j 0 &&& 255)))) 0 0 (fun _ => False) := by
  refine Met.ofW (cc := ps_b_ca) (maxL := 2) (ret := (some .char)) (by decide) rfl ?_
  intro p e s m args below meth c s₁ B hml hv
  obtain ⟨rfl, ⟨hC, hZ⟩, hO, hcoder, hvalue, hT⟩ := hv
  have hx := B.exec
  have hb := B.bytes
  have hr := B.returns
  have hts := atoms_spec (ws := (Cond.code ps_y_ca ps_b_ca 2 (some .char) :: pm_W0)) B.pre
  have hw : ∀ w ∈ pm_W0, w.before #[.ref q, .int (nI j)] s = true := fun w h => hts w (List.mem_cons_of_mem _ h)
  have hown : s.vm.findClass "java/lang/String" = some m.cls := findClass_of_methodNamed B.named
  have hlocks := B.notSynchronized
  have hS : va_S A s.heap s.heap [] := va_S.rf
  have hl := lv_entry ([.ref q, .int (nI j)]) (n := 2) (Nat.le_of_ble_eq_true rfl)
  rw [lg_entry_eq]
  generalize (lg_sl ([.ref q, .int (nI j)]) ++ List.replicate (2 - (lg_sl ([.ref q, .int (nI j)])).length) Slot.unset).toArray = ls at hl ⊢
  have hl : lv_has ls 2 [(0, .ref q), (1, .int (nI j))] := hl
  have hSx : CallFix p m c ps_b_ca 2 s #[.ref q, .int (nI j)] pm_W0 "java/lang/String" := ⟨hx, hb, hml, hown, hw⟩
  have hK : ps_K A s := ⟨hC, hZ⟩
  have hOO : ps_O A q v bs s := ⟨hO, hcoder, hvalue, hT⟩
  have hcl : ∃ cellB : Cell, s.heap[q]? = some cellB ∧ cellB.vm.isStatics = false ∧ s.vm.findClass "java/lang/String" = some cellB.cls := by
    obtain ⟨cell, h1, h2, h3, -⟩ := hO
    exact ⟨cell, h1, h2, h3⟩
  refine lv_aload_n hx hb ps_d_ca_0 rfl (lv_at hl 0 rfl) ?_
  refine ps_callV (As := []) (rest := []) (n := 0) hSx (ps_lat l A q v bs) (by decide +kernel) rfl (by decide +kernel) (by decide +kernel) (by decide +kernel) (by decide +kernel) ⟨rfl, rfl⟩ ⟨by decide, by decide⟩ ⟨ps_P_blind, hcl, fun U hU hW => ⟨rfl, hK.go hW.alike (ps_S0 hU), hOO.go hW.alike (ps_S0 hU)⟩⟩ rfl hl.1 (Nat.le_of_ble_eq_true rfl) ps_d_ca_1 ⟨Nat.le_refl _, Nat.le_refl _⟩ ?_
  refine lv_if_eq hx hb ps_d_ca_4 (tgt := 16) (by decide) (fun h => absurd h (by decide)) (fun _ => ?_)
  refine lv_aload_n hx hb ps_d_ca_7 rfl (lv_at hl 0 rfl) ?_
  refine vk_getf hx hb hvalue hS hown (hw (.fieldLink "java/lang/String" 9 "java/lang/String" "value" "[B") (pm_W0_of (by decide +kernel) rfl)) (fun _ h => h) ps_d_ca_8 ?_
  refine lv_iload_n hx hb ps_d_ca_11 rfl (lv_at hl 1 rfl) ?_
  refine ps_callS (As := [.ref v, .int (nI j)]) (rest := []) (n := 2) hSx (ps_lca l A q v bs j hj hN) (by decide +kernel) (by decide +kernel) (by decide +kernel) (by decide +kernel) ⟨by decide, by decide, by decide +kernel⟩ ⟨rfl, rfl⟩ ⟨by decide, by decide⟩ ⟨ps_P_blind, fun U hU hW => ⟨rfl, hK.go hW.alike (ps_S0 hU), hOO.go hW.alike (ps_S0 hU)⟩⟩ rfl hl.1 (Nat.le_of_ble_eq_true rfl) ps_d_ca_12 ⟨Nat.le_refl _, Nat.le_refl _⟩ ?_
  exact W.zret (ty := .char) hx hb hr (sc_nar _) (fun t ht hW => ⟨rfl, ht⟩) (fun q h => nomatch h) ps_d_ca_15
/-- where a byte stands first, from place k on -/
def ps_ixF (z : Int32) : List Int32 → Nat → Int32
  | [], _ => -1
  | b :: l, k => if b = z then nI k else ps_ixF z l (k + 1)
theorem ps_ixc (l : Launch) (A : Nat → Prop) (q v : Nat) (bs : List Int32) (z : Int32) (hN : bs.length < 2 ^ 31) : Met l ps_y_ixc (Cond.code ps_y_ixc ps_b_ixc 6 (some .int) :: pm_W0) { frames := 0, cells := 0, slots := 0, locals := 0 } (ps_P [.ref v, .int z, .int (nI 0), .int (nI bs.length)] A q v bs) (ps_Q (some (.int (ps_ixF z.toInt8.toInt32 bs 0)))) 0 0 (fun _ => False) := by
  refine Met.ofW (cc := ps_b_ixc) (maxL := 6) (ret := (some .int)) (by decide) rfl ?_
  intro p e s m args below meth c s₁ B hml hv
  obtain ⟨rfl, ⟨hC, hZ⟩, hO, hcoder, hvalue, hT⟩ := hv
  have hx := B.exec
  have hb := B.bytes
  have hr := B.returns
  have hts := atoms_spec (ws := (Cond.code ps_y_ixc ps_b_ixc 6 (some .int) :: pm_W0)) B.pre
  have hw : ∀ w ∈ pm_W0, w.before #[.ref v, .int z, .int (nI 0), .int (nI bs.length)] s = true := fun w h => hts w (List.mem_cons_of_mem _ h)
  have hown : s.vm.findClass "java/lang/StringLatin1" = some m.cls := findClass_of_methodNamed B.named
  have hlocks := B.notSynchronized
  have hS : va_S A s.heap s.heap [] := va_S.rf
  have hl := lv_entry ([.ref v, .int z, .int (nI 0), .int (nI bs.length)]) (n := 6) (Nat.le_of_ble_eq_true rfl)
  rw [lg_entry_eq]
  generalize (lg_sl ([.ref v, .int z, .int (nI 0), .int (nI bs.length)]) ++ List.replicate (6 - (lg_sl ([.ref v, .int z, .int (nI 0), .int (nI bs.length)])).length) Slot.unset).toArray = ls at hl ⊢
  have hl : lv_has ls 6 [(0, .ref v), (1, .int z), (2, .int (nI 0)), (3, .int (nI bs.length))] := hl
  have hSx : CallFix p m c ps_b_ixc 6 s #[.ref v, .int z, .int (nI 0), .int (nI bs.length)] pm_W0 "java/lang/StringLatin1" := ⟨hx, hb, hml, hown, hw⟩
  refine lv_iload_n hx hb ps_d_ixc_0 rfl (lv_at hl 1 rfl) ?_
  refine lv_i2b hx hb ps_d_ixc_1 rfl ?_
  refine lv_istore hx hb ps_d_ixc_2 hl (by decide) rfl (fun ls hl => ?_)
  refine lv_iload_n hx hb ps_d_ixc_4 rfl (lv_at hl 3 rfl) ?_
  refine lv_istore hx hb ps_d_ixc_5 hl (by decide) rfl (fun ls hl => ?_)
  have loop : ∀ (r : List Int32) (k : Nat) (ls : Array Slot), bs.drop k = r → k ≤ bs.length → lv_has ls 6 [(5, .int (nI k)), (4, .int z.toInt8.toInt32), (0, .ref v), (1, .int z), (2, .int (nI 0)), (3, .int (nI bs.length))] → W p l e (headSpec (Cond.code ps_y_ixc ps_b_ixc 6 (some .int) :: pm_W0) { frames := 0, cells := 0, slots := 0, locals := 0 }).room s m #[.ref v, .int z, .int (nI 0), .int (nI bs.length)] below meth c s.heap [] 0 0 (MQ below (ps_Q (some (.int (ps_ixF z.toInt8.toInt32 r k)))) #[.ref v, .int z, .int (nI 0), .int (nI bs.length)] s 0 0 (fun _ => False)) (F0 m 7 ls []) := by
    intro r
    induction r with
    | nil =>
      intro k ls hd hk hl
      have hlen : bs.length ≤ k := List.drop_eq_nil_iff.mp hd
      refine lv_iload hx hb ps_d_ixc_7 (lv_at hl 0 rfl) ?_
      refine lv_iload_n hx hb ps_d_ixc_9 rfl (lv_at hl 5 rfl) ?_
      refine lv_icmp_ge hx hb ps_d_ixc_10 (tgt := 31) (by decide) (fun _ => ?_) (fun h => absurd (nI_le hlen (by omega)) h)
      refine lv_iconst hx hb ps_d_ixc_31 (v := -1) rfl ?_
      exact W.iret hx hb hr (fun t ht hW => ⟨rfl, ht⟩) (fun q h => nomatch h) ps_d_ixc_32
    | cons b r ih =>
      intro k ls hd hk hl
      obtain ⟨h1, h2, h3, -⟩ := sc_dropC hd
      refine lv_iload hx hb ps_d_ixc_7 (lv_at hl 0 rfl) ?_
      refine lv_iload_n hx hb ps_d_ixc_9 rfl (lv_at hl 5 rfl) ?_
      refine lv_icmp_ge hx hb ps_d_ixc_10 (tgt := 31) (by decide) (fun h => absurd h (nI_ge h1 hN)) (fun _ => ?_)
      refine lv_aload_n hx hb ps_d_ixc_13 rfl (lv_at hl 2 rfl) ?_
      refine lv_iload hx hb ps_d_ixc_14 (lv_at hl 0 rfl) ?_
      refine va_tb hx hb hT hS (vp_in_nI h1 hN) (v := .int b) (by show Value.int (bs.getD (nI k).toNatClampNeg 0) = _; rw [nI_clamp (by omega), h2]) ps_d_ixc_16 ?_
      refine lv_iload hx hb ps_d_ixc_17 (lv_at hl 1 rfl) ?_
      refine lv_icmp_ne hx hb ps_d_ixc_19 (tgt := 25) (by decide) (fun h => ?_) (fun h => ?_)
      · refine lv_iinc hx hb ps_d_ixc_25 hl (k := 0) rfl (v := nI (k + 1)) (nI_1 k) (by decide) rfl (fun ls hl => ?_)
        refine lv_goto hx hb ps_d_ixc_28 (tgt := 7) (by decide) ?_
        have e : ps_ixF z.toInt8.toInt32 (b :: r) k = ps_ixF z.toInt8.toInt32 r (k + 1) := by rw [ps_ixF, if_neg h]
        rw [e]
        exact ih (k + 1) ls h3 (by omega) hl
      · refine lv_iload hx hb ps_d_ixc_22 (lv_at hl 0 rfl) ?_
        have e : ps_ixF z.toInt8.toInt32 (b :: r) k = nI k := by rw [ps_ixF, if_pos h]
        rw [e]
        exact W.iret hx hb hr (fun t ht hW => ⟨rfl, ht⟩) (fun q h => nomatch h) ps_d_ixc_24
  exact loop bs 0 ls rfl (Nat.zero_le _) hl
def ps_ixv (z : Int32) (bs : List Int32) : Int32 := if z < 0 ∨ (255 : Int32) < z then -1 else ps_ixF z.toInt8.toInt32 bs 0
theorem ps_lix (l : Launch) (A : Nat → Prop) (q v : Nat) (bs : List Int32) (z : Int32) (h0 : 0 < bs.length) (hN : bs.length < 2 ^ 31) : Met l ps_y_lix (Cond.code ps_y_lix ps_b_lix 4 (some .int) :: pm_W0) { frames := 1, cells := 0, slots := 0, locals := 25 } (ps_P [.ref v, .int z, .int (nI 0), .int (nI bs.length)] A q v bs) (ps_Q (some (.int (ps_ixv z bs)))) 0 0 (fun _ => False) := by
  refine Met.ofW (cc := ps_b_lix) (maxL := 4) (ret := (some .int)) (by decide) rfl ?_
  intro p e s m args below meth c s₁ B hml hv
  obtain ⟨rfl, ⟨hC, hZ⟩, hO, hcoder, hvalue, hT⟩ := hv
  have hx := B.exec
  have hb := B.bytes
  have hr := B.returns
  have hts := atoms_spec (ws := (Cond.code ps_y_lix ps_b_lix 4 (some .int) :: pm_W0)) B.pre
  have hw : ∀ w ∈ pm_W0, w.before #[.ref v, .int z, .int (nI 0), .int (nI bs.length)] s = true := fun w h => hts w (List.mem_cons_of_mem _ h)
  have hown : s.vm.findClass "java/lang/StringLatin1" = some m.cls := findClass_of_methodNamed B.named
  have hlocks := B.notSynchronized
  have hS : va_S A s.heap s.heap [] := va_S.rf
  have hl := lv_entry ([.ref v, .int z, .int (nI 0), .int (nI bs.length)]) (n := 4) (Nat.le_of_ble_eq_true rfl)
  rw [lg_entry_eq]
  generalize (lg_sl ([.ref v, .int z, .int (nI 0), .int (nI bs.length)]) ++ List.replicate (4 - (lg_sl ([.ref v, .int z, .int (nI 0), .int (nI bs.length)])).length) Slot.unset).toArray = ls at hl ⊢
  have hl : lv_has ls 4 [(0, .ref v), (1, .int z), (2, .int (nI 0)), (3, .int (nI bs.length))] := hl
  have hSx : CallFix p m c ps_b_lix 4 s #[.ref v, .int z, .int (nI 0), .int (nI bs.length)] pm_W0 "java/lang/StringLatin1" := ⟨hx, hb, hml, hown, hw⟩
  have hK : ps_K A s := ⟨hC, hZ⟩
  have hOO : ps_O A q v bs s := ⟨hO, hcoder, hvalue, hT⟩
  have hcl : ∃ cellB : Cell, s.heap[q]? = some cellB ∧ cellB.vm.isStatics = false ∧ s.vm.findClass "java/lang/String" = some cellB.cls := by
    obtain ⟨cell, h1, h2, h3, -⟩ := hO
    exact ⟨cell, h1, h2, h3⟩
  refine lv_iload_n hx hb ps_d_lix_0 rfl (lv_at hl 1 rfl) ?_
  refine ps_callS (As := [.int z]) (rest := []) (n := 1) hSx (ps_can l A q v bs z) (by decide +kernel) (by decide +kernel) (by decide +kernel) (by decide +kernel) ⟨by decide, by decide, by decide +kernel⟩ ⟨rfl, rfl⟩ ⟨by decide, by decide⟩ ⟨ps_P_blind, fun U hU hW => ⟨rfl, hK.go hW.alike (ps_S0 hU), hOO.go hW.alike (ps_S0 hU)⟩⟩ rfl hl.1 (Nat.le_of_ble_eq_true rfl) ps_d_lix_1 ⟨Nat.le_refl _, Nat.le_refl _⟩ ?_
  by_cases hz : z < 0 ∨ (255 : Int32) < z
  · rw [if_pos hz]
    refine lv_if_ne hx hb ps_d_lix_4 (tgt := 9) (by decide) (fun h => absurd rfl h) (fun _ => ?_)
    refine lv_iconst hx hb ps_d_lix_7 (v := -1) rfl ?_
    have e : ps_ixv z bs = -1 := by unfold ps_ixv; rw [if_pos hz]
    rw [e]
    exact W.iret hx hb hr (fun t ht hW => ⟨rfl, ht⟩) (fun q h => nomatch h) ps_d_lix_8
  · rw [if_neg hz]
    refine lv_if_ne hx hb ps_d_lix_4 (tgt := 9) (by decide) (fun _ => ?_) (fun h => absurd h (by decide))
    have hmi : (Cond.initialized "java/lang/Math").before #[.ref v, .int z, .int (nI 0), .int (nI bs.length)] s = true := hw _ (pm_W0_of (by decide +kernel) rfl)
    refine lv_iload_n hx hb ps_d_lix_9 rfl (lv_at hl 2 rfl) ?_
    refine lv_iconst hx hb ps_d_lix_10 (v := nI 0) rfl ?_
    refine va_mmax hx hb (hml.trans hl.1.symm) hown (hw (.methodLink "java/lang/StringLatin1" 92 Lib.Math.max.name) (pm_W0_of (by decide +kernel) rfl)) (hw _ (pm_W0_of (by decide +kernel) rfl)) hmi (hw _ (pm_W0_of (by decide +kernel) rfl)) (by decide) (by decide) (Nat.le_refl _) (Nat.le_refl _) ps_d_lix_11 ?_
    rw [if_neg (by decide)]
    refine lv_istore_n hx hb ps_d_lix_14 rfl hl (by decide) rfl (fun ls hl => ?_)
    refine lv_iload_n hx hb ps_d_lix_15 rfl (lv_at hl 3 rfl) ?_
    refine lv_aload_n hx hb ps_d_lix_16 rfl (lv_at hl 1 rfl) ?_
    refine va_tlen hx hb hT hS (v := nI bs.length) rfl ps_d_lix_17 ?_
    refine va_mmin hx hb (hml.trans hl.1.symm) hown (hw (.methodLink "java/lang/StringLatin1" 38 Lib.Math.min.name) (pm_W0_of (by decide +kernel) rfl)) (hw _ (pm_W0_of (by decide +kernel) rfl)) hmi (hw _ (pm_W0_of (by decide +kernel) rfl)) (by decide) (by decide) (Nat.le_refl _) (Nat.le_refl _) ps_d_lix_18 ?_
    rw [if_neg Int32.lt_irrefl]
    refine lv_istore_n hx hb ps_d_lix_21 rfl hl (by decide) rfl (fun ls hl => ?_)
    refine lv_iload_n hx hb ps_d_lix_22 rfl (lv_at hl 1 rfl) ?_
    refine lv_iload_n hx hb ps_d_lix_23 rfl (lv_at hl 0 rfl) ?_
    refine lv_icmp_lt hx hb ps_d_lix_24 (tgt := 29) (by decide) (fun _ => ?_) (fun h => absurd (nI_lt h0 hN) h)
    refine lv_aload_n hx hb ps_d_lix_29 rfl (lv_at hl 2 rfl) ?_
    refine lv_iload_n hx hb ps_d_lix_30 rfl (lv_at hl 3 rfl) ?_
    refine lv_iload_n hx hb ps_d_lix_31 rfl (lv_at hl 1 rfl) ?_
    refine lv_iload_n hx hb ps_d_lix_32 rfl (lv_at hl 0 rfl) ?_
    refine ps_callS (As := [.ref v, .int z, .int (nI 0), .int (nI bs.length)]) (rest := []) (n := 4) hSx (ps_ixc l A q v bs z hN) (by decide +kernel) (by decide +kernel) (by decide +kernel) (by decide +kernel) ⟨by decide, by decide, by decide +kernel⟩ ⟨rfl, rfl⟩ ⟨by decide, by decide⟩ ⟨ps_P_blind, fun U hU hW => ⟨rfl, hK.go hW.alike (ps_S0 hU), hOO.go hW.alike (ps_S0 hU)⟩⟩ rfl hl.1 (Nat.le_of_ble_eq_true rfl) ps_d_lix_33 ⟨Nat.le_refl _, Nat.le_refl _⟩ ?_
    have e : ps_ixv z bs = ps_ixF z.toInt8.toInt32 bs 0 := by unfold ps_ixv; rw [if_neg hz]
    rw [e]
    exact W.iret hx hb hr (fun t ht hW => ⟨rfl, ht⟩) (fun q h => nomatch h) ps_d_lix_36
theorem ps_ix2 (l : Launch) (A : Nat → Prop) (q v : Nat) (bs : List Int32) (z : Int32) (h0 : 0 < bs.length) (hN : bs.length < 2 ^ 31) : Met l ps_y_ix2 (Cond.code ps_y_ix2 ps_b_ix2 3 (some .int) :: pm_W0) { frames := 2, cells := 0, slots := 0, locals := 48 } (ps_P [.ref q, .int z, .int (nI 0)] A q v bs) (ps_Q (some (.int (ps_ixv z bs)))) 0 0 (fun _ => False) := by
  refine Met.ofW (cc := ps_b_ix2) (maxL := 3) (ret := (some .int)) (by decide) rfl ?_
  intro p e s m args below meth c s₁ B hml hv
  obtain ⟨rfl, ⟨hC, hZ⟩, hO, hcoder, hvalue, hT⟩ := hv
  have hx := B.exec
  have hb := B.bytes
  have hr := B.returns
  have hts := atoms_spec (ws := (Cond.code ps_y_ix2 ps_b_ix2 3 (some .int) :: pm_W0)) B.pre
  have hw : ∀ w ∈ pm_W0, w.before #[.ref q, .int z, .int (nI 0)] s = true := fun w h => hts w (List.mem_cons_of_mem _ h)
  have hown : s.vm.findClass "java/lang/String" = some m.cls := findClass_of_methodNamed B.named
  have hlocks := B.notSynchronized
  have hS : va_S A s.heap s.heap [] := va_S.rf
  have hl := lv_entry ([.ref q, .int z, .int (nI 0)]) (n := 3) (Nat.le_of_ble_eq_true rfl)
  rw [lg_entry_eq]
  generalize (lg_sl ([.ref q, .int z, .int (nI 0)]) ++ List.replicate (3 - (lg_sl ([.ref q, .int z, .int (nI 0)])).length) Slot.unset).toArray = ls at hl ⊢
  have hl : lv_has ls 3 [(0, .ref q), (1, .int z), (2, .int (nI 0))] := hl
  have hSx : CallFix p m c ps_b_ix2 3 s #[.ref q, .int z, .int (nI 0)] pm_W0 "java/lang/String" := ⟨hx, hb, hml, hown, hw⟩
  have hK : ps_K A s := ⟨hC, hZ⟩
  have hOO : ps_O A q v bs s := ⟨hO, hcoder, hvalue, hT⟩
  have hcl : ∃ cellB : Cell, s.heap[q]? = some cellB ∧ cellB.vm.isStatics = false ∧ s.vm.findClass "java/lang/String" = some cellB.cls := by
    obtain ⟨cell, h1, h2, h3, -⟩ := hO
    exact ⟨cell, h1, h2, h3⟩
  refine lv_aload_n hx hb ps_d_ix2_0 rfl (lv_at hl 0 rfl) ?_
  refine ps_callV (As := []) (rest := []) (n := 0) hSx (ps_lat l A q v bs) (by decide +kernel) rfl (by decide +kernel) (by decide +kernel) (by decide +kernel) (by decide +kernel) ⟨rfl, rfl⟩ ⟨by decide, by decide⟩ ⟨ps_P_blind, hcl, fun U hU hW => ⟨rfl, hK.go hW.alike (ps_S0 hU), hOO.go hW.alike (ps_S0 hU)⟩⟩ rfl hl.1 (Nat.le_of_ble_eq_true rfl) ps_d_ix2_1 ⟨Nat.le_refl _, Nat.le_refl _⟩ ?_
  refine lv_if_eq hx hb ps_d_ix2_4 (tgt := 23) (by decide) (fun h => absurd h (by decide)) (fun _ => ?_)
  refine lv_aload_n hx hb ps_d_ix2_7 rfl (lv_at hl 0 rfl) ?_
  refine vk_getf hx hb hvalue hS hown (hw (.fieldLink "java/lang/String" 9 "java/lang/String" "value" "[B") (pm_W0_of (by decide +kernel) rfl)) (fun _ h => h) ps_d_ix2_8 ?_
  refine lv_iload_n hx hb ps_d_ix2_11 rfl (lv_at hl 1 rfl) ?_
  refine lv_iload_n hx hb ps_d_ix2_12 rfl (lv_at hl 2 rfl) ?_
  refine lv_aload_n hx hb ps_d_ix2_13 rfl (lv_at hl 0 rfl) ?_
  refine ps_callV (As := []) (rest := [.int (nI 0), .int z, .ref v]) (n := 0) hSx (ps_len l A q v bs) (by decide +kernel) rfl (by decide +kernel) (by decide +kernel) (by decide +kernel) (by decide +kernel) ⟨rfl, rfl⟩ ⟨by decide, by decide⟩ ⟨ps_P_blind, hcl, fun U hU hW => ⟨rfl, hK.go hW.alike (ps_S0 hU), hOO.go hW.alike (ps_S0 hU)⟩⟩ rfl hl.1 (Nat.le_of_ble_eq_true rfl) ps_d_ix2_14 ⟨Nat.le_refl _, Nat.le_refl _⟩ ?_
  refine ps_callS (As := [.ref v, .int z, .int (nI 0), .int (nI bs.length)]) (rest := []) (n := 4) hSx (ps_lix l A q v bs z h0 hN) (by decide +kernel) (by decide +kernel) (by decide +kernel) (by decide +kernel) ⟨by decide, by decide, by decide +kernel⟩ ⟨rfl, rfl⟩ ⟨by decide, by decide⟩ ⟨ps_P_blind, fun U hU hW => ⟨rfl, hK.go hW.alike (ps_S0 hU), hOO.go hW.alike (ps_S0 hU)⟩⟩ rfl hl.1 (Nat.le_of_ble_eq_true rfl) ps_d_ix2_17 ⟨Nat.le_refl _, Nat.le_refl _⟩ ?_
  refine lv_goto hx hb ps_d_ix2_20 (tgt := 36) (by decide) ?_
  exact W.iret hx hb hr (fun t ht hW => ⟨rfl, ht⟩) (fun q h => nomatch h) ps_d_ix2_36
theorem ps_ix (l : Launch) (A : Nat → Prop) (q v : Nat) (bs : List Int32) (z : Int32) (h0 : 0 < bs.length) (hN : bs.length < 2 ^ 31) : Met l ps_y_ix (Cond.code ps_y_ix ps_b_ix 2 (some .int) :: pm_W0) { frames := 3, cells := 0, slots := 0, locals := 70 } (ps_P [.ref q, .int z] A q v bs) (ps_Q (some (.int (ps_ixv z bs)))) 0 0 (fun _ => False) := by
  refine Met.ofW (cc := ps_b_ix) (maxL := 2) (ret := (some .int)) (by decide) rfl ?_
  intro p e s m args below meth c s₁ B hml hv
  obtain ⟨rfl, ⟨hC, hZ⟩, hO, hcoder, hvalue, hT⟩ := hv
  have hx := B.exec
  have hb := B.bytes
  have hr := B.returns
  have hts := atoms_spec (ws := (Cond.code ps_y_ix ps_b_ix 2 (some .int) :: pm_W0)) B.pre
  have hw : ∀ w ∈ pm_W0, w.before #[.ref q, .int z] s = true := fun w h => hts w (List.mem_cons_of_mem _ h)
  have hown : s.vm.findClass "java/lang/String" = some m.cls := findClass_of_methodNamed B.named
  have hlocks := B.notSynchronized
  have hS : va_S A s.heap s.heap [] := va_S.rf
  have hl := lv_entry ([.ref q, .int z]) (n := 2) (Nat.le_of_ble_eq_true rfl)
  rw [lg_entry_eq]
  generalize (lg_sl ([.ref q, .int z]) ++ List.replicate (2 - (lg_sl ([.ref q, .int z])).length) Slot.unset).toArray = ls at hl ⊢
  have hl : lv_has ls 2 [(0, .ref q), (1, .int z)] := hl
  have hSx : CallFix p m c ps_b_ix 2 s #[.ref q, .int z] pm_W0 "java/lang/String" := ⟨hx, hb, hml, hown, hw⟩
  have hK : ps_K A s := ⟨hC, hZ⟩
  have hOO : ps_O A q v bs s := ⟨hO, hcoder, hvalue, hT⟩
  have hcl : ∃ cellB : Cell, s.heap[q]? = some cellB ∧ cellB.vm.isStatics = false ∧ s.vm.findClass "java/lang/String" = some cellB.cls := by
    obtain ⟨cell, h1, h2, h3, -⟩ := hO
    exact ⟨cell, h1, h2, h3⟩
  refine lv_aload_n hx hb ps_d_ix_0 rfl (lv_at hl 0 rfl) ?_
  refine lv_iload_n hx hb ps_d_ix_1 rfl (lv_at hl 1 rfl) ?_
  refine lv_iconst hx hb ps_d_ix_2 (v := nI 0) rfl ?_
  refine ps_callV (As := [.int z, .int (nI 0)]) (rest := []) (n := 2) hSx (ps_ix2 l A q v bs z h0 hN) (by decide +kernel) rfl (by decide +kernel) (by decide +kernel) (by decide +kernel) (by decide +kernel) ⟨rfl, rfl⟩ ⟨by decide, by decide⟩ ⟨ps_P_blind, hcl, fun U hU hW => ⟨rfl, hK.go hW.alike (ps_S0 hU), hOO.go hW.alike (ps_S0 hU)⟩⟩ rfl hl.1 (Nat.le_of_ble_eq_true rfl) ps_d_ix_3 ⟨Nat.le_refl _, Nat.le_refl _⟩ ?_
  exact W.iret hx hb hr (fun t ht hW => ⟨rfl, ht⟩) (fun q h => nomatch h) ps_d_ix_6
end
section
/-! soundness, the frame: what holds of a method's own start (s), and the instructions that read and write the heap -/
def pm_NW : List Cond := tables_1.filter (fun w => match w with
  | .methodLinkNest _ _ _ _ => true
  | .declares _ => true
  | .castable _ _ => true
  | _ => false)
/-- an int array that is there at the start and that nobody writes -/
def pm_ex (A : Nat → Prop) (ad : Nat → Nat) (U : State) (a : Nat) (l : List Value) : Prop := ∃ cell : Cell, U.heap[ad a]? = some cell ∧ U.isArrayOf cell .int ∧ cell.vm ≠ .unknown ∧ cell.slots.size = l.length ∧ (∀ (j : Nat) (v : Value), l[j]? = some v → cell.slots[j]? = some v) ∧ ¬ A (ad a)
/-- the String constants -/
def pm_Sx (A : Nat → Prop) (ad : Nat → Nat) (X : List (Nat × List Value)) (U : State) : Prop := ps_K A U ∧ ∀ (a : Nat) (l : List Value), 4 ≤ a → a < 12 → X[a]? = some (4, l) → ∃ (v : Nat) (bs : List Int32), l = bs.map Value.int ∧ 0 < bs.length ∧ bs.length < 2 ^ 31 ∧ ps_O A (ad a) v bs U
theorem pm_Sx.go {A : Nat → Prop} {ad : Nat → Nat} {X : List (Nat × List Value)} {s U : State} {locs : List Loc} (h : pm_Sx A ad X s) (hal : s.vm.Alike U.vm) (hS : va_S A s.heap U.heap locs) : pm_Sx A ad X U := ⟨h.1.go hal hS, fun a l h1 h2 h3 => by
  obtain ⟨v, bs, e1, e2, e3, e4⟩ := h.2 a l h1 h2 h3
  exact ⟨v, bs, e1, e2, e3, e4.go hal hS⟩⟩
/-- what a method's start gives: classes, links across the nest, what is there at the start -/
def pm_Cx (D : va_G) (cA : Nat → ClassId) (A : Nat → Prop) (ad : Nat → Nat) (X : List (Nat × List Value)) (U : State) : Prop :=
  va_K D vwCl (pm_tys cA) U ∧ (∀ w ∈ pm_NW, va_Nw w U) ∧ (∀ C ∈ [RX3, RX7], va_AO C U) ∧ (∀ (a : Nat) (l : List Value), a < 16 → X[a]? = some (0, l) → pm_ex A ad U a l) ∧
  (∀ a : Nat, 1 ≤ a → a ≤ 3 → va_Z (pm_stn a).1 (pm_stn a).2 "[I" (.ref (ad a)) A U U.heap) ∧ (∀ q ∈ pm_strs, vk_R (pm_nm q.1) q.2.1 q.2.2.1 (ad q.2.2.2) U) ∧
  vx_Zq Bundle.tN "UNASSIGNED_STACK" Bundle.steD A U U.heap ∧ vx_Zq Bundle.tN "SUPPRESSED_SENTINEL" Bundle.listD A U U.heap ∧ pm_Sx A ad X U
theorem pm_NW_warm {s U : State} (hW : s.WarmedH U.vm) {w : Cond} (hw : w ∈ pm_NW) (h : va_Nw w s) : va_Nw w U := by
  have hm := (List.mem_filter.mp hw).2
  split at hm
  · exact va_Nw.warmM hW h
  · exact va_Nw.warmD hW h
  · exact va_Nw.warmC hW h
  · cases hm
/-- at a callee's start -/
theorem pm_Cx.go {D : va_G} {cA : Nat → ClassId} {A : Nat → Prop} {ad : Nat → Nat} {X : List (Nat × List Value)} {s U : State} {locs : List Loc} (h : pm_Cx D cA A ad X s) (hW : s.WarmedH U.vm) (hS : va_S A s.heap U.heap locs) : pm_Cx D cA A ad X U := by
  obtain ⟨h1, h2, h3, h4, h5, h6, h7, h8, h9⟩ := h
  have hk : ∀ a : Nat, a < s.heap.size → ¬ A a → U.heap[a]? = s.heap[a]? := hS.2.1
  refine ⟨h1.moved hW.alike, fun w hw => pm_NW_warm hW hw (h2 w hw), fun C hC => (h3 C hC).moved hW.alike, fun a l ha hl => ?_, fun a ha hb => va_Z.moved hW.alike ((h5 a ha hb).kept hk), fun q hq => (h6 q hq).warm hW, vx_Zq.moved hW.alike (h7.kept hk), vx_Zq.moved hW.alike (h8.kept hk), h9.go hW.alike hS⟩
  obtain ⟨cell, e1, e2, e3, e4, e5, e6⟩ := h4 a l ha hl
  exact ⟨cell, by rw [hk _ (Array.getElem?_eq_some_iff.mp e1).1 e6]; exact e1, State.isArrayOf_alike hW.alike e2, e3, e4, e5, e6⟩
/-- the same state, a frame laid over it -/
theorem pm_Cx.same {D : va_G} {cA : Nat → ClassId} {A : Nat → Prop} {ad : Nat → Nat} {X : List (Nat × List Value)} {s U : State} (h : pm_Cx D cA A ad X s) (hv : U.vm = s.vm) (hh : U.heap = s.heap) : pm_Cx D cA A ad X U := by
  obtain ⟨h1, h2, h3, h4, h5, h6, h7, h8, h9⟩ := h
  have hal : s.vm.Alike U.vm := by rw [hv]; exact Vm.Alike.refl _
  refine ⟨h1.moved hal, fun w hw => ?_, fun C hC => (h3 C hC).moved hal, fun a l ha hl => ?_, fun a ha hb => by rw [hh]; exact va_Z.moved hal (h5 a ha hb), fun q hq => (h6 q hq).same hv, by rw [hh]; exact vx_Zq.moved hal h7, by rw [hh]; exact vx_Zq.moved hal h8, h9.go hal (ps_S0 hh)⟩
  · have hm := (List.mem_filter.mp hw).2
    split at hm
    · exact va_Nw.same rfl hv.symm (h2 _ hw)
    · exact va_Nw.same rfl hv.symm (h2 _ hw)
    · exact va_Nw.same rfl hv.symm (h2 _ hw)
    · cases hm
  · obtain ⟨cell, e1, e2, e3, e4, e5, e6⟩ := h4 a l ha hl
    exact ⟨cell, by rw [hh]; exact e1, State.isArrayOf_alike hal e2, e3, e4, e5, e6⟩
/-- slots of a picture -/
def pm_sz (c : pm_C) : Nat := match c with
  | .inl q => q.2.length
  | .inr q => q.2.length
def pm_slt (h : pm_H) : Nat := (h.map pm_sz).sum
theorem pm_slt_push (h : pm_H) (c : pm_C) : pm_slt (h ++ [c]) = pm_slt h + pm_sz c := by simp [pm_slt]
theorem pm_slt_set {h : pm_H} {k : Nat} {c c' : pm_C} (hk : h[k]? = some c) (hz : pm_sz c' = pm_sz c) : pm_slt (h.set k c') = pm_slt h := by
  unfold pm_slt
  rw [List.map_set, hz]
  congr 1
  have hm : (h.map pm_sz)[k]? = some (pm_sz c) := by rw [List.getElem?_map, hk]; rfl
  apply List.ext_getElem?
  intro j
  by_cases hj : k = j
  · subst hj
    rw [List.getElem?_set_self (List.getElem?_eq_some_iff.mp hm).1, hm]
  · rw [List.getElem?_set_ne hj]
/-- a method's frame: the machine, its code, its class, the words, its start -/
def pm_Fr (p : Program) (s : State) (mid : MethodId) (args : Array Value) (meth : Method) (c : Code) (D : va_G) (cA : Nat → ClassId) (A : Nat → Prop) (ad : Nat → Nat) (X : List (Nat × List Value)) (m : Nat) (e : pm_M) (y : pm_Hd) : Prop :=
  p.tables.exec = Jvm.exec ∧ c.code = pm_byt y.2.1 ∧ c.maxLocals = e.2.1 ∧ s.vm.findClass (pm_nm e.2.2.1) = some mid.cls ∧ (∀ w ∈ pm_W0, w.before args s = true) ∧ pm_Cx D cA A ad X s ∧ meth.name = y.1.name ∧ pm_ent m = some e ∧ pm_get pm_hds m = some y ∧ ∀ q : Nat, s.heap.size ≤ q → A q
/-- the heap as the frame has it: the picture, what stayed, the count of what was made (hb, sb: cells and slots of the picture at the start; x: exceptions that were caught, in the law's frame alone) -/
def pm_At (s : State) (D : va_G) (cA : Nat → ClassId) (A : Nat → Prop) (ad : Nat → Nat) (m hb sb x : Nat) (h : pm_H) (H : Heap) (locs : List Loc) (cells slots : Nat) : Prop :=
  pm_rel D cA A ad h H ∧ va_S A s.heap H locs ∧ (m = 309 ∨ (x = 0 ∧ H.size = s.heap.size + cells)) ∧ cells + hb = h.length + x ∧ slots + sb = pm_slt h + 6 * x
theorem pm_At.stored {s : State} {D : va_G} {cA : Nat → ClassId} {A : Nat → Prop} {ad : Nat → Nat} {m hb sb x : Nat} {h : pm_H} {H H1 : Heap} {locs locs1 : List Loc} {cells slots k : Nat} {c c' : pm_C} (hA : pm_At s D cA A ad m hb sb x h H locs cells slots) (hm : m ≠ 309) (hk : h[k]? = some c) (hz : pm_sz c' = pm_sz c)
    (hP : va_P D vwCl ((pm_ws ad cA h).set k (ad (16 + k), pm_re ad cA c')) H1) (hD : va_D A ((pm_ws ad cA h).set k (ad (16 + k), pm_re ad cA c'))) (hS : va_S A H H1 locs1) (hup : H1.size ≤ s.heap.size + cells) : pm_At s D cA A ad m hb sb x (h.set k c') H1 locs1 cells slots := by
  obtain ⟨h1, h2, h3, h4, h5⟩ := hA
  obtain ⟨hx, h3⟩ := h3.resolve_left hm
  have hsz : H1.size = H.size := by have := hS.1; omega
  exact ⟨h1.stored (List.getElem?_eq_some_iff.mp hk).1 hP hD hsz, pm_S_trans h2 hS, Or.inr ⟨hx, by rw [hsz]; exact h3⟩, by rw [List.length_set]; exact h4, by rw [pm_slt_set hk hz]; exact h5⟩
theorem pm_At.made {s : State} {D : va_G} {cA : Nat → ClassId} {A : Nat → Prop} {ad : Nat → Nat} {m hb sb x : Nat} {h : pm_H} {H H1 : Heap} {locs : List Loc} {cells slots : Nat} {c : pm_C} (hA : pm_At s D cA A ad m hb sb x h H locs cells slots) (hAs : ∀ q : Nat, s.heap.size ≤ q → A q) (hz : H1.size = H.size + 1) (ho : ∀ q, q < H.size → H1[q]? = H[q]?) (hc : va_at D vwCl (H.size, pm_re ad cA c) H1) : pm_At s D cA A ad m hb sb x (h ++ [c]) H1 locs (cells + 1) (slots + pm_sz c) := by
  obtain ⟨h1, h2, h3, h4, h5⟩ := hA
  refine ⟨h1.made (hAs _ h2.1) hz ho hc, ⟨by have := h2.1; omega, fun q hq hn => (ho q (Nat.lt_of_lt_of_le hq h2.1)).trans (h2.2.1 q hq hn), h2.2.2⟩, ?_, by rw [List.length_append]; show cells + 1 + hb = h.length + 1 + x; omega, by rw [pm_slt_push]; omega⟩
  rcases h3 with h3 | ⟨hx, h3⟩
  · exact Or.inl h3
  · exact Or.inr ⟨hx, by omega⟩
theorem pm_blt {a b : Nat} (h : Nat.blt a b = true) : a < b := Nat.le_of_ble_eq_true h
theorem pm_cond_true {b : Bool} {K : pm_R} {o : pm_H × (Option Value ⊕ Unit)} (h : cond b K none = some o) : b = true ∧ K = some o := by
  cases b with
  | false => cases h
  | true => exact ⟨rfl, h⟩
theorem pm_cond_false {b : Bool} {K : pm_R} {o : pm_H × (Option Value ⊕ Unit)} (h : cond b none K = some o) : b = false ∧ K = some o := by
  cases b with
  | false => exact ⟨rfl, h⟩
  | true => cases h
theorem pm_fv_eq (v : Value) (k : Value → pm_R) : pm_fv v k = k v := by
  unfold pm_fv
  split
  · rw [pm_fi_eq]
  · rw [pm_fl_eq]
  · rfl
section PmH
variable {p : Program} {l : Launch} {e : Env} {R : Room} {s : State} {mid : MethodId} {args : Array Value} {below : List Frame} {meth : Method} {c : Code} {H : Heap} {locs : List Loc} {cells slots : Nat} {Q : State → Prop}
variable {D : va_G} {cA : Nat → ClassId} {A : Nat → Prop} {ad : Nat → Nat} {X : List (Nat × List Value)} {m : Nat} {E : pm_M} {y : pm_Hd} {hb sb x : Nat} {h : pm_H}
variable {d pc len : Nat} {ls : pm_L} {st : List Value} {ih : pm_I} {o : pm_H × (Option Value ⊕ Unit)}
theorem pm_jLdcI {ix n : Nat} (F : pm_Fr p s mid args meth c D cA A ad X m E y) (hl : pm_get (pm_lnk E.2.2.1) ix = some (8, n, 0, 0) ∨ ∃ b z, pm_get (pm_lnk E.2.2.1) ix = some (8, n, b, z)) : (Cond.constant (pm_nm E.2.2.1) ix (Int32.ofNat n)).before args s = true := by
  obtain ⟨-, -, -, -, hw, -⟩ := F
  have key : ∀ b z, pm_get (pm_lnk E.2.2.1) ix = some (8, n, b, z) → (Cond.constant (pm_nm E.2.2.1) ix (Int32.ofNat n)).before args s = true := by
    intro b z hg
    obtain ⟨i, hi⟩ := pm_link hg
    have hi : decide (tables_1[i]? = some (.constant (pm_nm E.2.2.1) ix (Int32.ofNat n))) = true := hi
    exact hw _ (pm_W0_at i (of_decide_eq_true hi) rfl)
  rcases hl with h | ⟨b, z, h⟩
  · exact key _ _ h
  · exact key _ _ h
theorem pm_ldcJ {ix n b z : Nat} (F : pm_Fr p s mid args meth c D cA A ad X m E y) (hg : pm_get (pm_lnk E.2.2.1) ix = some (9, n, b, z)) : (Cond.constantLong (pm_nm E.2.2.1) ix (Int64.ofNat n)).before args s = true := by
  obtain ⟨-, -, -, -, hw, -⟩ := F
  obtain ⟨i, hi⟩ := pm_link hg
  have hi : decide (tables_1[i]? = some (.constantLong (pm_nm E.2.2.1) ix (Int64.ofNat n))) = true := hi
  exact hw _ (pm_W0_at i (of_decide_eq_true hi) rfl)
/-- a field's link -/
theorem pm_fld {ix ci k t : Nat} (F : pm_Fr p s mid args meth c D cA A ad X m E y) (hg : pm_get (pm_lnk E.2.2.1) ix = some (0, ci, k, t)) : ∃ (C : String) (T : u_T) (N : Nat), vwCl[ci]? = some (C, T, N) ∧ k < N ∧ (Cond.fieldLink (pm_nm E.2.2.1) ix (T k).1 (T k).2.1 (T k).2.2.1).before args s = true ∧ pm_tyok t (parseFieldDescriptor (T k).2.2.1) = true ∧ (T k).1 = pm_nm ci := by
  obtain ⟨-, -, -, -, hw, -⟩ := F
  obtain ⟨i, hi⟩ := pm_link hg
  have hi : (match vwCl[ci]? with
    | some r => Nat.blt k r.2.2 && (decide (tables_1[i]? = some (.fieldLink (pm_nm E.2.2.1) ix (r.2.1 k).1 (r.2.1 k).2.1 (r.2.1 k).2.2.1)) && (pm_tyok t (parseFieldDescriptor (r.2.1 k).2.2.1) && (decide ((r.2.1 k).1 = r.1) && decide (r.1 = pm_nm ci))))
    | none => false) = true := hi
  split at hi
  · rename_i r hr
    obtain ⟨C, T, N⟩ := r
    simp only [Bool.and_eq_true, decide_eq_true_eq] at hi
    obtain ⟨q1, q2, q3, q4, q5⟩ := hi
    exact ⟨C, T, N, hr, pm_blt q1, hw _ (pm_W0_at i q2 rfl), q3, q4.trans q5⟩
  · cases hi
theorem pm_jGet {ix : Nat} (F : pm_Fr p s mid args meth c D cA A ad X m E y) (hA : pm_At s D cA A ad m hb sb x h H locs cells slots) (hd : decode (pm_byt y.2.1) pc = .ok (.getfield ix, 3))
    (hK : ∀ q ls st, ih d h m q ls st = some o → pm_J p l e R s mid args below meth c H locs cells slots Q ad E.2.1 q ls st) (hr : pm_gGet ix ih d h m E.2.2.1 pc 3 ls st = some o) : pm_J p l e R s mid args below meth c H locs cells slots Q ad E.2.1 pc ls st := by
  intro LS hl
  unfold pm_gGet at hr
  split at hr
  · rename_i a r
    split at hr
    · rename_i ci k t cj fs hg hc
      replace hr := pm_cond_true hr
      obtain ⟨hb1, hr⟩ := hr
      have e1 : ci = cj := Nat.eq_of_beq_eq_true hb1
      subst e1
      split at hr
      · rename_i v hv
        rw [pm_fn_eq] at hr
        rw [pm_nth_eq] at hv
        obtain ⟨C, T, N, f1, f2, f3, f4, f5⟩ := pm_fld F hg
        obtain ⟨k0, rfl, -, hk0⟩ := pm_cell_some hc
        obtain ⟨hx, hbc, hml, hown, hw, hCx, -⟩ := F
        exact va_get (own := pm_nm E.2.2.1) (ref := (T k).1) (C := C) (T := T) (N := N) (Ts := pm_W0) hx hbc hw (pm_cls f1).1 hown hCx.1 hA.1.1 k0 (pm_ws_at hk0) f1 k f2 f3 (fun _ q => q) (v := pm_rv ad v) (by rw [List.getElem?_map, hv]; rfl) hd (hK _ _ _ hr LS hl)
      · cases hr
    · cases hr
  · cases hr
theorem pm_fit_ok {t : Nat} {ty : FieldType} {v : Value} (h1 : pm_fit t v = true) (h2 : pm_tyok t (some ty) = true) : narrow ty (pm_rv ad v) = pm_rv ad v ∧ fits ty (pm_rv ad v) = true := by
  match t, h1, h2 with
  | 0, h1, h2 =>
    cases ty <;> first | (cases h2; done) | skip
    cases v <;> first | (cases h1; done) | exact ⟨rfl, rfl⟩
  | 1, h1, h2 =>
    cases ty <;> first | (cases h2; done) | skip
    cases v with
    | int z =>
      have h3 : (decide (z = 0) || decide (z = 1)) = true := h1
      simp only [Bool.or_eq_true, decide_eq_true_eq] at h3
      rcases h3 with rfl | rfl
      · exact ⟨by show narrow .boolean (.int 0) = .int 0; decide, by show fits .boolean (.int 0) = true; decide⟩
      · exact ⟨by show narrow .boolean (.int 1) = .int 1; decide, by show fits .boolean (.int 1) = true; decide⟩
    | _ => cases h1
  | 2, h1, h2 =>
    cases ty <;> first | (cases h2; done) | skip
    cases v <;> first | (cases h1; done) | exact ⟨rfl, rfl⟩
  | 3, h1, h2 =>
    cases ty <;> first | (cases h2; done) | skip
    all_goals cases v <;> first | (cases h1; done) | exact ⟨rfl, rfl⟩
  | n + 4, h1, h2 => cases v <;> cases h1
theorem pm_jPut {ix : Nat} (F : pm_Fr p s mid args meth c D cA A ad X m E y) (hA : pm_At s D cA A ad m hb sb x h H locs cells slots) (hd : decode (pm_byt y.2.1) pc = .ok (.putfield ix, 3)) (hm : m ≠ 309)
    (hfin : ∀ ci k t C T N, pm_get (pm_lnk E.2.2.1) ix = some (0, ci, k, t) → vwCl[ci]? = some (C, T, N) → (T k).2.2.2 = true → ci = E.2.2.1 ∧ y.1.name = "<init>")
    (hK : ∀ h1 H1 locs1 q ls st, pm_At s D cA A ad m hb sb x h1 H1 locs1 cells slots → ih d h1 m q ls st = some o → pm_J p l e R s mid args below meth c H1 locs1 cells slots Q ad E.2.1 q ls st) (hr : pm_gPut ix ih d h m E.2.2.1 pc 3 ls st = some o) : pm_J p l e R s mid args below meth c H locs cells slots Q ad E.2.1 pc ls st := by
  intro LS hl
  unfold pm_gPut at hr
  split at hr
  · rename_i v a r
    split at hr
    · rename_i ci k t cj fs hg hc
      replace hr := pm_cond_true hr
      obtain ⟨hb1, hr⟩ := hr
      have e1 : ci = cj := Nat.eq_of_beq_eq_true hb1
      subst e1
      replace hr := pm_cond_true hr
      obtain ⟨hb2, hr⟩ := hr
      replace hr := pm_cond_true hr
      obtain ⟨hb3, hr⟩ := hr
      rw [pm_len_eq] at hb2
      rw [pm_fv_eq, pm_fn_eq] at hr
      obtain ⟨C, T, N, f1, f2, f3, f4, f5⟩ := pm_fld F hg
      obtain ⟨k0, rfl, e2, hk0⟩ := pm_cell_some hc
      rw [e2, pm_set_eq, pm_set_eq] at hr
      have hlt : k < fs.length := pm_blt hb2
      obtain ⟨hx, hbc, hml, hown, hw, hCx, hnm, -⟩ := F
      obtain ⟨g1, ⟨ty0, g2⟩, g3, -⟩ := pm_cls f1
      rw [g2 k f2] at f4
      obtain ⟨n1, n2⟩ := pm_fit_ok (ad := ad) hb3 f4
      have hgo : ∀ (H1 : Heap) (locs1 : List Loc), va_P D vwCl ((pm_ws ad cA h).set k0 (ad (16 + k0), .inr (ci, (fs.map (pm_rv ad)).set k (pm_rv ad v)))) H1 → va_D A ((pm_ws ad cA h).set k0 (ad (16 + k0), .inr (ci, (fs.map (pm_rv ad)).set k (pm_rv ad v)))) → va_S A H H1 locs1 → W p l e R s mid args below meth c H1 locs1 cells slots Q (F0 mid (pc + 3) LS (r.map (pm_rv ad))) := by
        intro H1 locs1 hP1 hD1 hS1
        have e3 : (.inr (ci, (fs.map (pm_rv ad)).set k (pm_rv ad v)) : va_E) = pm_re ad cA (.inr (ci, fs.set k v)) := by
          show _ = Sum.inr (ci, (fs.set k v).map (pm_rv ad))
          rw [List.map_set]
        rw [e3] at hP1 hD1
        refine pm_up fun hup => ?_
        exact hK _ H1 locs1 _ _ _ (hA.stored hm hk0 (by show (fs.set k v).length = fs.length; simp) hP1 hD1 hS1 hup) hr LS hl
      have hlen : k < (fs.map (pm_rv ad)).length := by rw [List.length_map]; exact hlt
      cases hfi : (T k).2.2.2 with
      | false => exact va_put (own := pm_nm E.2.2.1) (ref := (T k).1) (C := C) (T := T) (N := N) (Ts := pm_W0) (ty := ty0 k) hx hbc hw g1 ty0 g2 g3 hown hCx.1 hA.1.1 hA.1.2.1 (pm_S_self hA.2.1) k0 (pm_ws_at hk0) f1 k f2 f3 (fun _ q => q) hfi (g2 k f2) n1 n2 hlen hd hgo
      | true =>
        obtain ⟨q1, q2⟩ := hfin ci k t C T N hg f1 hfi
        exact va_putF (own := pm_nm E.2.2.1) (ref := (T k).1) (C := C) (T := T) (N := N) (Ts := pm_W0) (ty := ty0 k) hx hbc hw g1 ty0 g2 g3 hown hCx.1 hA.1.1 hA.1.2.1 (pm_S_self hA.2.1) k0 (pm_ws_at hk0) f1 k f2 f3 (fun _ q => q) hfi (hnm.trans q2) (by rw [f5, q1]) (g2 k f2) n1 n2 hlen hd hgo
    · cases hr
  · cases hr
end PmH
end
