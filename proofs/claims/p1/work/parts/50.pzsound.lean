/-! the number machine, whole: one of its ways is what the picture machine does -/
theorem pz_enc_get {e : pm_M} {pc : Nat} {q : pz_I} (h : pm_get (pz_encM e) pc = some q) : ∃ i len, pm_get e.2.2.2.2 pc = some (i, len) ∧ q = pz_enc e.2.1 e.2.2.1 pc i len := by
  unfold pm_get at h ⊢
  rw [pm_nth_eq] at h ⊢
  unfold pz_encM at h
  rw [List.getElem?_map] at h
  cases hc : e.2.2.2.2[pc / 16]? with
  | none => rw [hc] at h; cases h
  | some c =>
    rw [hc] at h
    have key : ∀ l : List (Nat × Instr × Nat), pm_fnd pc (l.map fun q => (q.1, pz_enc e.2.1 e.2.2.1 q.1 q.2.1 q.2.2)) = some q → ∃ i len, pm_fnd pc l = some (i, len) ∧ q = pz_enc e.2.1 e.2.2.1 pc i len := by
      intro l
      induction l with
      | nil => intro h; cases h
      | cons a l ihl =>
        intro h
        have h : cond (Nat.beq a.1 pc) (some (pz_enc e.2.1 e.2.2.1 a.1 a.2.1 a.2.2)) (pm_fnd pc (l.map fun q => (q.1, pz_enc e.2.1 e.2.2.1 q.1 q.2.1 q.2.2))) = some q := h
        have e2 : pm_fnd pc (a :: l) = cond (Nat.beq a.1 pc) (some a.2) (pm_fnd pc l) := rfl
        rw [e2]
        cases hb : Nat.beq a.1 pc with
        | true =>
          rw [hb] at h
          have hb := Nat.eq_of_beq_eq_true hb
          refine ⟨a.2.1, a.2.2, rfl, ?_⟩
          rw [← hb]
          exact (Option.some.inj h).symm
        | false =>
          rw [hb] at h
          exact ihl h
    exact key c h
theorem pz_Mt {m' : Nat} {M' : pz_M} (h : pm_get pz_mt m' = some M') : pz_vm M' ∧ M'.1 = m' := by
  obtain ⟨c, hc, hm⟩ := pm_get_mem h
  have h1 := List.all_eq_true.mp (List.all_eq_true.mp pz_cks c hc) _ hm
  unfold pz_ckM at h1
  dsimp only at h1
  split at h1
  · rename_i e he
    simp only [Bool.and_eq_true] at h1
    obtain ⟨h1, h2, h3, h4, h5⟩ := h1
    have h1 := Nat.eq_of_beq_eq_true h1
    refine ⟨⟨e, by rw [h1]; exact he, Nat.eq_of_beq_eq_true h2, Nat.eq_of_beq_eq_true h3, Nat.eq_of_beq_eq_true h4, pz_eq_T (fun x y q => pz_eq_T (fun x y q => ?_) q) h5⟩, h1⟩
    unfold pz_eqI at q
    simp only [Bool.and_eq_true] at q
    obtain ⟨a1, a2, a3, a4, a5, a6⟩ := q
    exact Prod.ext (Nat.eq_of_beq_eq_true a1) (Prod.ext (Nat.eq_of_beq_eq_true a2) (Prod.ext (Nat.eq_of_beq_eq_true a3) (Prod.ext (Nat.eq_of_beq_eq_true a4) (Prod.ext (Nat.eq_of_beq_eq_true a5) (pz_eq_T (fun x y q => Nat.eq_of_beq_eq_true q) a6)))))
  · cases h1
theorem pz_hdk : pm_mt.all (fun c => c.all (fun q => (pm_get pm_hds q.1).isSome)) = true := by decide +kernel
theorem pz_hd {m : Nat} {e : pm_M} (h : pm_ent m = some e) : ∃ y, pm_get pm_hds m = some y := by
  obtain ⟨c, hc, hm⟩ := pm_get_mem h
  have h1 := List.all_eq_true.mp (List.all_eq_true.mp pz_hdk c hc) _ hm
  exact Option.isSome_iff_exists.mp h1
theorem pz_nat32 (x : Int32) (V : pz_V) : pz_v V (8 * x.toBitVec.toNat) = .int x := by rw [pz_vi, pm_i_nat]
theorem pz_nat64 (x : Int64) (V : pz_V) : pz_v V (8 * x.toBitVec.toNat + 1) = .long x := by rw [pz_vl, pm_l_nat]
theorem pz_tgt_or {pc : Nat} {off : Int} {k : Nat → pz_I} {len : Nat} : (∃ t, (pc : Int) + off = .ofNat t ∧ pz_tgt pc off k len = k t) ∨ pz_tgt pc off k len = pz_bad len := by
  unfold pz_tgt
  split
  · rename_i t ht
    exact Or.inl ⟨t, ht, rfl⟩
  · exact Or.inr rfl
section PzF
variable {V : pz_V} {ih : pz_J} {x : pm_I} {C : pz_E} {d : Nat} {h : pz_H} {M : pz_M} {pc L S : Nat} {st : List Nat} {os : List pz_O} {X : List (Nat × List Value)} {Z : pz_Z}
noncomputable def pz_do (S : Nat) (Z : pz_Z) (q : pz_I) : pz_G := fun ih C d h M pc _ L st => pz_dsp S Z q.1 q.2.1 q.2.2.1 q.2.2.2.2 ih C d h M pc q.2.2.2.1 L st
theorem pz_bad_no {len : Nat} {P : Prop} (hr : pz_do S Z (pz_bad len) ih C d h M pc 0 L st = some os) : P := by
  cases hr
theorem pz_cnd_bad {b : Bool} {q : pz_I} {len : Nat} (hr : pz_do S Z (cond b q (pz_bad len)) ih C d h M pc 0 L st = some os) : b = true ∧ pz_do S Z q ih C d h M pc 0 L st = some os := by
  cases b with
  | true => exact ⟨rfl, hr⟩
  | false => exact pz_bad_no hr
set_option maxHeartbeats 4000000 in
theorem pz_encV_T {how ix : Nat} (hh : how = 1 ∨ how = 2 ∨ how = 3) (hI : ∀ d' M', pz_vm M' → pz_S V ih x d' M') (hZ : pz_ZS V Z x) (hK : pz_S V ih x d M) (hC : pz_k V C) (hr : pz_do S Z (pz_encV how M.2.2.1 ix 3) ih C d h M pc 0 L st = some os) : pz_T V os (pm_gInv X how ix x d (pz_h V h) M.1 M.2.2.1 pc 3 (pz_l V M.2.1 L) (st.map (pz_v V))) := by
  unfold pz_encV at hr
  split at hr
  · rename_i kind m' na ci hl
    rcases pz_c2 (o := some os) (K := pz_do S Z (cond (Nat.beq how (cond (Nat.beq m' 0) 3 2)) (47, m', 0, 3, []) (pz_bad 3)) ih C d h M pc 0 L st) (J := pz_do S Z (cond (Nat.beq kind how) (cond (Nat.beq how 1) (cond (Nat.blt na 16) (44, m', na + 16 * ci, 3, []) (pz_bad 3)) (cond (Nat.beq how 2) (45, m', na, 3, []) (cond (Nat.beq how 3) (46, m', na, 3, []) (pz_bad 3)))) (cond (Nat.beq kind 14 && (Nat.beq how 2 && Nat.beq M.2.2.1 13)) (48, m', na, 3, []) (pz_bad 3))) ih C d h M pc 0 L st) (b := Nat.beq kind 12) (by cases hb : Nat.beq kind 12 <;> rw [hb] at hr <;> exact hr) with ⟨hk, h1⟩ | ⟨hk, h1⟩
    · have hk := Nat.eq_of_beq_eq_true hk
      subst hk
      obtain ⟨hhow, h2⟩ := pz_cnd_bad h1
      unfold pm_gInv
      rw [hl]
      dsimp only
      rw [show Nat.beq 12 12 = true from rfl, cond_true, hhow, cond_true]
      have h2 : pz_dP m' ih C d h M pc 3 L st = some os := h2
      unfold pz_dP at h2
      rcases pz_c2 (o := some os) (K := pz_gP0 ih C d h M pc 3 L st) (J := (cond (Nat.beq m' 6) pz_gP6 (cond (Nat.beq m' 5) pz_gP5 (cond (Nat.beq m' 2) pz_gP2 (cond (Nat.beq m' 4) pz_gP4 pz_no)))) ih C d h M pc 3 L st) (b := Nat.beq m' 0) (by cases hb : Nat.beq m' 0 <;> rw [hb] at h2 <;> exact h2) with ⟨g, h3⟩ | ⟨-, h3⟩
      · have g := Nat.eq_of_beq_eq_true g
        subst g
        exact pz_tP0 (X := X) hK hC h3
      rcases pz_c2 (o := some os) (K := pz_gP6 ih C d h M pc 3 L st) (J := (cond (Nat.beq m' 5) pz_gP5 (cond (Nat.beq m' 2) pz_gP2 (cond (Nat.beq m' 4) pz_gP4 pz_no))) ih C d h M pc 3 L st) (b := Nat.beq m' 6) (by cases hb : Nat.beq m' 6 <;> rw [hb] at h3 <;> exact h3) with ⟨g, h4⟩ | ⟨-, h4⟩
      · have g := Nat.eq_of_beq_eq_true g
        subst g
        exact pz_tP6 (X := X) hK hC h4
      rcases pz_c2 (o := some os) (K := pz_gP5 ih C d h M pc 3 L st) (J := (cond (Nat.beq m' 2) pz_gP2 (cond (Nat.beq m' 4) pz_gP4 pz_no)) ih C d h M pc 3 L st) (b := Nat.beq m' 5) (by cases hb : Nat.beq m' 5 <;> rw [hb] at h4 <;> exact h4) with ⟨g, h5⟩ | ⟨-, h5⟩
      · have g := Nat.eq_of_beq_eq_true g
        subst g
        exact pz_tP5 (X := X) hK hC h5
      rcases pz_c2 (o := some os) (K := pz_gP2 ih C d h M pc 3 L st) (J := (cond (Nat.beq m' 4) pz_gP4 pz_no) ih C d h M pc 3 L st) (b := Nat.beq m' 2) (by cases hb : Nat.beq m' 2 <;> rw [hb] at h5 <;> exact h5) with ⟨g, h6⟩ | ⟨-, h6⟩
      · have g := Nat.eq_of_beq_eq_true g
        subst g
        exact pz_tP2 (X := X) hK hC h6
      rcases pz_c2 (o := some os) (K := pz_gP4 ih C d h M pc 3 L st) (J := pz_no ih C d h M pc 3 L st) (b := Nat.beq m' 4) (by cases hb : Nat.beq m' 4 <;> rw [hb] at h6 <;> exact h6) with ⟨g, h7⟩ | ⟨-, h7⟩
      · have g := Nat.eq_of_beq_eq_true g
        subst g
        exact pz_tP4 (X := X) hK hC h7
      · cases h7
    · have n12 : kind ≠ 12 := fun q => by rw [q] at hk; cases hk
      rcases pz_c2 (o := some os) (K := pz_do S Z (cond (Nat.beq how 1) (cond (Nat.blt na 16) (44, m', na + 16 * ci, 3, []) (pz_bad 3)) (cond (Nat.beq how 2) (45, m', na, 3, []) (cond (Nat.beq how 3) (46, m', na, 3, []) (pz_bad 3)))) ih C d h M pc 0 L st) (J := pz_do S Z (cond (Nat.beq kind 14 && (Nat.beq how 2 && Nat.beq M.2.2.1 13)) (48, m', na, 3, []) (pz_bad 3)) ih C d h M pc 0 L st) (b := Nat.beq kind how) (by cases hb : Nat.beq kind how <;> rw [hb] at h1 <;> exact h1) with ⟨hkh, h2⟩ | ⟨hkh, h2⟩
      · have hkh := Nat.eq_of_beq_eq_true hkh
        subst hkh
        rcases hh with rfl | rfl | rfl
        · obtain ⟨hna, h3⟩ := pz_cnd_bad (show pz_do S Z (cond (Nat.blt na 16) (44, m', na + 16 * ci, 3, []) (pz_bad 3)) ih C d h M pc 0 L st = some os from h2)
          have hna := pm_blt hna
          have h3 : pz_gInvV Z m' ((na + 16 * ci) % 16) (100 + (na + 16 * ci) / 16) ih C d h M pc 3 L st = some os := h3
          rw [show (na + 16 * ci) % 16 = na by omega, show (na + 16 * ci) / 16 = ci by omega] at h3
          exact pz_tInvV hI hZ (fun _ _ => pz_Mt) hK hC hl h3
        · have h3 : pz_gInv Z m' na ih C d h M pc 3 L st = some os := h2
          exact pz_tInv hI hZ (fun _ _ => pz_Mt) hK hC hl h3
        · have h3 : pz_gInvS Z m' na ih C d h M pc 3 L st = some os := h2
          exact pz_tInvS hI hZ (fun _ _ => pz_Mt) hK hC hl h3
      · obtain ⟨hb, h3⟩ := pz_cnd_bad h2
        simp only [Bool.and_eq_true] at hb
        obtain ⟨b1, b2, b3⟩ := hb
        have b1 := Nat.eq_of_beq_eq_true b1
        have b2 := Nat.eq_of_beq_eq_true b2
        have b3 := Nat.eq_of_beq_eq_true b3
        subst b1
        subst b2
        have h3 : pz_gInvH Z m' na ih C d h M pc 3 L st = some os := h3
        exact pz_tInvH hI hZ (fun _ _ => pz_Mt) hK hC b3 hl h3
  · exact pz_bad_no hr
set_option maxHeartbeats 8000000 in
theorem pz_one {i : Instr} {len : Nat} (h7 : pz_sym V) (hX : pz_X V S X) (hM : pz_vm M) (hI : ∀ d' M', pz_vm M' → pz_S V ih x d' M') (hZ : pz_ZS V Z x) (hC : pz_k V C) (hln : (Nat.beq (pm_ln i) 0 || Nat.beq (pm_ln i) len) = true) (hr : pz_do S Z (pz_enc M.2.1 M.2.2.1 pc i len) ih C d h M pc 0 L st = some os) : pz_T V os (pm_dsp X i x d (pz_h V h) M.1 M.2.2.1 pc len (pz_l V M.2.1 L) (st.map (pz_v V))) := by
  have hK : pz_S V ih x d M := hI d M hM
  cases i with
  | iconst n =>
    have hr : pz_gC (8 * (Int32.ofInt n).toBitVec.toNat) ih C d h M pc len L st = some os := hr
    exact pz_tC hK hC (pz_nat32 _ V) hr
  | bipush n =>
    have hr : pz_gC (8 * (Int8.ofInt n).toInt32.toBitVec.toNat) ih C d h M pc len L st = some os := hr
    exact pz_tC hK hC (pz_nat32 _ V) hr
  | sipush n =>
    have hr : pz_gC (8 * (Int16.ofInt n).toInt32.toBitVec.toNat) ih C d h M pc len L st = some os := hr
    exact pz_tC hK hC (pz_nat32 _ V) hr
  | lconst n =>
    have hr : pz_gC (8 * (Int64.ofNat n.val).toBitVec.toNat + 1) ih C d h M pc len L st = some os := hr
    exact pz_tC hK hC (pz_nat64 _ V) hr
  | ldc ix =>
    have hr : pz_do S Z (match pm_get (pm_lnk M.2.2.1) ix with
      | some (8, n, _, _) => (0, 8 * (Int32.ofNat n).toBitVec.toNat, 0, len, [])
      | some (10, a, _, _) => (0, 8 * a + 2, 0, len, [])
      | _ => pz_bad len) ih C d h M pc 0 L st = some os := hr
    show pz_T V os (pm_gLdc ix x d (pz_h V h) M.1 M.2.2.1 pc len (pz_l V M.2.1 L) (st.map (pz_v V)))
    unfold pm_gLdc
    split at hr
    · rename_i n b z hl
      rw [hl]
      have hr : pz_gC (8 * (Int32.ofNat n).toBitVec.toNat) ih C d h M pc len L st = some os := hr
      exact pz_tC hK hC (pz_nat32 _ V) hr
    · rename_i a b z hl
      rw [hl]
      have hr : pz_gC (8 * a + 2) ih C d h M pc len L st = some os := hr
      exact pz_tC hK hC (pz_vr V a) hr
    · exact pz_bad_no hr
  | ldc_w ix =>
    have hr : pz_do S Z (match pm_get (pm_lnk M.2.2.1) ix with
      | some (8, n, _, _) => (0, 8 * (Int32.ofNat n).toBitVec.toNat, 0, len, [])
      | _ => pz_bad len) ih C d h M pc 0 L st = some os := hr
    show pz_T V os (pm_gLdw ix x d (pz_h V h) M.1 M.2.2.1 pc len (pz_l V M.2.1 L) (st.map (pz_v V)))
    unfold pm_gLdw
    split at hr
    · rename_i n b z hl
      rw [hl]
      have hr : pz_gC (8 * (Int32.ofNat n).toBitVec.toNat) ih C d h M pc len L st = some os := hr
      exact pz_tC hK hC (pz_nat32 _ V) hr
    · exact pz_bad_no hr
  | ldc2_w ix =>
    have hr : pz_do S Z (match pm_get (pm_lnk M.2.2.1) ix with
      | some (9, n, _, _) => (0, 8 * (Int64.ofNat n).toBitVec.toNat + 1, 0, len, [])
      | _ => pz_bad len) ih C d h M pc 0 L st = some os := hr
    show pz_T V os (pm_gLd2 ix x d (pz_h V h) M.1 M.2.2.1 pc len (pz_l V M.2.1 L) (st.map (pz_v V)))
    unfold pm_gLd2
    split at hr
    · rename_i n b z hl
      rw [hl]
      have hr : pz_gC (8 * (Int64.ofNat n).toBitVec.toNat + 1) ih C d h M pc len L st = some os := hr
      exact pz_tC hK hC (pz_nat64 _ V) hr
    · exact pz_bad_no hr
  | getstatic ix =>
    have hr : pz_do S Z (match pm_get (pm_lnk M.2.2.1) ix with
      | some (11, a, _, _) => (0, 8 * a + 2, 0, len, [])
      | _ => pz_bad len) ih C d h M pc 0 L st = some os := hr
    show pz_T V os (pm_gSta ix x d (pz_h V h) M.1 M.2.2.1 pc len (pz_l V M.2.1 L) (st.map (pz_v V)))
    unfold pm_gSta
    split at hr
    · rename_i a b z hl
      rw [hl]
      have hr : pz_gC (8 * a + 2) ih C d h M pc len L st = some os := hr
      exact pz_tC hK hC (pz_vr V a) hr
    · exact pz_bad_no hr
  | iload k =>
    obtain ⟨hk, hr⟩ := pz_cnd_bad (show pz_do S Z (cond (Nat.blt k M.2.1) (1, k, 0, len, []) (pz_bad len)) ih C d h M pc 0 L st = some os from hr)
    exact pz_tIld hK hC (pm_blt hk) (show pz_gIld k ih C d h M pc len L st = some os from hr)
  | iload_n k =>
    obtain ⟨hk, hr⟩ := pz_cnd_bad (show pz_do S Z (cond (Nat.blt k.val M.2.1) (1, k.val, 0, len, []) (pz_bad len)) ih C d h M pc 0 L st = some os from hr)
    exact pz_tIld hK hC (pm_blt hk) (show pz_gIld k.val ih C d h M pc len L st = some os from hr)
  | aload k =>
    obtain ⟨hk, hr⟩ := pz_cnd_bad (show pz_do S Z (cond (Nat.blt k M.2.1) (2, k, 2, len, []) (pz_bad len)) ih C d h M pc 0 L st = some os from hr)
    exact pz_tAld hK hC (pm_blt hk) (show pz_gAld k 2 ih C d h M pc len L st = some os from hr)
  | aload_n k =>
    obtain ⟨hk, hr⟩ := pz_cnd_bad (show pz_do S Z (cond (Nat.blt k.val M.2.1) (2, k.val, 2, len, []) (pz_bad len)) ih C d h M pc 0 L st = some os from hr)
    exact pz_tAld hK hC (pm_blt hk) (show pz_gAld k.val 2 ih C d h M pc len L st = some os from hr)
  | lload k =>
    obtain ⟨hk, hr⟩ := pz_cnd_bad (show pz_do S Z (cond (Nat.blt k M.2.1) (2, k, 1, len, []) (pz_bad len)) ih C d h M pc 0 L st = some os from hr)
    exact pz_tLld hK hC (pm_blt hk) (show pz_gAld k 1 ih C d h M pc len L st = some os from hr)
  | lload_n k =>
    obtain ⟨hk, hr⟩ := pz_cnd_bad (show pz_do S Z (cond (Nat.blt k.val M.2.1) (2, k.val, 1, len, []) (pz_bad len)) ih C d h M pc 0 L st = some os from hr)
    exact pz_tLld hK hC (pm_blt hk) (show pz_gAld k.val 1 ih C d h M pc len L st = some os from hr)
  | istore k =>
    obtain ⟨hk, hr⟩ := pz_cnd_bad (show pz_do S Z (cond (Nat.blt k M.2.1) (3, k, 0, len, []) (pz_bad len)) ih C d h M pc 0 L st = some os from hr)
    exact pz_tIst hK hC (pm_blt hk) (show pz_gIst k ih C d h M pc len L st = some os from hr)
  | istore_n k =>
    obtain ⟨hk, hr⟩ := pz_cnd_bad (show pz_do S Z (cond (Nat.blt k.val M.2.1) (3, k.val, 0, len, []) (pz_bad len)) ih C d h M pc 0 L st = some os from hr)
    exact pz_tIst hK hC (pm_blt hk) (show pz_gIst k.val ih C d h M pc len L st = some os from hr)
  | astore k =>
    obtain ⟨hk, hr⟩ := pz_cnd_bad (show pz_do S Z (cond (Nat.blt k M.2.1) (4, k, 0, len, []) (pz_bad len)) ih C d h M pc 0 L st = some os from hr)
    exact pz_tAst hK hC (pm_blt hk) (show pz_gAst k ih C d h M pc len L st = some os from hr)
  | astore_n k =>
    obtain ⟨hk, hr⟩ := pz_cnd_bad (show pz_do S Z (cond (Nat.blt k.val M.2.1) (4, k.val, 0, len, []) (pz_bad len)) ih C d h M pc 0 L st = some os from hr)
    exact pz_tAst hK hC (pm_blt hk) (show pz_gAst k.val ih C d h M pc len L st = some os from hr)
  | lstore k =>
    obtain ⟨hk, hr⟩ := pz_cnd_bad (show pz_do S Z (cond (Nat.blt (k + 1) M.2.1) (5, k, 0, len, []) (pz_bad len)) ih C d h M pc 0 L st = some os from hr)
    exact pz_tLst hK hC (pm_blt hk) (show pz_gLst k ih C d h M pc len L st = some os from hr)
  | lstore_n k =>
    obtain ⟨hk, hr⟩ := pz_cnd_bad (show pz_do S Z (cond (Nat.blt (k.val + 1) M.2.1) (5, k.val, 0, len, []) (pz_bad len)) ih C d h M pc 0 L st = some os from hr)
    exact pz_tLst hK hC (pm_blt hk) (show pz_gLst k.val ih C d h M pc len L st = some os from hr)
  | iinc k n =>
    obtain ⟨hk, hr⟩ := pz_cnd_bad (show pz_do S Z (cond (Nat.blt k M.2.1 && Nat.beq len 3) (6, k, (Int32.ofInt n).toBitVec.toNat, len, []) (pz_bad len)) ih C d h M pc 0 L st = some os from hr)
    rw [Bool.and_eq_true] at hk
    exact pz_tInc hK hC (pm_blt hk.1) (Nat.eq_of_beq_eq_true hk.2) (pm_i_nat _) (show pz_gInc k (Int32.ofInt n).toBitVec.toNat ih C d h M pc len L st = some os from hr)
  | iadd => exact pz_tAdd hK hC (show pz_gAdd ih C d h M pc len L st = some os from hr)
  | isub => exact pz_tSub hK hC (show pz_gSub ih C d h M pc len L st = some os from hr)
  | imul => exact pz_tMul hK hC (show pz_gMul ih C d h M pc len L st = some os from hr)
  | idiv => exact pz_tDiv hK hC (show pz_gDiv ih C d h M pc len L st = some os from hr)
  | irem => exact pz_tRem hK hC (show pz_gRem ih C d h M pc len L st = some os from hr)
  | iand => exact pz_tAnd h7.1 hK hC (show pz_gAnd ih C d h M pc len L st = some os from hr)
  | ladd => exact pz_tLL (f := fun x y => x + y) (g := fun x y => Nat.mod (Nat.add x y) 18446744073709551616) hK hC (fun a b => by show Int64.ofNat ((a + b) % 18446744073709551616) = _; rw [pz_i64, Int64.ofNat_add]) (show pz_gLL (fun x y => Nat.mod (Nat.add x y) 18446744073709551616) ih C d h M pc len L st = some os from hr)
  | lsub => exact pz_tLL (f := fun x y => x - y) (g := fun x y => Nat.mod (Nat.add x (Nat.sub 18446744073709551616 (Nat.mod y 18446744073709551616))) 18446744073709551616) hK hC (fun a b => by show Int64.ofNat ((a + (18446744073709551616 - b % 18446744073709551616)) % 18446744073709551616) = _; rw [pz_i64, Int64.ofNat_add, Int64.ofNat_sub _ _ (by omega), pz_big64, pz_i64, pz_sub64]) (show pz_gLL (fun x y => Nat.mod (Nat.add x (Nat.sub 18446744073709551616 (Nat.mod y 18446744073709551616))) 18446744073709551616) ih C d h M pc len L st = some os from hr)
  | lmul => exact pz_tLL (f := fun x y => x * y) (g := fun x y => Nat.mod (Nat.mul x y) 18446744073709551616) hK hC (fun a b => by show Int64.ofNat ((a * b) % 18446744073709551616) = _; rw [pz_i64, Int64.ofNat_mul]) (show pz_gLL (fun x y => Nat.mod (Nat.mul x y) 18446744073709551616) ih C d h M pc len L st = some os from hr)
  | ldiv => exact pz_tLLz (f := fun x y => x / y) (g := fun x y => Nat.div x y) hK hC (fun a b ha hb => (pz_div64 ha hb).symm) (show pz_gLLz (fun x y => Nat.div x y) ih C d h M pc len L st = some os from hr)
  | lrem => exact pz_tLLz (f := fun x y => x - x / y * y) (g := fun x y => Nat.mod x y) hK hC (fun a b ha hb => (pz_rem64 ha hb).symm) (show pz_gLLz (fun x y => Nat.mod x y) ih C d h M pc len L st = some os from hr)
  | lcmp => exact pz_tCmp hK hC (show pz_gCmp ih C d h M pc len L st = some os from hr)
  | i2l => exact pz_tI2l h7 hK hC (show pz_gI2l ih C d h M pc len L st = some os from hr)
  | dup => exact pz_tDup hK hC (show pz_gDup ih C d h M pc len L st = some os from hr)
  | pop => exact pz_tPop hK hC (show pz_gPop ih C d h M pc len L st = some os from hr)
  | goto off =>
    have hr : pz_do S Z (pz_tgt pc off (fun t => (22, t, 0, len, [])) len) ih C d h M pc 0 L st = some os := hr
    rcases pz_tgt_or (pc := pc) (off := off) (k := fun t => (22, t, 0, len, [])) (len := len) with ⟨t, ht, e⟩ | e
    · rw [e] at hr
      exact pz_tGo hK hC ht (show pz_gGo t ih C d h M pc len L st = some os from hr)
    · rw [e] at hr
      exact pz_bad_no hr
  | ifCond c off =>
    have hr : pz_do S Z (pz_tgt pc off (fun t => (23, pz_c6 c, t, len, [])) len) ih C d h M pc 0 L st = some os := hr
    rcases pz_tgt_or (pc := pc) (off := off) (k := fun t => (23, pz_c6 c, t, len, [])) (len := len) with ⟨t, ht, e⟩ | e
    · rw [e] at hr
      exact pz_tIf hK hC ht (show pz_gIf (pz_c6 c) t ih C d h M pc len L st = some os from hr)
    · rw [e] at hr
      exact pz_bad_no hr
  | if_icmp c off =>
    have hr : pz_do S Z (pz_tgt pc off (fun t => (24, pz_c6 c, t, len, [])) len) ih C d h M pc 0 L st = some os := hr
    rcases pz_tgt_or (pc := pc) (off := off) (k := fun t => (24, pz_c6 c, t, len, [])) (len := len) with ⟨t, ht, e⟩ | e
    · rw [e] at hr
      exact pz_tIf2 hK hC ht (show pz_gIf2 (pz_c6 c) t ih C d h M pc len L st = some os from hr)
    · rw [e] at hr
      exact pz_bad_no hr
  | tableswitch df lo hi offs =>
    have hr : pz_do S Z (match pz_tgs pc offs.toList with
      | some l => pz_tgt pc df (fun t => cond (decide (hi = lo + l.length - 1 ∧ -2147483648 ≤ lo ∧ hi ≤ 2147483647 ∧ lo ≤ hi)) (25, (lo + 2147483648).toNat, t, len, l) (pz_bad len)) len
      | none => pz_bad len) ih C d h M pc 0 L st = some os := hr
    split at hr
    · rename_i l hl
      rcases pz_tgt_or (pc := pc) (off := df) (k := fun t => cond (decide (hi = lo + l.length - 1 ∧ -2147483648 ≤ lo ∧ hi ≤ 2147483647 ∧ lo ≤ hi)) (25, (lo + 2147483648).toNat, t, len, l) (pz_bad len)) (len := len) with ⟨t, ht, e⟩ | e
      · rw [e] at hr
        obtain ⟨hb, hr⟩ := pz_cnd_bad hr
        obtain ⟨q1, q2, -⟩ := of_decide_eq_true hb
        exact pz_tTsw hK hC hl ht q1 q2 rfl (show pz_gTsw (lo + 2147483648).toNat t l ih C d h M pc len L st = some os from hr)
      · rw [e] at hr
        exact pz_bad_no hr
    · exact pz_bad_no hr
  | getfield ix =>
    have hr : pz_do S Z (match pm_get (pm_lnk M.2.2.1) ix with
      | some (0, ci, k, _) => (26, 100 + ci, k, len, [])
      | _ => pz_bad len) ih C d h M pc 0 L st = some os := hr
    split at hr
    · rename_i ci k t hl
      exact pz_tGet hl hK hC (show pz_gGet (100 + ci) k ih C d h M pc len L st = some os from hr)
    · exact pz_bad_no hr
  | putfield ix =>
    have hr : pz_do S Z (match pm_get (pm_lnk M.2.2.1) ix with
      | some (0, ci, k, t) => cond (Nat.blt t 4) (27, 100 + ci, k * 4 + t, len, []) (pz_bad len)
      | _ => pz_bad len) ih C d h M pc 0 L st = some os := hr
    split at hr
    · rename_i ci k t hl
      obtain ⟨ht, hr⟩ := pz_cnd_bad hr
      have ht := pm_blt ht
      have hr : pz_gPut (100 + ci) ((k * 4 + t) / 4) ((k * 4 + t) % 4) ih C d h M pc len L st = some os := hr
      rw [show (k * 4 + t) / 4 = k by omega, show (k * 4 + t) % 4 = t by omega] at hr
      exact pz_tPut ht hl hK hC hr
    · exact pz_bad_no hr
  | new ix =>
    have hr : pz_do S Z (match pm_get (pm_lnk M.2.2.1) ix with
      | some (6, ci, n, _) => (28, ci, n, len, [])
      | some (13, _, _, _) => (49, 0, 0, len, [])
      | _ => pz_bad len) ih C d h M pc 0 L st = some os := hr
    split at hr
    · rename_i ci n b hl
      exact pz_tNew hX hl hK hC (show pz_gNew ci n ih C d h M pc len L st = some os from hr)
    · rename_i a b c hl
      exact pz_tThr hl hC (show pz_gThr ih C d h M pc len L st = some os from hr)
    · exact pz_bad_no hr
  | newarray t =>
    obtain ⟨ht, hr⟩ := pz_cnd_bad (show pz_do S Z (cond (Nat.blt (pm_tc t).1 5) (29, (pm_tc t).1, 0, len, []) (pz_bad len)) ih C d h M pc 0 L st = some os from hr)
    exact pz_tNwa (own := M.2.2.1) (pm_blt ht) hK hC (show pz_gNwa (pm_tc t).1 ih C d h M pc len L st = some os from hr)
  | anewarray ix =>
    have hr : pz_do S Z (match pm_get (pm_lnk M.2.2.1) ix with
      | some (6, ci, _, _) => cond (Nat.beq (5 + ci) 8 || Nat.beq (5 + ci) 12) (30, 5 + ci, 0, len, []) (pz_bad len)
      | _ => pz_bad len) ih C d h M pc 0 L st = some os := hr
    split at hr
    · rename_i ci a b hl
      obtain ⟨hci, hr⟩ := pz_cnd_bad hr
      exact pz_tAnw hl hci hK hC (show pz_gNwa (5 + ci) ih C d h M pc len L st = some os from hr)
    · exact pz_bad_no hr
  | arraylength => exact pz_tLen (own := M.2.2.1) hX hK hC (show pz_gLen S ih C d h M pc len L st = some os from hr)
  | iaload => exact pz_tIal (own := M.2.2.1) hX hK hC (show pz_gIal S ih C d h M pc len L st = some os from hr)
  | baload => exact pz_tBal (own := M.2.2.1) (X := X) hK hC (show pz_gBal ih C d h M pc len L st = some os from hr)
  | laload => exact pz_tLal (own := M.2.2.1) (X := X) hK hC (show pz_gLal ih C d h M pc len L st = some os from hr)
  | aaload => exact pz_tAal (own := M.2.2.1) hK hC (show pz_gAal ih C d h M pc len L st = some os from hr)
  | iastore => exact pz_tIas (own := M.2.2.1) hK hC (show pz_gIas ih C d h M pc len L st = some os from hr)
  | bastore => exact pz_tBas (own := M.2.2.1) hK hC (show pz_gBas ih C d h M pc len L st = some os from hr)
  | lastore => exact pz_tLas (own := M.2.2.1) hK hC (show pz_gLas ih C d h M pc len L st = some os from hr)
  | aastore => exact pz_tAas (own := M.2.2.1) hK hC (show pz_gAas ih C d h M pc len L st = some os from hr)
  | ireturn => exact pz_tRet (x := x) (own := M.2.2.1) (by decide) hM hC (show pz_gRet 0 1 ih C d h M pc len L st = some os from hr)
  | lreturn => exact pz_tRet (x := x) (own := M.2.2.1) (by decide) hM hC (show pz_gRet 2 2 ih C d h M pc len L st = some os from hr)
  | areturn => exact pz_tRet (x := x) (own := M.2.2.1) (by decide) hM hC (show pz_gRet 3 3 ih C d h M pc len L st = some os from hr)
  | return_ => exact pz_tRtv (x := x) (own := M.2.2.1) hM hC (show pz_gRtv ih C d h M pc len L st = some os from hr)
  | lshl => exact pz_tShl h7 hK hC (show pz_gShl ih C d h M pc len L st = some os from hr)
  | land => exact pz_tLan h7 hK hC (show pz_gLan ih C d h M pc len L st = some os from hr)
  | lor => exact pz_tLor h7 hK hC (show pz_gLor ih C d h M pc len L st = some os from hr)
  | invokevirtual ix =>
    have hl := pm_lnE (k := 3) (by decide) hln
    subst hl
    exact pz_encV_T (Or.inl rfl) hI hZ hK hC (show pz_do S Z (pz_encV 1 M.2.2.1 ix 3) ih C d h M pc 0 L st = some os from hr)
  | invokestatic ix =>
    have hl := pm_lnE (k := 3) (by decide) hln
    subst hl
    exact pz_encV_T (Or.inr (Or.inl rfl)) hI hZ hK hC (show pz_do S Z (pz_encV 2 M.2.2.1 ix 3) ih C d h M pc 0 L st = some os from hr)
  | invokespecial ix =>
    have hl := pm_lnE (k := 3) (by decide) hln
    subst hl
    exact pz_encV_T (Or.inr (Or.inr rfl)) hI hZ hK hC (show pz_do S Z (pz_encV 3 M.2.2.1 ix 3) ih C d h M pc 0 L st = some os from hr)
  | _ => exact nomatch (show (none : pz_R) = some os from hr)
end PzF
theorem pz_sound {V : pz_V} {S : Nat} {Z : List pz_Q} {X : List (Nat × List Value)} (h7 : pz_sym V) (hX : pz_X V S X) (hZ : ∀ q ∈ Z, pz_QS V q (pm_x X q.1)) : ∀ (n : Nat) (d : Nat) (M : pz_M), pz_vm M → pz_S V (pz_z S Z n) (pm_x X n) d M
  | 0, d, M, _ => fun C h pc L st os _ hr => nomatch (show (none : pz_R) = some os from hr)
  | n + 1, d, M, hM => fun C h pc L st os hC hr => by
    have hr : pz_F S (n, Z) (pz_z S Z n) C d h M pc L st = some os := hr
    unfold pz_F at hr
    obtain ⟨e, q1, q2, q3, q4, q5⟩ := id hM
    cases hg : pm_get M.2.2.2.2 pc with
    | none => rw [hg] at hr; cases hr
    | some q =>
      rw [hg] at hr
      rw [q5] at hg
      obtain ⟨i, len, g1, g2⟩ := pz_enc_get hg
      obtain ⟨y, hy⟩ := pz_hd q1
      obtain ⟨c1, c2, c3⟩ := pm_code q1 hy g1
      rw [g2, ← q2, ← q3] at hr
      have hT := pz_one (len := len) (i := i) (x := pm_x X n) h7 hX hM (fun d' M' hM' => pz_sound h7 hX hZ n d' M' hM') (fun q hq e => by
        have e : q.1 = n := e
        have h9 := hZ q hq
        rw [e] at h9
        exact h9) hC c2 hr
      show pz_T V os (pm_x X (n + 1) d (pz_h V h) M.1 pc (pz_l V M.2.1 L) (st.map (pz_v V)))
      rw [pm_x_succ]
      unfold pm_F
      rw [q1]
      dsimp only
      rw [g1]
      dsimp only
      rw [← q3]
      exact hT
