/-! soundness: the methods of the String constants -/
section PmS
variable {p : Program} {l : Launch} {e : Env} {R : Room} {s : State} {mid : MethodId} {args : Array Value} {below : List Frame} {meth : Method} {c : Code} {H : Heap} {locs : List Loc} {cells slots : Nat} {Q : State → Prop}
variable {D : va_G} {cA : Nat → ClassId} {A : Nat → Prop} {ad : Nat → Nat} {X : List (Nat × List Value)} {m : Nat} {E : pm_M} {y : pm_Hd} {hb sb x : Nat} {h : pm_H}
variable {d pc len : Nat} {ls : pm_L} {st : List Value} {ih : pm_I} {o : pm_H × (Option Value ⊕ Unit)}
theorem pm_sx_some {a : Nat} {l : List Value} (hx : pm_sx X a = some l) : 4 ≤ a ∧ a < 12 ∧ X[a]? = some (4, l) := by
  unfold pm_sx at hx
  cases hb : (Nat.ble 4 a && Nat.blt a 12) with
  | false => rw [hb] at hx; cases hx
  | true =>
    rw [hb, cond_true] at hx
    rw [Bool.and_eq_true] at hb
    refine ⟨Nat.le_of_ble_eq_true hb.1, pm_blt hb.2, ?_⟩
    rw [pm_nth_eq] at hx
    split at hx
    · rename_i q hq
      cases hc : Nat.beq q.1 4 with
      | false => rw [hc] at hx; cases hx
      | true =>
        rw [hc] at hx
        have h1 : q.2 = l := Option.some.inj hx
        have h2 := Nat.eq_of_beq_eq_true hc
        rw [hq]
        obtain ⟨q1, q2⟩ := q
        dsimp only at h1 h2
        rw [h1, h2]
    · cases hx
theorem pm_ixF_eq (z : Int32) : ∀ (bs : List Int32) (k : Nat), pm_ixF z (bs.map Value.int) k = ps_ixF z bs k
  | [], k => rfl
  | b :: bs, k => by
    have e : pm_ixF z ((b :: bs).map Value.int) k = cond (decide (b = z)) (Int32.ofNat k) (pm_ixF z (bs.map Value.int) (k + 1)) := rfl
    rw [e, pm_ixF_eq z bs (k + 1), ps_ixF]
    by_cases hb : b = z
    · rw [decide_eq_true hb, if_pos hb]; rfl
    · rw [decide_eq_false hb, if_neg hb]; rfl
theorem pm_jStr {ix f a b : Nat} (F : pm_Fr p s mid args meth c D cA A ad X m E y) (hA : pm_At s D cA A ad m hb sb x h H locs cells slots) (hg : pm_get (pm_lnk E.2.2.1) ix = some (15, f, a, b)) (hd1 : decode (pm_byt y.2.1) pc = .ok (.invokevirtual ix, 3))
    (hR : d + 10 ≤ R.frames ∧ 100 * d + 200 ≤ R.locals) (hroom : ∀ (h1 : pm_H) (q : Nat) (ls : pm_L) (st : List Value), ih d h1 m q ls st = some o → h1.length + x ≤ R.cells + hb ∧ pm_slt h1 + 6 * x ≤ R.slots + sb)
    (hK : ∀ h1 H1 locs1 cells1 slots1 q ls st, pm_At s D cA A ad m hb sb x h1 H1 locs1 cells1 slots1 → ih d h1 m q ls st = some o → pm_J p l e R s mid args below meth c H1 locs1 cells1 slots1 Q ad E.2.1 q ls st)
    (hr : pm_str X f (fun h' st' => cond (pm_cat8 st') (pm_fn (pc + 3) fun q => ih d h' m q ls st') none) h st = some o) : pm_J p l e R s mid args below meth c H locs cells slots Q ad E.2.1 pc ls st := by
  obtain ⟨i, hi⟩ := pm_link hg
  have hi : (Nat.ble 7 f && (Nat.ble f 9 && decide (tables_1[i]? = some (.methodLink (pm_nm E.2.2.1) ix (pm_prs f))))) = true := hi
  rw [Bool.and_eq_true, Bool.and_eq_true, decide_eq_true_eq] at hi
  obtain ⟨hf7, hf9, hi⟩ := hi
  have hlk := List.mem_of_getElem? hi
  obtain ⟨hx, hbc, hml, hown, hw, hCx, hnm, he, hyy, hAs⟩ := id F
  have hSx : CallFix p mid c (pm_byt y.2.1) E.2.1 s args pm_W0 (pm_nm E.2.2.1) := ⟨hx, hbc, hml, hown, hw⟩
  have hst := hCx.2.2.2.2.2.2.2.2
  have rooms : ∀ {q : Nat} {ls : pm_L} {st : List Value}, ih d h m q ls st = some o → cells ≤ R.cells ∧ slots ≤ R.slots := by
    intro q ls st hz
    obtain ⟨r1, r2⟩ := hroom _ _ _ _ hz
    have a4 := hA.2.2.2.1
    have a5 := hA.2.2.2.2
    exact ⟨by omega, by omega⟩
  have hK0 : ∀ q ls st, ih d h m q ls st = some o → pm_J p l e R s mid args below meth c H locs cells slots Q ad E.2.1 q ls st := fun q ls st => hK h H locs cells slots q ls st hA
  have hpre : ∀ {a v : Nat} {bs : List Int32} (As : List Value), ps_O A (ad a) v bs s → PreV s H "java/lang/String" (ad a) (ps_P (.ref (ad a) :: As) A (ad a) v bs) As := fun {a v bs} As ho => by
    refine ⟨ps_P_blind, ?_, fun U hU hW => ⟨rfl, hst.1.go hW.alike (by rw [hU]; exact hA.2.1), ho.go hW.alike (by rw [hU]; exact hA.2.1)⟩⟩
    obtain ⟨cell, h1, h2, h3, h4⟩ := ho.1.kept hA.2.1.2.1
    exact ⟨cell, h1, h2, h3⟩
  intro LS hl
  have hf : f = 7 ∨ f = 8 ∨ f = 9 := by
    have := Nat.le_of_ble_eq_true hf7
    have := Nat.le_of_ble_eq_true hf9
    omega
  rcases hf with rfl | rfl | rfl
  · replace hr : pm_t7 X (fun h' st' => cond (pm_cat8 st') (pm_fn (pc + 3) fun q => ih d h' m q ls st') none) h st = some o := hr
    unfold pm_t7 at hr
    split at hr
    · rename_i a r
      split at hr
      · rename_i v hsx
        obtain ⟨g1, g2, g3⟩ := pm_sx_some hsx
        obtain ⟨v0, bs, rfl, e2, e3, e4⟩ := hst.2 a v g1 g2 g3
        rw [pm_fn_eq, pm_len_eq, List.length_map] at hr
        replace hr := pm_cond_true hr
        obtain ⟨hb1, hr⟩ := hr
        rw [pm_fn_eq] at hr
        exact ps_callV (As := []) (n := 0) hSx (ps_len l A (ad a) v0 bs) (by decide +kernel) rfl hlk (by decide +kernel) (by decide +kernel) (by decide +kernel) ⟨rfl, rfl⟩ ⟨by show 1 + 1 ≤ _; omega, by show 8 + (1 + 11) + 20 ≤ _; omega⟩ (hpre [] e4) rfl hl.1 (pm_cat8_rv (ad := ad) (pm_cat8_tl hb1)) hd1 (rooms hr) (hK0 _ _ _ hr LS hl)
      · cases hr
    · cases hr
  · replace hr : pm_t8 X (fun h' st' => cond (pm_cat8 st') (pm_fn (pc + 3) fun q => ih d h' m q ls st') none) h st = some o := hr
    unfold pm_t8 at hr
    split at hr
    · rename_i j a r
      split at hr
      · rename_i v hsx
        obtain ⟨g1, g2, g3⟩ := pm_sx_some hsx
        obtain ⟨v0, bs, rfl, e2, e3, e4⟩ := hst.2 a v g1 g2 g3
        replace hr := pm_cond_false hr
        obtain ⟨hj0, hr⟩ := hr
        have hj0 := of_decide_eq_false hj0
        rw [pm_nth_eq, List.getElem?_map] at hr
        split at hr
        · rename_i z hz
          replace hr := pm_cond_true hr
          obtain ⟨hb1, hr⟩ := hr
          rw [pm_fn_eq] at hr
          obtain ⟨k, hk, rfl⟩ := nI_of hj0
          rw [nI_clamp hk] at hz
          cases hq : bs[k]? with
          | none => rw [hq] at hz; cases hz
          | some w =>
            rw [hq] at hz
            have hw9 : w = z := by cases hz; rfl
            subst hw9
            have hkl : k < bs.length := (List.getElem?_eq_some_iff.mp hq).1
            have hgd : bs.getD k 0 = w := by rw [List.getD_eq_getElem?_getD, hq]; rfl
            have hM := ps_ca l A (ad a) v0 bs k hkl e3
            rw [hgd] at hM
            exact ps_callV (As := [.int (nI k)]) (n := 1) hSx hM (by decide +kernel) rfl hlk (by decide +kernel) (by decide +kernel) (by decide +kernel) ⟨rfl, rfl⟩ ⟨by show 3 + 1 ≤ _; omega, by show 8 + (2 + 11) + 64 ≤ _; omega⟩ (hpre [.int (nI k)] e4) rfl hl.1 (pm_cat8_rv (ad := ad) (pm_cat8_tl hb1)) hd1 (rooms hr) (hK0 _ _ _ hr LS hl)
        · cases hr
      · cases hr
    · cases hr
  · replace hr : pm_t9 X (fun h' st' => cond (pm_cat8 st') (pm_fn (pc + 3) fun q => ih d h' m q ls st') none) h st = some o := hr
    unfold pm_t9 at hr
    split at hr
    · rename_i z a r
      split at hr
      · rename_i v hsx
        obtain ⟨g1, g2, g3⟩ := pm_sx_some hsx
        obtain ⟨v0, bs, rfl, e2, e3, e4⟩ := hst.2 a v g1 g2 g3
        rw [pm_ixF_eq] at hr
        replace hr := pm_cond_true hr
        obtain ⟨hb1, hr⟩ := hr
        rw [pm_fn_eq] at hr
        exact ps_callV (As := [.int z]) (n := 1) hSx (ps_ix l A (ad a) v0 bs z e2 e3) (by decide +kernel) rfl hlk (by decide +kernel) (by decide +kernel) (by decide +kernel) ⟨rfl, rfl⟩ ⟨by show 3 + 1 ≤ _; omega, by show 8 + (2 + 11) + 70 ≤ _; omega⟩ (hpre [.int z] e4) rfl hl.1 (pm_cat8_rv (ad := ad) (pm_cat8_tl hb1)) hd1 (rooms hr) (hK0 _ _ _ hr LS hl)
      · cases hr
    · cases hr
end PmS
