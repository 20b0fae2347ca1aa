section
/-! draws of the class, exactly -/
set_option maxHeartbeats 4000000 in
theorem cm_326_s {X : List (Nat × List Value)} {d : Nat} {h : pm_H} (hd : 1 ≤ d) (I : pw_I h) (x : Int) (hx1 : 0 ≤ x) (hx2 : x ≤ 16383) : pw X d h 326 0 [some (pw_i x)] [] (fun h' v => h = h' ∧ ∃ a : Int, v = .inl (some (pw_i a)) ∧ 0 ≤ a ∧ a ≤ 14 ∧ (a = (pb_n x.toNat 14 : Int))) := by
  have E : pm_ent 326 = some (1, 1, 15, 0, pmc_326) := rfl
  refine pw_ld E (pc' := 1) (st' := [pw_i x]) rfl (fun _ => rfl) ?_
  refine pw_ld E (pc' := 2) (st' := [pw_i x, pw_i x]) rfl (fun _ => rfl) ?_
  refine pw_ld E (pc' := 3) (st' := [pw_i 1, pw_i x, pw_i x]) rfl (fun _ => rfl) ?_
  refine pw_iiE (f := fun x y => (x.toUInt32 >>> (y.toUInt32 &&& Int32.toUInt32 31)).toInt32) (c := x / 2) E (pc' := 4) rfl (fun _ => rfl) (pb_us1 (by omega) (by omega)) ?_
  refine pw_ldcw (a := 1431655765) E (pc' := 7) rfl rfl rfl (by decide) ?_
  refine pw_iiE (f := fun x y => x &&& y) (c := pb_an (x / 2) 1431655765) E (pc' := 8) rfl (fun _ => rfl) (pb_anE (by omega) (by omega) (by decide) (by decide)) ?_
  have hp1 := pb_anB (a := x / 2) (m := 1431655765) (by omega) (by decide)
  refine pw_sub E (pc' := 9) rfl rfl ?_
  refine pw_istn E (pc' := 10) (ls' := [some (pw_i (x - (pb_an (x / 2) 1431655765)))]) rfl rfl rfl rfl ?_
  refine pw_ld E (pc' := 11) (st' := [pw_i (x - (pb_an (x / 2) 1431655765))]) rfl (fun _ => rfl) ?_
  refine pw_ldcw (a := 858993459) E (pc' := 14) rfl rfl rfl (by decide) ?_
  refine pw_iiE (f := fun x y => x &&& y) (c := pb_an (x - (pb_an (x / 2) 1431655765)) 858993459) E (pc' := 15) rfl (fun _ => rfl) (pb_anE (by omega) (by omega) (by decide) (by decide)) ?_
  have hp2 := pb_anB (a := x - (pb_an (x / 2) 1431655765)) (m := 858993459) (by omega) (by decide)
  refine pw_ld E (pc' := 16) (st' := [pw_i (x - (pb_an (x / 2) 1431655765)), pw_i (pb_an (x - (pb_an (x / 2) 1431655765)) 858993459)]) rfl (fun _ => rfl) ?_
  refine pw_ld E (pc' := 17) (st' := [pw_i 2, pw_i (x - (pb_an (x / 2) 1431655765)), pw_i (pb_an (x - (pb_an (x / 2) 1431655765)) 858993459)]) rfl (fun _ => rfl) ?_
  refine pw_iiE (f := fun x y => (x.toUInt32 >>> (y.toUInt32 &&& Int32.toUInt32 31)).toInt32) (c := (x - (pb_an (x / 2) 1431655765)) / 4) E (pc' := 18) rfl (fun _ => rfl) (pb_us2 (by omega) (by omega)) ?_
  refine pw_ldcw (a := 858993459) E (pc' := 21) rfl rfl rfl (by decide) ?_
  refine pw_iiE (f := fun x y => x &&& y) (c := pb_an ((x - (pb_an (x / 2) 1431655765)) / 4) 858993459) E (pc' := 22) rfl (fun _ => rfl) (pb_anE (by omega) (by omega) (by decide) (by decide)) ?_
  have hp3 := pb_anB (a := (x - (pb_an (x / 2) 1431655765)) / 4) (m := 858993459) (by omega) (by decide)
  refine pw_add E (pc' := 23) rfl rfl ?_
  refine pw_istn E (pc' := 24) (ls' := [some (pw_i ((pb_an (x - (pb_an (x / 2) 1431655765)) 858993459) + (pb_an ((x - (pb_an (x / 2) 1431655765)) / 4) 858993459)))]) rfl rfl rfl rfl ?_
  refine pw_ld E (pc' := 25) (st' := [pw_i ((pb_an (x - (pb_an (x / 2) 1431655765)) 858993459) + (pb_an ((x - (pb_an (x / 2) 1431655765)) / 4) 858993459))]) rfl (fun _ => rfl) ?_
  refine pw_ld E (pc' := 26) (st' := [pw_i ((pb_an (x - (pb_an (x / 2) 1431655765)) 858993459) + (pb_an ((x - (pb_an (x / 2) 1431655765)) / 4) 858993459)), pw_i ((pb_an (x - (pb_an (x / 2) 1431655765)) 858993459) + (pb_an ((x - (pb_an (x / 2) 1431655765)) / 4) 858993459))]) rfl (fun _ => rfl) ?_
  refine pw_ld E (pc' := 27) (st' := [pw_i 4, pw_i ((pb_an (x - (pb_an (x / 2) 1431655765)) 858993459) + (pb_an ((x - (pb_an (x / 2) 1431655765)) / 4) 858993459)), pw_i ((pb_an (x - (pb_an (x / 2) 1431655765)) 858993459) + (pb_an ((x - (pb_an (x / 2) 1431655765)) / 4) 858993459))]) rfl (fun _ => rfl) ?_
  refine pw_iiE (f := fun x y => (x.toUInt32 >>> (y.toUInt32 &&& Int32.toUInt32 31)).toInt32) (c := ((pb_an (x - (pb_an (x / 2) 1431655765)) 858993459) + (pb_an ((x - (pb_an (x / 2) 1431655765)) / 4) 858993459)) / 16) E (pc' := 28) rfl (fun _ => rfl) (pb_us4 (by omega) (by omega)) ?_
  refine pw_add E (pc' := 29) rfl rfl ?_
  refine pw_ldcw (a := 252645135) E (pc' := 32) rfl rfl rfl (by decide) ?_
  refine pw_iiE (f := fun x y => x &&& y) (c := pb_an (((pb_an (x - (pb_an (x / 2) 1431655765)) 858993459) + (pb_an ((x - (pb_an (x / 2) 1431655765)) / 4) 858993459)) + (((pb_an (x - (pb_an (x / 2) 1431655765)) 858993459) + (pb_an ((x - (pb_an (x / 2) 1431655765)) / 4) 858993459)) / 16)) 252645135) E (pc' := 33) rfl (fun _ => rfl) (pb_anE (by omega) (by omega) (by decide) (by decide)) ?_
  have hp4 := pb_anB (a := ((pb_an (x - (pb_an (x / 2) 1431655765)) 858993459) + (pb_an ((x - (pb_an (x / 2) 1431655765)) / 4) 858993459)) + (((pb_an (x - (pb_an (x / 2) 1431655765)) 858993459) + (pb_an ((x - (pb_an (x / 2) 1431655765)) / 4) 858993459)) / 16)) (m := 252645135) (by omega) (by decide)
  refine pw_istn E (pc' := 34) (ls' := [some (pw_i (pb_an (((pb_an (x - (pb_an (x / 2) 1431655765)) 858993459) + (pb_an ((x - (pb_an (x / 2) 1431655765)) / 4) 858993459)) + (((pb_an (x - (pb_an (x / 2) 1431655765)) 858993459) + (pb_an ((x - (pb_an (x / 2) 1431655765)) / 4) 858993459)) / 16)) 252645135))]) rfl rfl rfl rfl ?_
  refine pw_ld E (pc' := 35) (st' := [pw_i (pb_an (((pb_an (x - (pb_an (x / 2) 1431655765)) 858993459) + (pb_an ((x - (pb_an (x / 2) 1431655765)) / 4) 858993459)) + (((pb_an (x - (pb_an (x / 2) 1431655765)) 858993459) + (pb_an ((x - (pb_an (x / 2) 1431655765)) / 4) 858993459)) / 16)) 252645135)]) rfl (fun _ => rfl) ?_
  refine pw_ld E (pc' := 36) (st' := [pw_i (pb_an (((pb_an (x - (pb_an (x / 2) 1431655765)) 858993459) + (pb_an ((x - (pb_an (x / 2) 1431655765)) / 4) 858993459)) + (((pb_an (x - (pb_an (x / 2) 1431655765)) 858993459) + (pb_an ((x - (pb_an (x / 2) 1431655765)) / 4) 858993459)) / 16)) 252645135), pw_i (pb_an (((pb_an (x - (pb_an (x / 2) 1431655765)) 858993459) + (pb_an ((x - (pb_an (x / 2) 1431655765)) / 4) 858993459)) + (((pb_an (x - (pb_an (x / 2) 1431655765)) 858993459) + (pb_an ((x - (pb_an (x / 2) 1431655765)) / 4) 858993459)) / 16)) 252645135)]) rfl (fun _ => rfl) ?_
  refine pw_bip E (pc' := 38) rfl rfl (by decide) ?_
  refine pw_iiE (f := fun x y => (x.toUInt32 >>> (y.toUInt32 &&& Int32.toUInt32 31)).toInt32) (c := (pb_an (((pb_an (x - (pb_an (x / 2) 1431655765)) 858993459) + (pb_an ((x - (pb_an (x / 2) 1431655765)) / 4) 858993459)) + (((pb_an (x - (pb_an (x / 2) 1431655765)) 858993459) + (pb_an ((x - (pb_an (x / 2) 1431655765)) / 4) 858993459)) / 16)) 252645135) / 256) E (pc' := 39) rfl (fun _ => rfl) (pb_us8 (by omega) (by omega)) ?_
  refine pw_add E (pc' := 40) rfl rfl ?_
  refine pw_istn E (pc' := 41) (ls' := [some (pw_i ((pb_an (((pb_an (x - (pb_an (x / 2) 1431655765)) 858993459) + (pb_an ((x - (pb_an (x / 2) 1431655765)) / 4) 858993459)) + (((pb_an (x - (pb_an (x / 2) 1431655765)) 858993459) + (pb_an ((x - (pb_an (x / 2) 1431655765)) / 4) 858993459)) / 16)) 252645135) + ((pb_an (((pb_an (x - (pb_an (x / 2) 1431655765)) 858993459) + (pb_an ((x - (pb_an (x / 2) 1431655765)) / 4) 858993459)) + (((pb_an (x - (pb_an (x / 2) 1431655765)) 858993459) + (pb_an ((x - (pb_an (x / 2) 1431655765)) / 4) 858993459)) / 16)) 252645135) / 256)))]) rfl rfl rfl rfl ?_
  refine pw_ld E (pc' := 42) (st' := [pw_i ((pb_an (((pb_an (x - (pb_an (x / 2) 1431655765)) 858993459) + (pb_an ((x - (pb_an (x / 2) 1431655765)) / 4) 858993459)) + (((pb_an (x - (pb_an (x / 2) 1431655765)) 858993459) + (pb_an ((x - (pb_an (x / 2) 1431655765)) / 4) 858993459)) / 16)) 252645135) + ((pb_an (((pb_an (x - (pb_an (x / 2) 1431655765)) 858993459) + (pb_an ((x - (pb_an (x / 2) 1431655765)) / 4) 858993459)) + (((pb_an (x - (pb_an (x / 2) 1431655765)) 858993459) + (pb_an ((x - (pb_an (x / 2) 1431655765)) / 4) 858993459)) / 16)) 252645135) / 256))]) rfl (fun _ => rfl) ?_
  refine pw_ld E (pc' := 43) (st' := [pw_i ((pb_an (((pb_an (x - (pb_an (x / 2) 1431655765)) 858993459) + (pb_an ((x - (pb_an (x / 2) 1431655765)) / 4) 858993459)) + (((pb_an (x - (pb_an (x / 2) 1431655765)) 858993459) + (pb_an ((x - (pb_an (x / 2) 1431655765)) / 4) 858993459)) / 16)) 252645135) + ((pb_an (((pb_an (x - (pb_an (x / 2) 1431655765)) 858993459) + (pb_an ((x - (pb_an (x / 2) 1431655765)) / 4) 858993459)) + (((pb_an (x - (pb_an (x / 2) 1431655765)) 858993459) + (pb_an ((x - (pb_an (x / 2) 1431655765)) / 4) 858993459)) / 16)) 252645135) / 256)), pw_i ((pb_an (((pb_an (x - (pb_an (x / 2) 1431655765)) 858993459) + (pb_an ((x - (pb_an (x / 2) 1431655765)) / 4) 858993459)) + (((pb_an (x - (pb_an (x / 2) 1431655765)) 858993459) + (pb_an ((x - (pb_an (x / 2) 1431655765)) / 4) 858993459)) / 16)) 252645135) + ((pb_an (((pb_an (x - (pb_an (x / 2) 1431655765)) 858993459) + (pb_an ((x - (pb_an (x / 2) 1431655765)) / 4) 858993459)) + (((pb_an (x - (pb_an (x / 2) 1431655765)) 858993459) + (pb_an ((x - (pb_an (x / 2) 1431655765)) / 4) 858993459)) / 16)) 252645135) / 256))]) rfl (fun _ => rfl) ?_
  refine pw_bip E (pc' := 45) rfl rfl (by decide) ?_
  refine pw_iiE (f := fun x y => (x.toUInt32 >>> (y.toUInt32 &&& Int32.toUInt32 31)).toInt32) (c := ((pb_an (((pb_an (x - (pb_an (x / 2) 1431655765)) 858993459) + (pb_an ((x - (pb_an (x / 2) 1431655765)) / 4) 858993459)) + (((pb_an (x - (pb_an (x / 2) 1431655765)) 858993459) + (pb_an ((x - (pb_an (x / 2) 1431655765)) / 4) 858993459)) / 16)) 252645135) + ((pb_an (((pb_an (x - (pb_an (x / 2) 1431655765)) 858993459) + (pb_an ((x - (pb_an (x / 2) 1431655765)) / 4) 858993459)) + (((pb_an (x - (pb_an (x / 2) 1431655765)) 858993459) + (pb_an ((x - (pb_an (x / 2) 1431655765)) / 4) 858993459)) / 16)) 252645135) / 256)) / 65536) E (pc' := 46) rfl (fun _ => rfl) (pb_us16 (by omega) (by omega)) ?_
  refine pw_add E (pc' := 47) rfl rfl ?_
  refine pw_istn E (pc' := 48) (ls' := [some (pw_i (((pb_an (((pb_an (x - (pb_an (x / 2) 1431655765)) 858993459) + (pb_an ((x - (pb_an (x / 2) 1431655765)) / 4) 858993459)) + (((pb_an (x - (pb_an (x / 2) 1431655765)) 858993459) + (pb_an ((x - (pb_an (x / 2) 1431655765)) / 4) 858993459)) / 16)) 252645135) + ((pb_an (((pb_an (x - (pb_an (x / 2) 1431655765)) 858993459) + (pb_an ((x - (pb_an (x / 2) 1431655765)) / 4) 858993459)) + (((pb_an (x - (pb_an (x / 2) 1431655765)) 858993459) + (pb_an ((x - (pb_an (x / 2) 1431655765)) / 4) 858993459)) / 16)) 252645135) / 256)) + (((pb_an (((pb_an (x - (pb_an (x / 2) 1431655765)) 858993459) + (pb_an ((x - (pb_an (x / 2) 1431655765)) / 4) 858993459)) + (((pb_an (x - (pb_an (x / 2) 1431655765)) 858993459) + (pb_an ((x - (pb_an (x / 2) 1431655765)) / 4) 858993459)) / 16)) 252645135) + ((pb_an (((pb_an (x - (pb_an (x / 2) 1431655765)) 858993459) + (pb_an ((x - (pb_an (x / 2) 1431655765)) / 4) 858993459)) + (((pb_an (x - (pb_an (x / 2) 1431655765)) 858993459) + (pb_an ((x - (pb_an (x / 2) 1431655765)) / 4) 858993459)) / 16)) 252645135) / 256)) / 65536)))]) rfl rfl rfl rfl ?_
  refine pw_ld E (pc' := 49) (st' := [pw_i (((pb_an (((pb_an (x - (pb_an (x / 2) 1431655765)) 858993459) + (pb_an ((x - (pb_an (x / 2) 1431655765)) / 4) 858993459)) + (((pb_an (x - (pb_an (x / 2) 1431655765)) 858993459) + (pb_an ((x - (pb_an (x / 2) 1431655765)) / 4) 858993459)) / 16)) 252645135) + ((pb_an (((pb_an (x - (pb_an (x / 2) 1431655765)) 858993459) + (pb_an ((x - (pb_an (x / 2) 1431655765)) / 4) 858993459)) + (((pb_an (x - (pb_an (x / 2) 1431655765)) 858993459) + (pb_an ((x - (pb_an (x / 2) 1431655765)) / 4) 858993459)) / 16)) 252645135) / 256)) + (((pb_an (((pb_an (x - (pb_an (x / 2) 1431655765)) 858993459) + (pb_an ((x - (pb_an (x / 2) 1431655765)) / 4) 858993459)) + (((pb_an (x - (pb_an (x / 2) 1431655765)) 858993459) + (pb_an ((x - (pb_an (x / 2) 1431655765)) / 4) 858993459)) / 16)) 252645135) + ((pb_an (((pb_an (x - (pb_an (x / 2) 1431655765)) 858993459) + (pb_an ((x - (pb_an (x / 2) 1431655765)) / 4) 858993459)) + (((pb_an (x - (pb_an (x / 2) 1431655765)) 858993459) + (pb_an ((x - (pb_an (x / 2) 1431655765)) / 4) 858993459)) / 16)) 252645135) / 256)) / 65536))]) rfl (fun _ => rfl) ?_
  refine pw_bip E (pc' := 51) rfl rfl (by decide) ?_
  refine pw_iiE (f := fun x y => x &&& y) (c := pb_an (((pb_an (((pb_an (x - (pb_an (x / 2) 1431655765)) 858993459) + (pb_an ((x - (pb_an (x / 2) 1431655765)) / 4) 858993459)) + (((pb_an (x - (pb_an (x / 2) 1431655765)) 858993459) + (pb_an ((x - (pb_an (x / 2) 1431655765)) / 4) 858993459)) / 16)) 252645135) + ((pb_an (((pb_an (x - (pb_an (x / 2) 1431655765)) 858993459) + (pb_an ((x - (pb_an (x / 2) 1431655765)) / 4) 858993459)) + (((pb_an (x - (pb_an (x / 2) 1431655765)) 858993459) + (pb_an ((x - (pb_an (x / 2) 1431655765)) / 4) 858993459)) / 16)) 252645135) / 256)) + (((pb_an (((pb_an (x - (pb_an (x / 2) 1431655765)) 858993459) + (pb_an ((x - (pb_an (x / 2) 1431655765)) / 4) 858993459)) + (((pb_an (x - (pb_an (x / 2) 1431655765)) 858993459) + (pb_an ((x - (pb_an (x / 2) 1431655765)) / 4) 858993459)) / 16)) 252645135) + ((pb_an (((pb_an (x - (pb_an (x / 2) 1431655765)) 858993459) + (pb_an ((x - (pb_an (x / 2) 1431655765)) / 4) 858993459)) + (((pb_an (x - (pb_an (x / 2) 1431655765)) 858993459) + (pb_an ((x - (pb_an (x / 2) 1431655765)) / 4) 858993459)) / 16)) 252645135) / 256)) / 65536)) 63) E (pc' := 52) rfl (fun _ => rfl) (pb_anE (by omega) (by omega) (by decide) (by decide)) ?_
  have hp5 := pb_anB (a := ((pb_an (((pb_an (x - (pb_an (x / 2) 1431655765)) 858993459) + (pb_an ((x - (pb_an (x / 2) 1431655765)) / 4) 858993459)) + (((pb_an (x - (pb_an (x / 2) 1431655765)) 858993459) + (pb_an ((x - (pb_an (x / 2) 1431655765)) / 4) 858993459)) / 16)) 252645135) + ((pb_an (((pb_an (x - (pb_an (x / 2) 1431655765)) 858993459) + (pb_an ((x - (pb_an (x / 2) 1431655765)) / 4) 858993459)) + (((pb_an (x - (pb_an (x / 2) 1431655765)) 858993459) + (pb_an ((x - (pb_an (x / 2) 1431655765)) / 4) 858993459)) / 16)) 252645135) / 256)) + (((pb_an (((pb_an (x - (pb_an (x / 2) 1431655765)) 858993459) + (pb_an ((x - (pb_an (x / 2) 1431655765)) / 4) 858993459)) + (((pb_an (x - (pb_an (x / 2) 1431655765)) 858993459) + (pb_an ((x - (pb_an (x / 2) 1431655765)) / 4) 858993459)) / 16)) 252645135) + ((pb_an (((pb_an (x - (pb_an (x / 2) 1431655765)) 858993459) + (pb_an ((x - (pb_an (x / 2) 1431655765)) / 4) 858993459)) + (((pb_an (x - (pb_an (x / 2) 1431655765)) 858993459) + (pb_an ((x - (pb_an (x / 2) 1431655765)) / 4) 858993459)) / 16)) 252645135) / 256)) / 65536)) (m := 63) (by omega) (by decide)
  refine pw_iret E rfl ?_
  have hbc : pb_an (((pb_an (((pb_an (x - (pb_an (x / 2) 1431655765)) 858993459) + (pb_an ((x - (pb_an (x / 2) 1431655765)) / 4) 858993459)) + (((pb_an (x - (pb_an (x / 2) 1431655765)) 858993459) + (pb_an ((x - (pb_an (x / 2) 1431655765)) / 4) 858993459)) / 16)) 252645135) + ((pb_an (((pb_an (x - (pb_an (x / 2) 1431655765)) 858993459) + (pb_an ((x - (pb_an (x / 2) 1431655765)) / 4) 858993459)) + (((pb_an (x - (pb_an (x / 2) 1431655765)) 858993459) + (pb_an ((x - (pb_an (x / 2) 1431655765)) / 4) 858993459)) / 16)) 252645135) / 256)) + (((pb_an (((pb_an (x - (pb_an (x / 2) 1431655765)) 858993459) + (pb_an ((x - (pb_an (x / 2) 1431655765)) / 4) 858993459)) + (((pb_an (x - (pb_an (x / 2) 1431655765)) 858993459) + (pb_an ((x - (pb_an (x / 2) 1431655765)) / 4) 858993459)) / 16)) 252645135) + ((pb_an (((pb_an (x - (pb_an (x / 2) 1431655765)) 858993459) + (pb_an ((x - (pb_an (x / 2) 1431655765)) / 4) 858993459)) + (((pb_an (x - (pb_an (x / 2) 1431655765)) 858993459) + (pb_an ((x - (pb_an (x / 2) 1431655765)) / 4) 858993459)) / 16)) 252645135) / 256)) / 65536)) 63 = (pb_n x.toNat 14 : Int) := pb_bcE hx1 hx2
  have hb14 := pb_nB x.toNat 14
  exact ⟨rfl, ⟨_, rfl, by omega, by omega, hbc⟩⟩
set_option maxHeartbeats 4000000 in
theorem cm_89_s {X : List (Nat × List Value)} {d : Nat} {h : pm_H} (hd : 1 ≤ d) (I : pw_I h) (mb : Int) (hmb1 : 0 ≤ mb) (hmb2 : mb ≤ 16383) (hp0 : ∀ j : Nat, pb_b mb.toNat j = 1 → -2000 ≤ pw_g h 19 j ∧ pw_g h 19 j ≤ 2000) : pw X d h 89 0 [some (.ref 32), some (pw_i mb), none, none] [] (fun h' v => h = h' ∧ ∃ a : Int, v = .inl (some (pw_i a)) ∧ (-28000) ≤ a ∧ a ≤ 28000 ∧ (a = pb_S (pw_g h 19) mb.toNat 14)) := by
  have E : pm_ent 89 = some (2, 4, 8, 0, pmc_89) := rfl
  refine pw_ld E (pc' := 1) (st' := [pw_i 0]) rfl (fun _ => rfl) ?_
  refine pw_istn E (pc' := 2) (ls' := [some (.ref 32), some (pw_i mb), some (pw_i 0), none]) rfl rfl rfl rfl ?_
  refine pw_ld E (pc' := 3) (st' := [pw_i 0]) rfl (fun _ => rfl) ?_
  refine pw_istn E (pc' := 4) (ls' := [some (.ref 32), some (pw_i mb), some (pw_i 0), some (pw_i 0)]) rfl rfl rfl rfl ?_
  have L4 : ∀ (n4 : Nat) (k4_2 : Int) (k4_3 : Int), (-28000) ≤ k4_2 → k4_2 ≤ 28000 → 0 ≤ k4_3 → k4_3 ≤ 14 → k4_2 = pb_S (pw_g h 19) mb.toNat (k4_3).toNat → (-2000) * k4_3 ≤ k4_2 → k4_2 ≤ 2000 * k4_3 → (14 - k4_3).toNat = n4 → pw X d h 89 4 [some (.ref 32), some (pw_i mb), some (pw_i k4_2), some (pw_i k4_3)] [] (fun h' v => h = h' ∧ ∃ a : Int, v = .inl (some (pw_i a)) ∧ (-28000) ≤ a ∧ a ≤ 28000 ∧ (a = pb_S (pw_g h 19) mb.toNat 14)) := by
    intro n4
    induction n4 using Nat.strongRecOn with
    | ind n4 ih4 =>
      intro k4_2 k4_3 k4_2a k4_2b k4_3a k4_3b hx4_0 hx4_1 hx4_2 hm4
      refine pw_ld E (pc' := 5) (st' := [pw_i k4_3]) rfl (fun _ => rfl) ?_
      refine pw_bip E (pc' := 7) rfl rfl (by decide) ?_
      refine pw_if2 E (pc' := 37) rfl (by decide) (by omega) (by omega) (by decide) (by decide) ?_ ?_
      · intro hc1
        change (14 : Int) ≤ k4_3 at hc1
        rw [show (k4_3).toNat = 14 by omega] at hx4_0
        refine pw_ld E (pc' := 38) (st' := [pw_i k4_2]) rfl (fun _ => rfl) ?_
        refine pw_iret E rfl ?_
        exact ⟨rfl, ⟨_, rfl, by omega, by omega, by omega⟩⟩
      · intro hc2
        change ¬ ((14 : Int) ≤ k4_3) at hc2
        have o1 := pb_SS (r := pw_g h 19) (s := mb.toNat) (k := k4_3) (by omega)
        have hbit := pb_bit (s := mb) (k := k4_3) (by omega) (by omega) (by omega) (by omega)
        have hb2 := pb_b2 (mb).toNat (k4_3).toNat
        refine pw_ld E (pc' := 11) (st' := [pw_i k4_2]) rfl (fun _ => rfl) ?_
        refine pw_ld E (pc' := 12) (st' := [pw_i mb, pw_i k4_2]) rfl (fun _ => rfl) ?_
        refine pw_ld E (pc' := 13) (st' := [pw_i k4_3, pw_i mb, pw_i k4_2]) rfl (fun _ => rfl) ?_
        refine pw_iiE (f := fun x y => x >>> (y &&& 31)) (c := pw_sr mb k4_3) E (pc' := 14) rfl (fun _ => rfl) rfl ?_
        have hp3 := pw_sr_r mb k4_3
        refine pw_ld E (pc' := 15) (st' := [pw_i 1, pw_i (pw_sr mb k4_3), pw_i k4_2]) rfl (fun _ => rfl) ?_
        refine pw_iiE (f := fun x y => x &&& y) (c := pw_an (pw_sr mb k4_3) 1) E (pc' := 16) rfl (fun _ => rfl) rfl ?_
        have hp4 := pw_an_r (pw_sr mb k4_3)
        refine pw_if E (pc' := 28) rfl (by decide) (by omega) (by omega) ?_ ?_
        · intro hc5
          change pw_an (pw_sr mb k4_3) 1 = (0 : Int) at hc5
          refine pw_ld E (pc' := 29) (st' := [pw_i 0, pw_i k4_2]) rfl (fun _ => rfl) ?_
          refine pw_add E (pc' := 30) rfl rfl ?_
          refine pw_istn E (pc' := 31) (ls' := [some (.ref 32), some (pw_i mb), some (pw_i (k4_2 + 0)), some (pw_i k4_3)]) rfl rfl rfl rfl ?_
          refine pw_inc E (pc' := 34) (ls' := [some (.ref 32), some (pw_i mb), some (pw_i (k4_2 + 0)), some (pw_i (k4_3 + 1))]) rfl rfl rfl rfl ?_
          refine pw_goto E (pc' := 4) rfl (by decide) ?_
          exact ih4 _ (by omega) (k4_2 + 0) (k4_3 + 1)  (by omega) (by omega) (by omega) (by omega) (by omega) (by omega) (by omega) rfl
        · intro hc6
          change ¬ (pw_an (pw_sr mb k4_3) 1 = (0 : Int)) at hc6
          refine pw_ld E (pc' := 20) (st' := [.ref 32, pw_i k4_2]) rfl (fun _ => rfl) ?_
          refine pw_getR (b := 35) I E (c := 16) (k := 2) (pc' := 23) rfl rfl rfl rfl rfl rfl rfl ?_
          refine pw_ld E (pc' := 24) (st' := [pw_i k4_3, .ref 35, pw_i k4_2]) rfl (fun _ => rfl) ?_
          refine pw_ald2 I E (c := 19) (pc' := 25) rfl rfl rfl (by decide) rfl (by decide) (by omega) (by omega) rfl (fun hf7a hf7b => ?_)
          have o2 := hp0 (k4_3).toNat (by omega)
          refine pw_goto E (pc' := 29) rfl (by decide) ?_
          refine pw_add E (pc' := 30) rfl rfl ?_
          refine pw_istn E (pc' := 31) (ls' := [some (.ref 32), some (pw_i mb), some (pw_i (k4_2 + (pw_g h 19 (k4_3.toNat)))), some (pw_i k4_3)]) rfl rfl rfl rfl ?_
          refine pw_inc E (pc' := 34) (ls' := [some (.ref 32), some (pw_i mb), some (pw_i (k4_2 + (pw_g h 19 (k4_3.toNat)))), some (pw_i (k4_3 + 1))]) rfl rfl rfl rfl ?_
          refine pw_goto E (pc' := 4) rfl (by decide) ?_
          exact ih4 _ (by omega) (k4_2 + (pw_g h 19 (k4_3.toNat))) (k4_3 + 1)  (by omega) (by omega) (by omega) (by omega) (by omega) (by omega) (by omega) rfl
  exact L4 _ (0) (0)  (by omega) (by omega) (by omega) (by omega) rfl (by omega) (by omega) rfl
set_option maxHeartbeats 4000000 in
theorem cm_92_s {X : List (Nat × List Value)} {d : Nat} {h : pm_H} (hd : 1 ≤ d) (I : pw_I h) (sd : Int) (hsd1 : 0 ≤ sd) (hsd2 : sd ≤ 1) : pw X d h 92 0 [some (.ref 32), some (pw_i sd), none, none] [] (fun h' v => pw_I h' ∧ pw_E [19] h h' ∧ (pc_GA (pw_g h 17) (pw_g h 18) sd (pw_g h' 19) 24) ∧ (∃ a : Int, v = .inl (some (pw_i a)) ∧ 0 ≤ a ∧ a ≤ 24 ∧ (a = pv_N (pw_g h 17) sd 24))) := by
  have E : pm_ent 92 = some (2, 4, 8, 0, pmc_92) := rfl
  have E0 : pw_E [19] h h := pw_E.rf _ _
  refine pw_ld E (pc' := 1) (st' := [pw_i 0]) rfl (fun _ => rfl) ?_
  refine pw_istn E (pc' := 2) (ls' := [some (.ref 32), some (pw_i sd), some (pw_i 0), none]) rfl rfl rfl rfl ?_
  refine pw_ld E (pc' := 3) (st' := [pw_i 0]) rfl (fun _ => rfl) ?_
  refine pw_istn E (pc' := 4) (ls' := [some (.ref 32), some (pw_i sd), some (pw_i 0), some (pw_i 0)]) rfl rfl rfl rfl ?_
  have L4 : ∀ (n4 : Nat) (k4_2 : Int) (k4_3 : Int) (gh4 : pm_H), pw_I gh4 → pw_E [19] h gh4 → 0 ≤ k4_2 → k4_2 ≤ 24 → 0 ≤ k4_3 → k4_3 ≤ 24 → k4_2 ≤ k4_3 → k4_2 = pv_N (pw_g h 17) sd (k4_3).toNat → pc_GA (pw_g h 17) (pw_g h 18) sd (pw_g gh4 19) k4_3 → (24 - k4_3).toNat = n4 → pw X d gh4 92 4 [some (.ref 32), some (pw_i sd), some (pw_i k4_2), some (pw_i k4_3)] [] (fun h' v => pw_I h' ∧ pw_E [19] h h' ∧ (pc_GA (pw_g h 17) (pw_g h 18) sd (pw_g h' 19) 24) ∧ (∃ a : Int, v = .inl (some (pw_i a)) ∧ 0 ≤ a ∧ a ≤ 24 ∧ (a = pv_N (pw_g h 17) sd 24))) := by
    intro n4
    induction n4 using Nat.strongRecOn with
    | ind n4 ih4 =>
      intro k4_2 k4_3 gh4 I4 E4 k4_2a k4_2b k4_3a k4_3b hx4_0 hx4_1 hx4_2 hm4
      refine pw_ld E (pc' := 5) (st' := [pw_i k4_3]) rfl (fun _ => rfl) ?_
      refine pw_bip E (pc' := 7) rfl rfl (by decide) ?_
      refine pw_if2 E (pc' := 41) rfl (by decide) (by omega) (by omega) (by decide) (by decide) ?_ ?_
      · intro hc1
        change (24 : Int) ≤ k4_3 at hc1
        rw [show (k4_3).toNat = 24 by omega] at hx4_1
        refine pw_ld E (pc' := 42) (st' := [pw_i k4_2]) rfl (fun _ => rfl) ?_
        refine pw_iret E rfl ?_
        exact ⟨I4, E4, ⟨(by rw [show (24 : Int) = k4_3 by omega]; exact hx4_2), ⟨_, rfl, by omega, by omega, by omega⟩⟩⟩
      · intro hc2
        change ¬ ((24 : Int) ≤ k4_3) at hc2
        have o1 := pv_Ns (sd := pw_g h 17) (s := sd) (k := k4_3) (by omega)
        have q7 : pw_g gh4 17 (k4_3).toNat = pw_g h 17 (k4_3).toNat := pw_Eg (c := 17) I E4 rfl rfl _
        have q8 : pw_g h 18 (k4_3).toNat = pw_g gh4 18 (k4_3).toNat := (pw_Eg (c := 18) I E4 rfl rfl _).symm
        refine pw_ld E (pc' := 11) (st' := [.ref 32]) rfl (fun _ => rfl) ?_
        refine pw_getR (b := 33) I4 E (c := 16) (k := 0) (pc' := 14) rfl rfl rfl rfl rfl rfl rfl ?_
        refine pw_ld E (pc' := 15) (st' := [pw_i k4_3, .ref 33]) rfl (fun _ => rfl) ?_
        refine pw_ald2 I4 E (c := 17) (pc' := 16) rfl rfl rfl (by decide) rfl (by decide) (by omega) (by omega) rfl (fun hf3a hf3b => ?_)
        refine pw_ld E (pc' := 17) (st' := [pw_i sd, pw_i (pw_g gh4 17 (k4_3.toNat))]) rfl (fun _ => rfl) ?_
        refine pw_if2 E (pc' := 35) rfl (by decide) (by omega) (by omega) (by omega) (by omega) ?_ ?_
        · intro hc4
          change pw_g gh4 17 (k4_3.toNat) ≠ sd at hc4
          refine pw_inc E (pc' := 38) (ls' := [some (.ref 32), some (pw_i sd), some (pw_i k4_2), some (pw_i (k4_3 + 1))]) rfl rfl rfl rfl ?_
          refine pw_goto E (pc' := 4) rfl (by decide) ?_
          exact ih4 _ (by omega) (k4_2) (k4_3 + 1) gh4 I4 E4 (by omega) (by omega) (by omega) (by omega) (by omega) (by omega) (by first | exact pc_GA.yes hx4_2 (by omega) (by omega) hx4_1 (by omega) (q8.symm) (by omega) (by omega) I4 (by assumption) | exact pc_GA.no hx4_2 (by omega) (by omega)) rfl
        · intro hc5
          change ¬ (pw_g gh4 17 (k4_3.toNat) ≠ sd) at hc5
          refine pw_ld E (pc' := 21) (st' := [.ref 32]) rfl (fun _ => rfl) ?_
          refine pw_getR (b := 35) I4 E (c := 16) (k := 2) (pc' := 24) rfl rfl rfl rfl rfl rfl rfl ?_
          refine pw_ld E (pc' := 25) (st' := [pw_i k4_2, .ref 35]) rfl (fun _ => rfl) ?_
          refine pw_ld E (pc' := 26) (st' := [.ref 32, pw_i k4_2, .ref 35]) rfl (fun _ => rfl) ?_
          refine pw_getR (b := 34) I4 E (c := 16) (k := 1) (pc' := 29) rfl rfl rfl rfl rfl rfl rfl ?_
          refine pw_ld E (pc' := 30) (st' := [pw_i k4_3, .ref 34, pw_i k4_2, .ref 35]) rfl (fun _ => rfl) ?_
          refine pw_ald2 I4 E (c := 18) (pc' := 31) rfl rfl rfl (by decide) rfl (by decide) (by omega) (by omega) rfl (fun hf6a hf6b => ?_)
          refine pw_ast0 I4 E (c := 19) (pc' := 32) rfl rfl rfl (by decide) rfl (by decide) (by omega) (by omega) rfl (by omega) (by omega) (by omega) (by omega) rfl ?_
          intro h7I h7E
          generalize h7w : pw_w gh4 19 (k4_2.toNat) (pw_i (pw_g gh4 18 (k4_3.toNat))) = h7 at h7I h7E ⊢
          have h7F := E4.tr (h7E.wk (W' := [19]) (by first | rfl | simp))
          refine pw_inc E (pc' := 35) (ls' := [some (.ref 32), some (pw_i sd), some (pw_i (k4_2 + 1)), some (pw_i k4_3)]) rfl rfl rfl rfl ?_
          refine pw_inc E (pc' := 38) (ls' := [some (.ref 32), some (pw_i sd), some (pw_i (k4_2 + 1)), some (pw_i (k4_3 + 1))]) rfl rfl rfl rfl ?_
          refine pw_goto E (pc' := 4) rfl (by decide) ?_
          exact ih4 _ (by omega) (k4_2 + 1) (k4_3 + 1) h7 h7I h7F (by omega) (by omega) (by omega) (by omega) (by omega) (by omega) (by first | exact pc_GA.yes hx4_2 (by omega) (by omega) hx4_1 (by omega) (q8.symm) (by omega) (by omega) I4 (by assumption) | exact pc_GA.no hx4_2 (by omega) (by omega)) rfl
  exact L4 _ (0) (0) h I E0 (by omega) (by omega) (by omega) (by omega) (by omega) rfl pc_GA.z rfl
set_option maxHeartbeats 4000000 in
theorem cm_327_s {X : List (Nat × List Value)} {d : Nat} {h : pm_H} (hd : 1 ≤ d) (I : pw_I h) (x : Int) (hx1 : (-2147483648) ≤ x) (hx2 : x ≤ 2147483647) (y : Int) (hy1 : (-2147483648) ≤ y) (hy2 : y ≤ 2147483647) : pw X d h 327 0 [some (pw_i x), some (pw_i y)] [] (fun h' v => h = h' ∧ ∃ a : Int, v = .inl (some (pw_i a)) ∧ (-1) ≤ a ∧ a ≤ 1 ∧ (a = pl_sg (x - y))) := by
  have E : pm_ent 327 = some (2, 2, 15, 0, pmc_327) := rfl
  refine pw_ld E (pc' := 1) (st' := [pw_i x]) rfl (fun _ => rfl) ?_
  refine pw_ld E (pc' := 2) (st' := [pw_i y, pw_i x]) rfl (fun _ => rfl) ?_
  refine pw_if2 E (pc' := 9) rfl (by decide) (by omega) (by omega) (by omega) (by omega) ?_ ?_
  · intro hc1
    change y ≤ x at hc1
    refine pw_ld E (pc' := 10) (st' := [pw_i x]) rfl (fun _ => rfl) ?_
    refine pw_ld E (pc' := 11) (st' := [pw_i y, pw_i x]) rfl (fun _ => rfl) ?_
    refine pw_if2 E (pc' := 18) rfl (by decide) (by omega) (by omega) (by omega) (by omega) ?_ ?_
    · intro hc2
      change x ≠ y at hc2
      refine pw_ld E (pc' := 19) (st' := [pw_i 1]) rfl (fun _ => rfl) ?_
      refine pw_iret E rfl ?_
      have sI := pl_sgI (x := x - y)
      exact ⟨rfl, ⟨_, rfl, by omega, by omega, (sI.2.1 (by omega)).symm⟩⟩
    · intro hc3
      change ¬ (x ≠ y) at hc3
      refine pw_ld E (pc' := 15) (st' := [pw_i 0]) rfl (fun _ => rfl) ?_
      refine pw_goto E (pc' := 19) rfl (by decide) ?_
      refine pw_iret E rfl ?_
      have sI := pl_sgI (x := x - y)
      exact ⟨rfl, ⟨_, rfl, by omega, by omega, (sI.2.2 (by omega)).symm⟩⟩
  · intro hc4
    change ¬ (y ≤ x) at hc4
    refine pw_ld E (pc' := 6) (st' := [pw_i ((-1))]) rfl (fun _ => rfl) ?_
    refine pw_goto E (pc' := 19) rfl (by decide) ?_
    refine pw_iret E rfl ?_
    have sI := pl_sgI (x := x - y)
    exact ⟨rfl, ⟨_, rfl, by omega, by omega, (sI.1 (by omega)).symm⟩⟩
set_option maxHeartbeats 4000000 in
theorem cm_328_s {X : List (Nat × List Value)} {d : Nat} {h : pm_H} (hd : 1 ≤ d) (I : pw_I h) (x : Int) (hx1 : (-1099511627776) ≤ x) (hx2 : x ≤ 1099511627776) (y : Int) (hy1 : (-1099511627776) ≤ y) (hy2 : y ≤ 1099511627776) : pw X d h 328 0 [some (.long (Int64.ofInt x)), none, some (.long (Int64.ofInt y)), none] [] (fun h' v => h = h' ∧ ∃ a : Int, v = .inl (some (pw_i a)) ∧ (-1) ≤ a ∧ a ≤ 1 ∧ (a = pl_sg (x - y))) := by
  have E : pm_ent 328 = some (2, 4, 16, 0, pmc_328) := rfl
  refine pw_ld E (pc' := 1) (st' := [.long (Int64.ofInt x)]) rfl (fun _ => rfl) ?_
  refine pw_ld E (pc' := 2) (st' := [.long (Int64.ofInt y), .long (Int64.ofInt x)]) rfl (fun _ => rfl) ?_
  refine pw_lcmpC E (pc' := 3) rfl rfl (by omega) (by omega) (by omega) (by omega) (fun c1 hc1 => ?_)
  refine pw_if E (pc' := 10) rfl (by decide) (by omega) (by omega) ?_ ?_
  · intro hc2
    change (0 : Int) ≤ c1 at hc2
    refine pw_ld E (pc' := 11) (st' := [.long (Int64.ofInt x)]) rfl (fun _ => rfl) ?_
    refine pw_ld E (pc' := 12) (st' := [.long (Int64.ofInt y), .long (Int64.ofInt x)]) rfl (fun _ => rfl) ?_
    refine pw_lcmpC E (pc' := 13) rfl rfl (by omega) (by omega) (by omega) (by omega) (fun c3 hc3 => ?_)
    refine pw_if E (pc' := 20) rfl (by decide) (by omega) (by omega) ?_ ?_
    · intro hc4
      change c3 ≠ (0 : Int) at hc4
      refine pw_ld E (pc' := 21) (st' := [pw_i 1]) rfl (fun _ => rfl) ?_
      refine pw_iret E rfl ?_
      have sI := pl_sgI (x := x - y)
      exact ⟨rfl, ⟨_, rfl, by omega, by omega, (sI.2.1 (by omega)).symm⟩⟩
    · intro hc5
      change ¬ (c3 ≠ (0 : Int)) at hc5
      refine pw_ld E (pc' := 17) (st' := [pw_i 0]) rfl (fun _ => rfl) ?_
      refine pw_goto E (pc' := 21) rfl (by decide) ?_
      refine pw_iret E rfl ?_
      have sI := pl_sgI (x := x - y)
      exact ⟨rfl, ⟨_, rfl, by omega, by omega, (sI.2.2 (by omega)).symm⟩⟩
  · intro hc6
    change ¬ ((0 : Int) ≤ c1) at hc6
    refine pw_ld E (pc' := 7) (st' := [pw_i ((-1))]) rfl (fun _ => rfl) ?_
    refine pw_goto E (pc' := 21) rfl (by decide) ?_
    refine pw_iret E rfl ?_
    have sI := pl_sgI (x := x - y)
    exact ⟨rfl, ⟨_, rfl, by omega, by omega, (sI.1 (by omega)).symm⟩⟩
set_option maxHeartbeats 4000000 in
theorem cm_91_20s {X : List (Nat × List Value)} {d : Nat} {h : pm_H} (hd : 2 ≤ d) (I : pw_I h) (sd : Int) (hsd1 : 0 ≤ sd) (hsd2 : sd ≤ 1) (k0 : Int) (hk01 : 1 ≤ k0) (hk02 : k0 ≤ 9) (hp0 : pv_Bd h) (hp1 : pv_N (pw_g h 17) sd 24 ≤ 9) : pw X d h 91 0 [some (.ref 32), some (pw_i sd), some (pw_i k0), some (.ref 36), none, none, none] [] (fun h' v => pw_I h' ∧ pw_E [19, 20] h h' ∧ (pl_A (pl_T (pw_g h 17) (pw_g h 18) sd) k0 14 (pw_g h' 20) (pw_p2 (pv_N (pw_g h 17) sd 24))) ∧ (∃ a : Int, v = .inl (some (pw_i a)) ∧ 0 ≤ a ∧ a ≤ 512 ∧ (a = po_W k0 14 (2 ^ (pv_N (pw_g h 17) sd 24).toNat)))) := by
  have E : pm_ent 91 = some (4, 7, 8, 0, pmc_91) := rfl
  have E0 : pw_E [19, 20] h h := pw_E.rf _ _
  refine pw_ld E (pc' := 1) (st' := [.ref 32]) rfl (fun _ => rfl) ?_
  refine pw_ld E (pc' := 2) (st' := [pw_i sd, .ref 32]) rfl (fun _ => rfl) ?_
  obtain ⟨f1l, f1h, -⟩ := pw_obj (c := 16) I rfl
  refine pw_call (m' := 92) (As := [.ref 32, pw_i sd]) (rest := []) (ls'' := [some (.ref 32), some (pw_i sd), none, none]) (Nat.le_trans (by decide) hd) E rfl (fun _ => pw_iV rfl rfl rfl rfl (pw_cellI f1h rfl)) (rfl : pm_ent 92 = some (2, 4, 8, 0, pmc_92)) rfl rfl (cm_92_s (pw_dp hd (by decide)) I (sd) (by omega) (by omega)) ?_
  rintro h2 v3 ⟨h2I, h2E, hqga, x4, rfl, hx4a, hx4b, hx4r⟩
  refine ⟨_, rfl, ?_⟩
  have h2F := E0.tr (h2E.wk (W' := [19, 20]) (by first | rfl | simp))
  show pw X d h2 91 5 [some (.ref 32), some (pw_i sd), some (pw_i k0), some (.ref 36), none, none, none] [pw_i x4] _
  change x4 = pv_N (pw_g h 17) sd 24 at hx4r
  have hH2 : ∀ j : Nat, (j : Int) < pv_N (pw_g h 17) sd 24 → pw_g h2 19 j = pc_G (pw_g h 17) (pw_g h 18) sd 24 j := hqga.row
  have hRB := pc_GA.rowB hqga (fun k hk hs => hp0 k hk (by omega))
  refine pw_bip E (pc' := 7) rfl rfl (by decide) ?_
  refine pw_min E rfl rfl (by omega) (by omega) (by decide) (by decide) rfl ?_
  have hmn : min x4 9 = pv_N (pw_g h 17) sd 24 := by omega
  have hpm : pw_p2 (min x4 9) = pw_p2 (pv_N (pw_g h 17) sd 24) := by rw [hmn]
  have hn0 := pv_NB (sd := pw_g h 17) (s := sd) 24
  have hp9 := pw_p2_le (a := pv_N (pw_g h 17) sd 24) (b := 9) (by omega)
  have e9 : pw_p2 9 = 512 := rfl
  have hp1 := pw_p2_r (a := pv_N (pw_g h 17) sd 24) (by omega) (by omega)
  refine pw_ist E (pc' := 12) (ls' := [some (.ref 32), some (pw_i sd), some (pw_i k0), some (.ref 36), some (pw_i (min x4 9)), none, none]) rfl rfl rfl rfl ?_
  refine pw_ld E (pc' := 13) (st' := [pw_i 0]) rfl (fun _ => rfl) ?_
  refine pw_ist E (pc' := 15) (ls' := [some (.ref 32), some (pw_i sd), some (pw_i k0), some (.ref 36), some (pw_i (min x4 9)), some (pw_i 0), none]) rfl rfl rfl rfl ?_
  refine pw_ld E (pc' := 16) (st' := [pw_i 0]) rfl (fun _ => rfl) ?_
  refine pw_ist E (pc' := 18) (ls' := [some (.ref 32), some (pw_i sd), some (pw_i k0), some (.ref 36), some (pw_i (min x4 9)), some (pw_i 0), some (pw_i 0)]) rfl rfl rfl rfl ?_
  have L18 : ∀ (n18 : Nat) (k18_5 : Int) (k18_6 : Int) (gh18 : pm_H), pw_I gh18 → pw_E [19, 20] h gh18 → 0 ≤ k18_5 → k18_5 ≤ 512 → 0 ≤ k18_6 → k18_6 ≤ 512 → k18_5 ≤ k18_6 → k18_5 = po_W k0 14 (k18_6).toNat → pl_A (pl_T (pw_g h 17) (pw_g h 18) sd) k0 14 (pw_g gh18 20) k18_6 → k18_6 ≤ pw_p2 (pv_N (pw_g h 17) sd 24) → 0 ≤ k18_6 → (∀ j : Nat, (j : Int) < pv_N (pw_g h 17) sd 24 → pw_g gh18 19 j = pc_G (pw_g h 17) (pw_g h 18) sd 24 j) → (512 - k18_6).toNat = n18 → pw X d gh18 91 18 [some (.ref 32), some (pw_i sd), some (pw_i k0), some (.ref 36), some (pw_i (min x4 9)), some (pw_i k18_5), some (pw_i k18_6)] [] (fun h' v => pw_I h' ∧ pw_E [19, 20] h h' ∧ (pl_A (pl_T (pw_g h 17) (pw_g h 18) sd) k0 14 (pw_g h' 20) (pw_p2 (pv_N (pw_g h 17) sd 24))) ∧ (∃ a : Int, v = .inl (some (pw_i a)) ∧ 0 ≤ a ∧ a ≤ 512 ∧ (a = po_W k0 14 (2 ^ (pv_N (pw_g h 17) sd 24).toNat)))) := by
    intro n18
    induction n18 using Nat.strongRecOn with
    | ind n18 ih18 =>
      intro k18_5 k18_6 gh18 I18 E18 k18_5a k18_5b k18_6a k18_6b hx18_0 hx18_1 hx18_2 hx18_3 hx18_4 hx18_5 hm18
      refine pw_ld E (pc' := 20) (st' := [pw_i k18_6]) rfl (fun _ => rfl) ?_
      refine pw_ld E (pc' := 21) (st' := [pw_i 1, pw_i k18_6]) rfl (fun _ => rfl) ?_
      refine pw_ld E (pc' := 23) (st' := [pw_i (min x4 9), pw_i 1, pw_i k18_6]) rfl (fun _ => rfl) ?_
      refine pw_shlE E (pc' := 24) rfl rfl (by omega) (by omega) ?_
      have hp5 := pw_p2_r (a := min x4 9) (by omega) (by omega)
      refine pw_if2 E (pc' := 55) rfl (by decide) (by omega) (by omega) (by omega) (by omega) ?_ ?_
      · intro hc6
        change pw_p2 (min x4 9) ≤ k18_6 at hc6
        have hK : k18_6 = pw_p2 (pv_N (pw_g h 17) sd 24) := by omega
        have hK2 : (k18_6).toNat = 2 ^ (pv_N (pw_g h 17) sd 24).toNat := po_p2E (by omega) hK
        rw [hK2] at hx18_1
        rw [hK] at hx18_2
        refine pw_ld E (pc' := 57) (st' := [pw_i k18_5]) rfl (fun _ => rfl) ?_
        refine pw_iret E rfl ?_
        exact ⟨I18, E18, ⟨hx18_2, ⟨_, rfl, by omega, by omega, by omega⟩⟩⟩
      · intro hc7
        change ¬ (pw_p2 (min x4 9) ≤ k18_6) at hc7
        have hsk : (k18_6).toNat < 2 ^ (pv_N (pw_g h 17) sd 24).toNat := pl_lt9 (by omega) (by omega)
        have w1 := po_Ws (q := k0) (m := 14) (s := k18_6) (by omega)
        refine pw_ld E (pc' := 29) (st' := [pw_i k18_6]) rfl (fun _ => rfl) ?_
        refine pw_call (m' := 326) (As := [pw_i k18_6]) (rest := []) (ls'' := [some (pw_i k18_6)]) (Nat.le_trans (by decide) hd) E rfl (fun _ => pw_iS rfl rfl rfl) (rfl : pm_ent 326 = some (1, 1, 15, 0, pmc_326)) rfl rfl (cm_326_s (pw_dp hd (by decide)) I18 (k18_6) (by omega) (by omega)) ?_
        rintro u9 v8 ⟨rfl, x10, rfl, hx10a, hx10b, hx10r⟩
        refine ⟨_, rfl, ?_⟩
        show pw X d gh18 91 32 [some (.ref 32), some (pw_i sd), some (pw_i k0), some (.ref 36), some (pw_i (min x4 9)), some (pw_i k18_5), some (pw_i k18_6)] [pw_i x10] _
        change x10 = (pb_n k18_6.toNat 14 : Int) at hx10r
        refine pw_ld E (pc' := 33) (st' := [pw_i k0, pw_i x10]) rfl (fun _ => rfl) ?_
        refine pw_if2 E (pc' := 49) rfl (by decide) (by omega) (by omega) (by omega) (by omega) ?_ ?_
        · intro hc11
          change x10 ≠ k0 at hc11
          have w2 := w1.2 (by omega)
          refine pw_inc E (pc' := 52) (ls' := [some (.ref 32), some (pw_i sd), some (pw_i k0), some (.ref 36), some (pw_i (min x4 9)), some (pw_i k18_5), some (pw_i (k18_6 + 1))]) rfl rfl rfl rfl ?_
          refine pw_goto E (pc' := 18) rfl (by decide) ?_
          exact ih18 _ (by omega) (k18_5) (k18_6 + 1) gh18 I18 E18 (by omega) (by omega) (by omega) (by omega) (by omega) (by omega) (by first | exact pl_A.yes hx18_2 rfl (by omega) (by omega) hx18_1 hkk hv (by omega) (by omega) I18 (by assumption) | exact pl_A.no hx18_2 (by omega) (by omega)) (by omega) (by omega) (by first | exact (fun j hj => by rw [hrw2]; exact hx18_5 j hj) | exact hx18_5) rfl
        · intro hc12
          change ¬ (x10 ≠ k0) at hc12
          refine pw_ld E (pc' := 37) (st' := [.ref 36]) rfl (fun _ => rfl) ?_
          refine pw_ld E (pc' := 39) (st' := [pw_i k18_5, .ref 36]) rfl (fun _ => rfl) ?_
          refine pw_ld E (pc' := 40) (st' := [.ref 32, pw_i k18_5, .ref 36]) rfl (fun _ => rfl) ?_
          refine pw_ld E (pc' := 42) (st' := [pw_i k18_6, .ref 32, pw_i k18_5, .ref 36]) rfl (fun _ => rfl) ?_
          obtain ⟨f13l, f13h, -⟩ := pw_obj (c := 16) I18 rfl
          refine pw_call (m' := 89) (As := [.ref 32, pw_i k18_6]) (rest := [pw_i k18_5, .ref 36]) (ls'' := [some (.ref 32), some (pw_i k18_6), none, none]) (Nat.le_trans (by decide) hd) E rfl (fun _ => pw_iV rfl rfl rfl rfl (pw_cellI f13h rfl)) (rfl : pm_ent 89 = some (2, 4, 8, 0, pmc_89)) rfl rfl (cm_89_s (pw_dp hd (by decide)) I18 (k18_6) (by omega) (by omega) (pl_rowB (a := pv_N (pw_g h 17) sd 24) hsk (fun j hj => by rw [hx18_5 j hj]; exact pc_GB 24 (fun k hk hs => hp0 k hk (by omega)) j hj))) ?_
          rintro u15 v14 ⟨rfl, x16, rfl, hx16a, hx16b, hx16r⟩
          refine ⟨_, rfl, ?_⟩
          show pw X d gh18 91 45 [some (.ref 32), some (pw_i sd), some (pw_i k0), some (.ref 36), some (pw_i (min x4 9)), some (pw_i k18_5), some (pw_i k18_6)] [pw_i x16, pw_i k18_5, .ref 36] _
          change x16 = pb_S (pw_g gh18 19) k18_6.toNat 14 at hx16r
          have hv : x16 = pl_T (pw_g h 17) (pw_g h 18) sd (k18_6).toNat := by rw [hx16r]; exact pl_14 hsk hx18_5
          have hkk : (pb_n (k18_6).toNat 14 : Int) = k0 := by omega
          have hW5 := po_WL (q := k0) (m := 14) (a := (k18_6).toNat) (b := 2 ^ (pv_N (pw_g h 17) sd 24).toNat) hsk hkk
          have hWB := po_B (r := fun _ => 0) (al := 0) (tf := 0) (ow := 0) (q := k0) (m := 14) (2 ^ (pv_N (pw_g h 17) sd 24).toNat)
          have hP := pl_pow (a := pv_N (pw_g h 17) sd 24) (by omega)
          refine pw_ast0 I18 E (c := 20) (pc' := 46) rfl rfl rfl (by decide) rfl (by decide) (by omega) (by omega) rfl (by omega) (by omega) (by omega) (by omega) rfl ?_
          intro h17I h17E
          generalize h17w : pw_w gh18 20 (k18_5.toNat) (pw_i x16) = h17 at h17I h17E ⊢
          have h17F := E18.tr (h17E.wk (W' := [19, 20]) (by first | rfl | simp))
          refine pw_inc E (pc' := 49) (ls' := [some (.ref 32), some (pw_i sd), some (pw_i k0), some (.ref 36), some (pw_i (min x4 9)), some (pw_i (k18_5 + 1)), some (pw_i k18_6)]) rfl rfl rfl rfl ?_
          have hrw2 : pw_g h17 19 = pw_g gh18 19 := funext (fun j => by rw [← h17w]; exact pw_g_ne (by omega))
          have w2 := w1.1 hkk
          refine pw_inc E (pc' := 52) (ls' := [some (.ref 32), some (pw_i sd), some (pw_i k0), some (.ref 36), some (pw_i (min x4 9)), some (pw_i (k18_5 + 1)), some (pw_i (k18_6 + 1))]) rfl rfl rfl rfl ?_
          refine pw_goto E (pc' := 18) rfl (by decide) ?_
          exact ih18 _ (by omega) (k18_5 + 1) (k18_6 + 1) h17 h17I h17F (by omega) (by omega) (by omega) (by omega) (by omega) (by omega) (by first | exact pl_A.yes hx18_2 rfl (by omega) (by omega) hx18_1 hkk hv (by omega) (by omega) I18 (by assumption) | exact pl_A.no hx18_2 (by omega) (by omega)) (by omega) (by omega) (by first | exact (fun j hj => by rw [hrw2]; exact hx18_5 j hj) | exact hx18_5) rfl
  exact L18 _ (0) (0) h2 h2I h2F (by omega) (by omega) (by omega) (by omega) (by omega) rfl pl_A.z (by omega) (by omega) hH2 rfl
set_option maxHeartbeats 4000000 in
theorem cm_91_21s {X : List (Nat × List Value)} {d : Nat} {h : pm_H} (hd : 2 ≤ d) (I : pw_I h) (sd : Int) (hsd1 : 0 ≤ sd) (hsd2 : sd ≤ 1) (k0 : Int) (hk01 : 1 ≤ k0) (hk02 : k0 ≤ 9) (hp0 : pv_Bd h) (hp1 : pv_N (pw_g h 17) sd 24 ≤ 9) : pw X d h 91 0 [some (.ref 32), some (pw_i sd), some (pw_i k0), some (.ref 37), none, none, none] [] (fun h' v => pw_I h' ∧ pw_E [19, 21] h h' ∧ (pl_A (pl_T (pw_g h 17) (pw_g h 18) sd) k0 14 (pw_g h' 21) (pw_p2 (pv_N (pw_g h 17) sd 24))) ∧ (∃ a : Int, v = .inl (some (pw_i a)) ∧ 0 ≤ a ∧ a ≤ 512 ∧ (a = po_W k0 14 (2 ^ (pv_N (pw_g h 17) sd 24).toNat)))) := by
  have E : pm_ent 91 = some (4, 7, 8, 0, pmc_91) := rfl
  have E0 : pw_E [19, 21] h h := pw_E.rf _ _
  refine pw_ld E (pc' := 1) (st' := [.ref 32]) rfl (fun _ => rfl) ?_
  refine pw_ld E (pc' := 2) (st' := [pw_i sd, .ref 32]) rfl (fun _ => rfl) ?_
  obtain ⟨f1l, f1h, -⟩ := pw_obj (c := 16) I rfl
  refine pw_call (m' := 92) (As := [.ref 32, pw_i sd]) (rest := []) (ls'' := [some (.ref 32), some (pw_i sd), none, none]) (Nat.le_trans (by decide) hd) E rfl (fun _ => pw_iV rfl rfl rfl rfl (pw_cellI f1h rfl)) (rfl : pm_ent 92 = some (2, 4, 8, 0, pmc_92)) rfl rfl (cm_92_s (pw_dp hd (by decide)) I (sd) (by omega) (by omega)) ?_
  rintro h2 v3 ⟨h2I, h2E, hqga, x4, rfl, hx4a, hx4b, hx4r⟩
  refine ⟨_, rfl, ?_⟩
  have h2F := E0.tr (h2E.wk (W' := [19, 21]) (by first | rfl | simp))
  show pw X d h2 91 5 [some (.ref 32), some (pw_i sd), some (pw_i k0), some (.ref 37), none, none, none] [pw_i x4] _
  change x4 = pv_N (pw_g h 17) sd 24 at hx4r
  have hH2 : ∀ j : Nat, (j : Int) < pv_N (pw_g h 17) sd 24 → pw_g h2 19 j = pc_G (pw_g h 17) (pw_g h 18) sd 24 j := hqga.row
  have hRB := pc_GA.rowB hqga (fun k hk hs => hp0 k hk (by omega))
  refine pw_bip E (pc' := 7) rfl rfl (by decide) ?_
  refine pw_min E rfl rfl (by omega) (by omega) (by decide) (by decide) rfl ?_
  have hmn : min x4 9 = pv_N (pw_g h 17) sd 24 := by omega
  have hpm : pw_p2 (min x4 9) = pw_p2 (pv_N (pw_g h 17) sd 24) := by rw [hmn]
  have hn0 := pv_NB (sd := pw_g h 17) (s := sd) 24
  have hp9 := pw_p2_le (a := pv_N (pw_g h 17) sd 24) (b := 9) (by omega)
  have e9 : pw_p2 9 = 512 := rfl
  have hp1 := pw_p2_r (a := pv_N (pw_g h 17) sd 24) (by omega) (by omega)
  refine pw_ist E (pc' := 12) (ls' := [some (.ref 32), some (pw_i sd), some (pw_i k0), some (.ref 37), some (pw_i (min x4 9)), none, none]) rfl rfl rfl rfl ?_
  refine pw_ld E (pc' := 13) (st' := [pw_i 0]) rfl (fun _ => rfl) ?_
  refine pw_ist E (pc' := 15) (ls' := [some (.ref 32), some (pw_i sd), some (pw_i k0), some (.ref 37), some (pw_i (min x4 9)), some (pw_i 0), none]) rfl rfl rfl rfl ?_
  refine pw_ld E (pc' := 16) (st' := [pw_i 0]) rfl (fun _ => rfl) ?_
  refine pw_ist E (pc' := 18) (ls' := [some (.ref 32), some (pw_i sd), some (pw_i k0), some (.ref 37), some (pw_i (min x4 9)), some (pw_i 0), some (pw_i 0)]) rfl rfl rfl rfl ?_
  have L18 : ∀ (n18 : Nat) (k18_5 : Int) (k18_6 : Int) (gh18 : pm_H), pw_I gh18 → pw_E [19, 21] h gh18 → 0 ≤ k18_5 → k18_5 ≤ 512 → 0 ≤ k18_6 → k18_6 ≤ 512 → k18_5 ≤ k18_6 → k18_5 = po_W k0 14 (k18_6).toNat → pl_A (pl_T (pw_g h 17) (pw_g h 18) sd) k0 14 (pw_g gh18 21) k18_6 → k18_6 ≤ pw_p2 (pv_N (pw_g h 17) sd 24) → 0 ≤ k18_6 → (∀ j : Nat, (j : Int) < pv_N (pw_g h 17) sd 24 → pw_g gh18 19 j = pc_G (pw_g h 17) (pw_g h 18) sd 24 j) → (512 - k18_6).toNat = n18 → pw X d gh18 91 18 [some (.ref 32), some (pw_i sd), some (pw_i k0), some (.ref 37), some (pw_i (min x4 9)), some (pw_i k18_5), some (pw_i k18_6)] [] (fun h' v => pw_I h' ∧ pw_E [19, 21] h h' ∧ (pl_A (pl_T (pw_g h 17) (pw_g h 18) sd) k0 14 (pw_g h' 21) (pw_p2 (pv_N (pw_g h 17) sd 24))) ∧ (∃ a : Int, v = .inl (some (pw_i a)) ∧ 0 ≤ a ∧ a ≤ 512 ∧ (a = po_W k0 14 (2 ^ (pv_N (pw_g h 17) sd 24).toNat)))) := by
    intro n18
    induction n18 using Nat.strongRecOn with
    | ind n18 ih18 =>
      intro k18_5 k18_6 gh18 I18 E18 k18_5a k18_5b k18_6a k18_6b hx18_0 hx18_1 hx18_2 hx18_3 hx18_4 hx18_5 hm18
      refine pw_ld E (pc' := 20) (st' := [pw_i k18_6]) rfl (fun _ => rfl) ?_
      refine pw_ld E (pc' := 21) (st' := [pw_i 1, pw_i k18_6]) rfl (fun _ => rfl) ?_
      refine pw_ld E (pc' := 23) (st' := [pw_i (min x4 9), pw_i 1, pw_i k18_6]) rfl (fun _ => rfl) ?_
      refine pw_shlE E (pc' := 24) rfl rfl (by omega) (by omega) ?_
      have hp5 := pw_p2_r (a := min x4 9) (by omega) (by omega)
      refine pw_if2 E (pc' := 55) rfl (by decide) (by omega) (by omega) (by omega) (by omega) ?_ ?_
      · intro hc6
        change pw_p2 (min x4 9) ≤ k18_6 at hc6
        have hK : k18_6 = pw_p2 (pv_N (pw_g h 17) sd 24) := by omega
        have hK2 : (k18_6).toNat = 2 ^ (pv_N (pw_g h 17) sd 24).toNat := po_p2E (by omega) hK
        rw [hK2] at hx18_1
        rw [hK] at hx18_2
        refine pw_ld E (pc' := 57) (st' := [pw_i k18_5]) rfl (fun _ => rfl) ?_
        refine pw_iret E rfl ?_
        exact ⟨I18, E18, ⟨hx18_2, ⟨_, rfl, by omega, by omega, by omega⟩⟩⟩
      · intro hc7
        change ¬ (pw_p2 (min x4 9) ≤ k18_6) at hc7
        have hsk : (k18_6).toNat < 2 ^ (pv_N (pw_g h 17) sd 24).toNat := pl_lt9 (by omega) (by omega)
        have w1 := po_Ws (q := k0) (m := 14) (s := k18_6) (by omega)
        refine pw_ld E (pc' := 29) (st' := [pw_i k18_6]) rfl (fun _ => rfl) ?_
        refine pw_call (m' := 326) (As := [pw_i k18_6]) (rest := []) (ls'' := [some (pw_i k18_6)]) (Nat.le_trans (by decide) hd) E rfl (fun _ => pw_iS rfl rfl rfl) (rfl : pm_ent 326 = some (1, 1, 15, 0, pmc_326)) rfl rfl (cm_326_s (pw_dp hd (by decide)) I18 (k18_6) (by omega) (by omega)) ?_
        rintro u9 v8 ⟨rfl, x10, rfl, hx10a, hx10b, hx10r⟩
        refine ⟨_, rfl, ?_⟩
        show pw X d gh18 91 32 [some (.ref 32), some (pw_i sd), some (pw_i k0), some (.ref 37), some (pw_i (min x4 9)), some (pw_i k18_5), some (pw_i k18_6)] [pw_i x10] _
        change x10 = (pb_n k18_6.toNat 14 : Int) at hx10r
        refine pw_ld E (pc' := 33) (st' := [pw_i k0, pw_i x10]) rfl (fun _ => rfl) ?_
        refine pw_if2 E (pc' := 49) rfl (by decide) (by omega) (by omega) (by omega) (by omega) ?_ ?_
        · intro hc11
          change x10 ≠ k0 at hc11
          have w2 := w1.2 (by omega)
          refine pw_inc E (pc' := 52) (ls' := [some (.ref 32), some (pw_i sd), some (pw_i k0), some (.ref 37), some (pw_i (min x4 9)), some (pw_i k18_5), some (pw_i (k18_6 + 1))]) rfl rfl rfl rfl ?_
          refine pw_goto E (pc' := 18) rfl (by decide) ?_
          exact ih18 _ (by omega) (k18_5) (k18_6 + 1) gh18 I18 E18 (by omega) (by omega) (by omega) (by omega) (by omega) (by omega) (by first | exact pl_A.yes hx18_2 rfl (by omega) (by omega) hx18_1 hkk hv (by omega) (by omega) I18 (by assumption) | exact pl_A.no hx18_2 (by omega) (by omega)) (by omega) (by omega) (by first | exact (fun j hj => by rw [hrw2]; exact hx18_5 j hj) | exact hx18_5) rfl
        · intro hc12
          change ¬ (x10 ≠ k0) at hc12
          refine pw_ld E (pc' := 37) (st' := [.ref 37]) rfl (fun _ => rfl) ?_
          refine pw_ld E (pc' := 39) (st' := [pw_i k18_5, .ref 37]) rfl (fun _ => rfl) ?_
          refine pw_ld E (pc' := 40) (st' := [.ref 32, pw_i k18_5, .ref 37]) rfl (fun _ => rfl) ?_
          refine pw_ld E (pc' := 42) (st' := [pw_i k18_6, .ref 32, pw_i k18_5, .ref 37]) rfl (fun _ => rfl) ?_
          obtain ⟨f13l, f13h, -⟩ := pw_obj (c := 16) I18 rfl
          refine pw_call (m' := 89) (As := [.ref 32, pw_i k18_6]) (rest := [pw_i k18_5, .ref 37]) (ls'' := [some (.ref 32), some (pw_i k18_6), none, none]) (Nat.le_trans (by decide) hd) E rfl (fun _ => pw_iV rfl rfl rfl rfl (pw_cellI f13h rfl)) (rfl : pm_ent 89 = some (2, 4, 8, 0, pmc_89)) rfl rfl (cm_89_s (pw_dp hd (by decide)) I18 (k18_6) (by omega) (by omega) (pl_rowB (a := pv_N (pw_g h 17) sd 24) hsk (fun j hj => by rw [hx18_5 j hj]; exact pc_GB 24 (fun k hk hs => hp0 k hk (by omega)) j hj))) ?_
          rintro u15 v14 ⟨rfl, x16, rfl, hx16a, hx16b, hx16r⟩
          refine ⟨_, rfl, ?_⟩
          show pw X d gh18 91 45 [some (.ref 32), some (pw_i sd), some (pw_i k0), some (.ref 37), some (pw_i (min x4 9)), some (pw_i k18_5), some (pw_i k18_6)] [pw_i x16, pw_i k18_5, .ref 37] _
          change x16 = pb_S (pw_g gh18 19) k18_6.toNat 14 at hx16r
          have hv : x16 = pl_T (pw_g h 17) (pw_g h 18) sd (k18_6).toNat := by rw [hx16r]; exact pl_14 hsk hx18_5
          have hkk : (pb_n (k18_6).toNat 14 : Int) = k0 := by omega
          have hW5 := po_WL (q := k0) (m := 14) (a := (k18_6).toNat) (b := 2 ^ (pv_N (pw_g h 17) sd 24).toNat) hsk hkk
          have hWB := po_B (r := fun _ => 0) (al := 0) (tf := 0) (ow := 0) (q := k0) (m := 14) (2 ^ (pv_N (pw_g h 17) sd 24).toNat)
          have hP := pl_pow (a := pv_N (pw_g h 17) sd 24) (by omega)
          refine pw_ast0 I18 E (c := 21) (pc' := 46) rfl rfl rfl (by decide) rfl (by decide) (by omega) (by omega) rfl (by omega) (by omega) (by omega) (by omega) rfl ?_
          intro h17I h17E
          generalize h17w : pw_w gh18 21 (k18_5.toNat) (pw_i x16) = h17 at h17I h17E ⊢
          have h17F := E18.tr (h17E.wk (W' := [19, 21]) (by first | rfl | simp))
          refine pw_inc E (pc' := 49) (ls' := [some (.ref 32), some (pw_i sd), some (pw_i k0), some (.ref 37), some (pw_i (min x4 9)), some (pw_i (k18_5 + 1)), some (pw_i k18_6)]) rfl rfl rfl rfl ?_
          have hrw2 : pw_g h17 19 = pw_g gh18 19 := funext (fun j => by rw [← h17w]; exact pw_g_ne (by omega))
          have w2 := w1.1 hkk
          refine pw_inc E (pc' := 52) (ls' := [some (.ref 32), some (pw_i sd), some (pw_i k0), some (.ref 37), some (pw_i (min x4 9)), some (pw_i (k18_5 + 1)), some (pw_i (k18_6 + 1))]) rfl rfl rfl rfl ?_
          refine pw_goto E (pc' := 18) rfl (by decide) ?_
          exact ih18 _ (by omega) (k18_5 + 1) (k18_6 + 1) h17 h17I h17F (by omega) (by omega) (by omega) (by omega) (by omega) (by omega) (by first | exact pl_A.yes hx18_2 rfl (by omega) (by omega) hx18_1 hkk hv (by omega) (by omega) I18 (by assumption) | exact pl_A.no hx18_2 (by omega) (by omega)) (by omega) (by omega) (by first | exact (fun j hj => by rw [hrw2]; exact hx18_5 j hj) | exact hx18_5) rfl
  exact L18 _ (0) (0) h2 h2I h2F (by omega) (by omega) (by omega) (by omega) (by omega) rfl pl_A.z (by omega) (by omega) hH2 rfl
set_option maxHeartbeats 4000000 in
theorem cm_90_s {X : List (Nat × List Value)} {d : Nat} {h : pm_H} (hd : 3 ≤ d) (I : pw_I h) (k0 : Int) (hk01 : 1 ≤ k0) (hk02 : k0 ≤ 9) (hp0 : pv_Bd h) (hp1 : pv_N (pw_g h 17) 0 24 ≤ 9) (hp2 : pv_N (pw_g h 17) 1 24 ≤ 9) (hp3 : k0 ≤ pv_N (pw_g h 17) 0 24) (hp4 : k0 ≤ pv_N (pw_g h 17) 1 24) : pw X d h 90 0 [some (.ref 32), some (pw_i k0), some (.ref 38), none, none, none, none, none, none, none] [] (fun h' v => pw_I h' ∧ pw_E [19, 20, 21, 22] h h' ∧ (pw_gm h' 22 0 = Int.tdiv (pl_X (pw_g h 17) (pw_g h 18) k0) (pw_gd (pl_X (pw_g h 17) (pw_g h 18) k0) (pl_Y (pw_g h 17) k0)) ∧ pw_gm h' 22 1 = Int.tdiv (pl_Y (pw_g h 17) k0) (pw_gd (pl_X (pw_g h 17) (pw_g h 18) k0) (pl_Y (pw_g h 17) k0))) ∧ (v = .inl none)) := by
  have E : pm_ent 90 = some (3, 10, 8, 4, pmc_90) := rfl
  have E0 : pw_E [19, 20, 21, 22] h h := pw_E.rf _ _
  have hB := hp0
  refine pw_ld E (pc' := 1) (st' := [.ref 32]) rfl (fun _ => rfl) ?_
  refine pw_ld E (pc' := 2) (st' := [pw_i 0, .ref 32]) rfl (fun _ => rfl) ?_
  obtain ⟨f1l, f1h, -⟩ := pw_obj (c := 16) I rfl
  refine pw_call (m' := 85) (As := [.ref 32, pw_i 0]) (rest := []) (ls'' := [some (.ref 32), some (pw_i 0), none, none]) (Nat.le_trans (by decide) hd) E rfl (fun _ => pw_iV rfl rfl rfl rfl (pw_cellI f1h rfl)) (rfl : pm_ent 85 = some (2, 4, 8, 0, pmc_85)) rfl rfl (cm_85_s (pw_dp hd (by decide)) I (0) (by omega) (by omega) hB) ?_
  rintro u3 v2 ⟨rfl, x4, rfl, hx4a, hx4b, hx4r⟩
  refine ⟨_, rfl, ?_⟩
  show pw X d h 90 5 [some (.ref 32), some (pw_i k0), some (.ref 38), none, none, none, none, none, none, none] [pw_i x4] _
  change x4 = pv_S (pw_g h 17) (pw_g h 18) 0 24 at hx4r
  refine pw_i2l E (pc' := 6) rfl rfl (by omega) (by omega) ?_
  refine pw_ld E (pc' := 7) (st' := [.ref 32, .long (Int64.ofInt x4)]) rfl (fun _ => rfl) ?_
  refine pw_ld E (pc' := 8) (st' := [pw_i 1, .ref 32, .long (Int64.ofInt x4)]) rfl (fun _ => rfl) ?_
  obtain ⟨f5l, f5h, -⟩ := pw_obj (c := 16) I rfl
  refine pw_call (m' := 84) (As := [.ref 32, pw_i 1]) (rest := [.long (Int64.ofInt x4)]) (ls'' := [some (.ref 32), some (pw_i 1), none, none]) (Nat.le_trans (by decide) hd) E rfl (fun _ => pw_iV rfl rfl rfl rfl (pw_cellI f5h rfl)) (rfl : pm_ent 84 = some (2, 4, 8, 0, pmc_84)) rfl rfl (cm_84_s (pw_dp hd (by decide)) I (1) (by omega) (by omega)) ?_
  rintro u7 v6 ⟨rfl, x8, rfl, hx8a, hx8b, hx8r⟩
  refine ⟨_, rfl, ?_⟩
  show pw X d h 90 11 [some (.ref 32), some (pw_i k0), some (.ref 38), none, none, none, none, none, none, none] [pw_i x8, .long (Int64.ofInt x4)] _
  change x8 = pv_N (pw_g h 17) 1 24 at hx8r
  refine pw_i2l E (pc' := 12) rfl rfl (by omega) (by omega) ?_
  have hm9 := pw_mulS (a := x4) (b := x8) (A := 48000) (B := 24) (by omega) (by omega) (by omega) (by omega)
  refine pw_lmul E (pc' := 13) rfl rfl ?_
  refine pw_ld E (pc' := 14) (st' := [.ref 32, .long (Int64.ofInt (x4 * x8))]) rfl (fun _ => rfl) ?_
  refine pw_ld E (pc' := 15) (st' := [pw_i 1, .ref 32, .long (Int64.ofInt (x4 * x8))]) rfl (fun _ => rfl) ?_
  obtain ⟨f10l, f10h, -⟩ := pw_obj (c := 16) I rfl
  refine pw_call (m' := 85) (As := [.ref 32, pw_i 1]) (rest := [.long (Int64.ofInt (x4 * x8))]) (ls'' := [some (.ref 32), some (pw_i 1), none, none]) (Nat.le_trans (by decide) hd) E rfl (fun _ => pw_iV rfl rfl rfl rfl (pw_cellI f10h rfl)) (rfl : pm_ent 85 = some (2, 4, 8, 0, pmc_85)) rfl rfl (cm_85_s (pw_dp hd (by decide)) I (1) (by omega) (by omega) hB) ?_
  rintro u12 v11 ⟨rfl, x13, rfl, hx13a, hx13b, hx13r⟩
  refine ⟨_, rfl, ?_⟩
  show pw X d h 90 18 [some (.ref 32), some (pw_i k0), some (.ref 38), none, none, none, none, none, none, none] [pw_i x13, .long (Int64.ofInt (x4 * x8))] _
  change x13 = pv_S (pw_g h 17) (pw_g h 18) 1 24 at hx13r
  refine pw_i2l E (pc' := 19) rfl rfl (by omega) (by omega) ?_
  refine pw_ld E (pc' := 20) (st' := [.ref 32, .long (Int64.ofInt x13), .long (Int64.ofInt (x4 * x8))]) rfl (fun _ => rfl) ?_
  refine pw_ld E (pc' := 21) (st' := [pw_i 0, .ref 32, .long (Int64.ofInt x13), .long (Int64.ofInt (x4 * x8))]) rfl (fun _ => rfl) ?_
  obtain ⟨f14l, f14h, -⟩ := pw_obj (c := 16) I rfl
  refine pw_call (m' := 84) (As := [.ref 32, pw_i 0]) (rest := [.long (Int64.ofInt x13), .long (Int64.ofInt (x4 * x8))]) (ls'' := [some (.ref 32), some (pw_i 0), none, none]) (Nat.le_trans (by decide) hd) E rfl (fun _ => pw_iV rfl rfl rfl rfl (pw_cellI f14h rfl)) (rfl : pm_ent 84 = some (2, 4, 8, 0, pmc_84)) rfl rfl (cm_84_s (pw_dp hd (by decide)) I (0) (by omega) (by omega)) ?_
  rintro u16 v15 ⟨rfl, x17, rfl, hx17a, hx17b, hx17r⟩
  refine ⟨_, rfl, ?_⟩
  show pw X d h 90 24 [some (.ref 32), some (pw_i k0), some (.ref 38), none, none, none, none, none, none, none] [pw_i x17, .long (Int64.ofInt x13), .long (Int64.ofInt (x4 * x8))] _
  change x17 = pv_N (pw_g h 17) 0 24 at hx17r
  refine pw_i2l E (pc' := 25) rfl rfl (by omega) (by omega) ?_
  have hm18 := pw_mulS (a := x13) (b := x17) (A := 48000) (B := 24) (by omega) (by omega) (by omega) (by omega)
  refine pw_lmul E (pc' := 26) rfl rfl ?_
  refine pw_call (m' := 328) (As := [.long (Int64.ofInt (x4 * x8)), .long (Int64.ofInt (x13 * x17))]) (rest := []) (ls'' := [some (.long (Int64.ofInt (x4 * x8))), none, some (.long (Int64.ofInt (x13 * x17))), none]) (Nat.le_trans (by decide) hd) E rfl (fun _ => pw_iS rfl rfl rfl) (rfl : pm_ent 328 = some (2, 4, 16, 0, pmc_328)) rfl rfl (cm_328_s (pw_dp hd (by decide)) I (x4 * x8) (by omega) (by omega) (x13 * x17) (by omega) (by omega)) ?_
  rintro u20 v19 ⟨rfl, x21, rfl, hx21a, hx21b, hx21r⟩
  refine ⟨_, rfl, ?_⟩
  show pw X d h 90 29 [some (.ref 32), some (pw_i k0), some (.ref 38), none, none, none, none, none, none, none] [pw_i x21] _
  change x21 = pl_sg ((x4 * x8) - (x13 * x17)) at hx21r
  have hsg : x21 = pl_sg (pv_U (pw_g h 17) (pw_g h 18)) := by rw [hx21r]; unfold pv_U; rw [← hx4r, ← hx8r, ← hx13r, ← hx17r]
  refine pw_istn E (pc' := 30) (ls' := [some (.ref 32), some (pw_i k0), some (.ref 38), some (pw_i x21), none, none, none, none, none, none]) rfl rfl rfl rfl ?_
  refine pw_ld E (pc' := 31) (st' := [.ref 32]) rfl (fun _ => rfl) ?_
  refine pw_ld E (pc' := 32) (st' := [pw_i 0, .ref 32]) rfl (fun _ => rfl) ?_
  refine pw_ld E (pc' := 33) (st' := [pw_i k0, pw_i 0, .ref 32]) rfl (fun _ => rfl) ?_
  refine pw_ld E (pc' := 34) (st' := [.ref 32, pw_i k0, pw_i 0, .ref 32]) rfl (fun _ => rfl) ?_
  refine pw_getR (b := 36) I E (c := 16) (k := 3) (pc' := 37) rfl rfl rfl rfl rfl rfl rfl ?_
  obtain ⟨f22l, f22h, -⟩ := pw_obj (c := 16) I rfl
  refine pw_call (m' := 91) (As := [.ref 32, pw_i 0, pw_i k0, .ref 36]) (rest := []) (ls'' := [some (.ref 32), some (pw_i 0), some (pw_i k0), some (.ref 36), none, none, none]) (Nat.le_trans (by decide) hd) E rfl (fun _ => pw_iV rfl rfl rfl rfl (pw_cellI f22h rfl)) (rfl : pm_ent 91 = some (4, 7, 8, 0, pmc_91)) rfl rfl (cm_91_20s (pw_dp hd (by decide)) I (0) (by omega) (by omega) (k0) (by omega) (by omega) hB (by omega)) ?_
  rintro h23 v24 ⟨h23I, h23E, hqdr, x25, rfl, hx25a, hx25b, hx25r⟩
  refine ⟨_, rfl, ?_⟩
  have h23F := E0.tr (h23E.wk (W' := [19, 20, 21, 22]) (by first | rfl | simp))
  show pw X d h23 90 40 [some (.ref 32), some (pw_i k0), some (.ref 38), some (pw_i x21), none, none, none, none, none, none] [pw_i x25] _
  change x25 = po_W k0 14 (2 ^ (pv_N (pw_g h 17) 0 24).toNat) at hx25r
  have hs7 : pw_g h23 17 = pw_g h 17 := funext (fun j => pw_Eg (c := 17) I h23F rfl rfl j)
  have hs8 : pw_g h23 18 = pw_g h 18 := funext (fun j => pw_Eg (c := 18) I h23F rfl rfl j)
  have hB2 : pv_Bd h23 := by unfold pv_Bd; rw [hs7, hs8]; exact hp0
  have eN2 : pv_N (pw_g h23 17) 1 24 = pv_N (pw_g h 17) 1 24 := by rw [hs7]
  have hA0 := hqdr
  refine pw_ist E (pc' := 42) (ls' := [some (.ref 32), some (pw_i k0), some (.ref 38), some (pw_i x21), some (pw_i x25), none, none, none, none, none]) rfl rfl rfl rfl ?_
  refine pw_ld E (pc' := 43) (st' := [.ref 32]) rfl (fun _ => rfl) ?_
  refine pw_ld E (pc' := 44) (st' := [pw_i 1, .ref 32]) rfl (fun _ => rfl) ?_
  refine pw_ld E (pc' := 45) (st' := [pw_i k0, pw_i 1, .ref 32]) rfl (fun _ => rfl) ?_
  refine pw_ld E (pc' := 46) (st' := [.ref 32, pw_i k0, pw_i 1, .ref 32]) rfl (fun _ => rfl) ?_
  refine pw_getR (b := 37) h23I E (c := 16) (k := 4) (pc' := 49) rfl rfl rfl rfl rfl rfl rfl ?_
  obtain ⟨f26l, f26h, -⟩ := pw_obj (c := 16) h23I rfl
  refine pw_call (m' := 91) (As := [.ref 32, pw_i 1, pw_i k0, .ref 37]) (rest := []) (ls'' := [some (.ref 32), some (pw_i 1), some (pw_i k0), some (.ref 37), none, none, none]) (Nat.le_trans (by decide) hd) E rfl (fun _ => pw_iV rfl rfl rfl rfl (pw_cellI f26h rfl)) (rfl : pm_ent 91 = some (4, 7, 8, 0, pmc_91)) rfl rfl (cm_91_21s (pw_dp hd (by decide)) h23I (1) (by omega) (by omega) (k0) (by omega) (by omega) hB2 (by omega)) ?_
  rintro h27 v28 ⟨h27I, h27E, hqdr, x29, rfl, hx29a, hx29b, hx29r⟩
  refine ⟨_, rfl, ?_⟩
  have h27F := h23F.tr (h27E.wk (W' := [19, 20, 21, 22]) (by first | rfl | simp))
  show pw X d h27 90 52 [some (.ref 32), some (pw_i k0), some (.ref 38), some (pw_i x21), some (pw_i x25), none, none, none, none, none] [pw_i x29] _
  change x29 = po_W k0 14 (2 ^ (pv_N (pw_g h23 17) 1 24).toNat) at hx29r
  have hA1 := hqdr
  rw [hs7, hs8] at hA1
  have e20 : pw_g h27 20 = pw_g h23 20 := funext (fun j => pw_Eg (c := 20) h23I h27E rfl rfl j)
  rw [← e20] at hA0
  rw [hs7] at hx29r
  rw [pl_p2N] at hA0 hA1
  have w0 := pl_WB (m := 14) (k := k0) (a := pv_N (pw_g h 17) 0 24) (by omega) (by omega) (by omega) (by decide) (by decide)
  have w1 := pl_WB (m := 14) (k := k0) (a := pv_N (pw_g h 17) 1 24) (by omega) (by omega) (by omega) (by decide) (by decide)
  refine pw_ist E (pc' := 54) (ls' := [some (.ref 32), some (pw_i k0), some (.ref 38), some (pw_i x21), some (pw_i x25), some (pw_i x29), none, none, none, none]) rfl rfl rfl rfl ?_
  refine pw_ld E (pc' := 55) (st' := [.long (Int64.ofInt 0)]) rfl (fun _ => rfl) ?_
  refine pw_lst E (pc' := 57) (ls' := [some (.ref 32), some (pw_i k0), some (.ref 38), some (pw_i x21), some (pw_i x25), some (pw_i x29), some (.long (Int64.ofInt 0)), none, none, none]) rfl rfl rfl rfl ?_
  refine pw_ld E (pc' := 58) (st' := [pw_i 0]) rfl (fun _ => rfl) ?_
  refine pw_ist E (pc' := 60) (ls' := [some (.ref 32), some (pw_i k0), some (.ref 38), some (pw_i x21), some (pw_i x25), some (pw_i x29), some (.long (Int64.ofInt 0)), none, some (pw_i 0), none]) rfl rfl rfl rfl ?_
  have L60 : ∀ (n60 : Nat) (k60_6 : Int) (k60_8 : Int) (k60_9 : Option Value), 0 ≤ k60_6 → k60_6 ≤ 262144 → 0 ≤ k60_8 → k60_8 ≤ 512 → k60_6 = pl_o (pw_g h27 20) (pw_g h27 21) (pl_sg (pv_U (pw_g h 17) (pw_g h 18))) (po_W k0 14 (2 ^ (pv_N (pw_g h 17) 1 24).toNat)).toNat (k60_8).toNat → k60_6 ≤ 512 * k60_8 → k60_8 ≤ po_W k0 14 (2 ^ (pv_N (pw_g h 17) 0 24).toNat) → (512 - k60_8).toNat = n60 → pw X d h27 90 60 [some (.ref 32), some (pw_i k0), some (.ref 38), some (pw_i x21), some (pw_i x25), some (pw_i x29), some (.long (Int64.ofInt k60_6)), none, some (pw_i k60_8), k60_9] [] (fun h' v => pw_I h' ∧ pw_E [19, 20, 21, 22] h h' ∧ (pw_gm h' 22 0 = Int.tdiv (pl_X (pw_g h 17) (pw_g h 18) k0) (pw_gd (pl_X (pw_g h 17) (pw_g h 18) k0) (pl_Y (pw_g h 17) k0)) ∧ pw_gm h' 22 1 = Int.tdiv (pl_Y (pw_g h 17) k0) (pw_gd (pl_X (pw_g h 17) (pw_g h 18) k0) (pl_Y (pw_g h 17) k0))) ∧ (v = .inl none)) := by
    intro n60
    induction n60 using Nat.strongRecOn with
    | ind n60 ih60 =>
      intro k60_6 k60_8 k60_9 k60_6a k60_6b k60_8a k60_8b hx60_0 hx60_1 hx60_2 hm60
      refine pw_ld E (pc' := 62) (st' := [pw_i k60_8]) rfl (fun _ => rfl) ?_
      refine pw_ld E (pc' := 64) (st' := [pw_i x25, pw_i k60_8]) rfl (fun _ => rfl) ?_
      refine pw_if2 E (pc' := 120) rfl (by decide) (by omega) (by omega) (by omega) (by omega) ?_ ?_
      · intro hc30
        change x25 ≤ k60_8 at hc30
        have eX : k60_6 = pl_X (pw_g h 17) (pw_g h 18) k0 := by rw [hx60_0, show (k60_8).toNat = (po_W k0 14 (2 ^ (pv_N (pw_g h 17) 0 24).toNat)).toNat by omega]; exact pl_reO hA1 _ hA0
        have hXB := pl_XB (sd := pw_g h 17) (ch := pw_g h 18) (k := k0) (by omega) (by omega) (by omega) (by omega) (by omega)
        refine pw_ld E (pc' := 121) (st' := [.ref 38]) rfl (fun _ => rfl) ?_
        refine pw_ld E (pc' := 123) (st' := [.long (Int64.ofInt k60_6), .ref 38]) rfl (fun _ => rfl) ?_
        refine pw_ld E (pc' := 125) (st' := [pw_i x25, .long (Int64.ofInt k60_6), .ref 38]) rfl (fun _ => rfl) ?_
        refine pw_i2l E (pc' := 126) rfl rfl (by omega) (by omega) ?_
        refine pw_ld E (pc' := 128) (st' := [pw_i x29, .long (Int64.ofInt x25), .long (Int64.ofInt k60_6), .ref 38]) rfl (fun _ => rfl) ?_
        refine pw_i2l E (pc' := 129) rfl rfl (by omega) (by omega) ?_
        have hm31 := pw_mulB (a := x25) (b := x29) (A := 512) (B := 512) (by omega) (by omega) (by omega) (by omega)
        refine pw_lmul E (pc' := 130) rfl rfl ?_
        have eY : x25 * x29 = pl_Y (pw_g h 17) k0 := by rw [hx25r, hx29r]; rfl
        obtain ⟨f32l, f32h, -⟩ := pw_obj (c := 22) h27I rfl
        refine pw_call (m' := 6) (As := [.ref 38, .long (Int64.ofInt k60_6), .long (Int64.ofInt (x25 * x29))]) (rest := []) (ls'' := [some (.ref 38), some (.long (Int64.ofInt k60_6)), none, some (.long (Int64.ofInt (x25 * x29))), none, none, none]) (Nat.le_trans (by decide) hd) E rfl (fun _ => pw_iV rfl rfl rfl rfl (pw_cellI f32h rfl)) (rfl : pm_ent 6 = some (3, 7, 1, 4, pmc_6)) rfl rfl (cm_6_22g (pw_dp hd (by decide)) h27I (k60_6) (by omega) (by omega) (x25 * x29) (by omega) (by omega)) ?_
        rintro h33 v34 ⟨h33I, h33E, hqfr, rfl⟩
        refine ⟨_, rfl, ?_⟩
        have h33F := h27F.tr (h33E.wk (W' := [19, 20, 21, 22]) (by first | rfl | simp))
        show pw X d h33 90 133 [some (.ref 32), some (pw_i k0), some (.ref 38), some (pw_i x21), some (pw_i x25), some (pw_i x29), some (.long (Int64.ofInt k60_6)), none, some (pw_i k60_8), k60_9] [] _
        refine pw_vret E rfl ?_
        rw [eX, eY] at hqfr
        exact ⟨h33I, h33F, ⟨hqfr.1, hqfr.2⟩, rfl⟩
      · intro hc35
        change ¬ (x25 ≤ k60_8) at hc35
        refine pw_ld E (pc' := 68) (st' := [pw_i 0]) rfl (fun _ => rfl) ?_
        refine pw_ist E (pc' := 70) (ls' := [some (.ref 32), some (pw_i k0), some (.ref 38), some (pw_i x21), some (pw_i x25), some (pw_i x29), some (.long (Int64.ofInt k60_6)), none, some (pw_i k60_8), some (pw_i 0)]) rfl rfl rfl rfl ?_
        have L70 : ∀ (n70 : Nat) (k70_6 : Int) (k70_9 : Int), 0 ≤ k70_6 → k70_6 ≤ 262144 → 0 ≤ k70_9 → k70_9 ≤ 512 → k70_6 = pl_o (pw_g h27 20) (pw_g h27 21) (pl_sg (pv_U (pw_g h 17) (pw_g h 18))) (po_W k0 14 (2 ^ (pv_N (pw_g h 17) 1 24).toNat)).toNat (k60_8).toNat + pl_i (pw_g h27 21) (pw_g h27 20 (k60_8).toNat) (pl_sg (pv_U (pw_g h 17) (pw_g h 18))) (k70_9).toNat → k70_6 ≤ 512 * k60_8 + k70_9 → k70_9 ≤ po_W k0 14 (2 ^ (pv_N (pw_g h 17) 1 24).toNat) → (512 - k70_9).toNat = n70 → pw X d h27 90 70 [some (.ref 32), some (pw_i k0), some (.ref 38), some (pw_i x21), some (pw_i x25), some (pw_i x29), some (.long (Int64.ofInt k70_6)), none, some (pw_i k60_8), some (pw_i k70_9)] [] (fun h' v => pw_I h' ∧ pw_E [19, 20, 21, 22] h h' ∧ (pw_gm h' 22 0 = Int.tdiv (pl_X (pw_g h 17) (pw_g h 18) k0) (pw_gd (pl_X (pw_g h 17) (pw_g h 18) k0) (pl_Y (pw_g h 17) k0)) ∧ pw_gm h' 22 1 = Int.tdiv (pl_Y (pw_g h 17) k0) (pw_gd (pl_X (pw_g h 17) (pw_g h 18) k0) (pl_Y (pw_g h 17) k0))) ∧ (v = .inl none)) := by
          intro n70
          induction n70 using Nat.strongRecOn with
          | ind n70 ih70 =>
            intro k70_6 k70_9 k70_6a k70_6b k70_9a k70_9b hx70_0 hx70_1 hx70_2 hm70
            refine pw_ld E (pc' := 72) (st' := [pw_i k70_9]) rfl (fun _ => rfl) ?_
            refine pw_ld E (pc' := 74) (st' := [pw_i x29, pw_i k70_9]) rfl (fun _ => rfl) ?_
            refine pw_if2 E (pc' := 114) rfl (by decide) (by omega) (by omega) (by omega) (by omega) ?_ ?_
            · intro hc36
              change x29 ≤ k70_9 at hc36
              have o3 := pl_oS (f := pw_g h27 20) (g := pw_g h27 21) (sgn := pl_sg (pv_U (pw_g h 17) (pw_g h 18))) (nb := (po_W k0 14 (2 ^ (pv_N (pw_g h 17) 1 24).toNat)).toNat) (i := k60_8) (by omega)
              rw [show (k70_9).toNat = (po_W k0 14 (2 ^ (pv_N (pw_g h 17) 1 24).toNat)).toNat by omega] at hx70_0
              refine pw_inc E (pc' := 117) (ls' := [some (.ref 32), some (pw_i k0), some (.ref 38), some (pw_i x21), some (pw_i x25), some (pw_i x29), some (.long (Int64.ofInt k70_6)), none, some (pw_i (k60_8 + 1)), some (pw_i k70_9)]) rfl rfl rfl rfl ?_
              refine pw_goto E (pc' := 60) rfl (by decide) ?_
              exact ih60 _ (by omega) (k70_6) (k60_8 + 1) (some (pw_i k70_9))  (by omega) (by omega) (by omega) (by omega) (by omega) (by omega) (by omega) rfl
            · intro hc37
              change ¬ (x29 ≤ k70_9) at hc37
              refine pw_ld E (pc' := 79) (st' := [.long (Int64.ofInt k70_6)]) rfl (fun _ => rfl) ?_
              refine pw_ld E (pc' := 80) (st' := [.ref 32, .long (Int64.ofInt k70_6)]) rfl (fun _ => rfl) ?_
              refine pw_getR (b := 36) h27I E (c := 16) (k := 3) (pc' := 83) rfl rfl rfl rfl rfl rfl rfl ?_
              refine pw_ld E (pc' := 85) (st' := [pw_i k60_8, .ref 36, .long (Int64.ofInt k70_6)]) rfl (fun _ => rfl) ?_
              refine pw_ald2 h27I E (c := 20) (pc' := 86) rfl rfl rfl (by decide) rfl (by decide) (by omega) (by omega) rfl (fun hf38a hf38b => ?_)
              refine pw_ld E (pc' := 87) (st' := [.ref 32, pw_i (pw_g h27 20 (k60_8.toNat)), .long (Int64.ofInt k70_6)]) rfl (fun _ => rfl) ?_
              refine pw_getR (b := 37) h27I E (c := 16) (k := 4) (pc' := 90) rfl rfl rfl rfl rfl rfl rfl ?_
              refine pw_ld E (pc' := 92) (st' := [pw_i k70_9, .ref 37, pw_i (pw_g h27 20 (k60_8.toNat)), .long (Int64.ofInt k70_6)]) rfl (fun _ => rfl) ?_
              refine pw_ald2 h27I E (c := 21) (pc' := 93) rfl rfl rfl (by decide) rfl (by decide) (by omega) (by omega) rfl (fun hf39a hf39b => ?_)
              refine pw_call (m' := 327) (As := [pw_i (pw_g h27 20 (k60_8.toNat)), pw_i (pw_g h27 21 (k70_9.toNat))]) (rest := [.long (Int64.ofInt k70_6)]) (ls'' := [some (pw_i (pw_g h27 20 (k60_8.toNat))), some (pw_i (pw_g h27 21 (k70_9.toNat)))]) (Nat.le_trans (by decide) hd) E rfl (fun _ => pw_iS rfl rfl rfl) (rfl : pm_ent 327 = some (2, 2, 15, 0, pmc_327)) rfl rfl (cm_327_s (pw_dp hd (by decide)) h27I (pw_g h27 20 (k60_8.toNat)) (by omega) (by omega) (pw_g h27 21 (k70_9.toNat)) (by omega) (by omega)) ?_
              rintro u41 v40 ⟨rfl, x42, rfl, hx42a, hx42b, hx42r⟩
              refine ⟨_, rfl, ?_⟩
              show pw X d h27 90 96 [some (.ref 32), some (pw_i k0), some (.ref 38), some (pw_i x21), some (pw_i x25), some (pw_i x29), some (.long (Int64.ofInt k70_6)), none, some (pw_i k60_8), some (pw_i k70_9)] [pw_i x42, .long (Int64.ofInt k70_6)] _
              change x42 = pl_sg ((pw_g h27 20 (k60_8.toNat)) - (pw_g h27 21 (k70_9.toNat))) at hx42r
              have o1 := pl_iS (g := pw_g h27 21) (u := pw_g h27 20 (k60_8).toNat) (sgn := pl_sg (pv_U (pw_g h 17) (pw_g h 18))) (j := k70_9) (by omega)
              rw [← hx42r, ← hsg] at o1
              refine pw_ld E (pc' := 97) (st' := [pw_i x21, pw_i x42, .long (Int64.ofInt k70_6)]) rfl (fun _ => rfl) ?_
              refine pw_if2 E (pc' := 104) rfl (by decide) (by omega) (by omega) (by omega) (by omega) ?_ ?_
              · intro hc43
                change x42 ≠ x21 at hc43
                refine pw_ld E (pc' := 105) (st' := [.long (Int64.ofInt 0), .long (Int64.ofInt k70_6)]) rfl (fun _ => rfl) ?_
                refine pw_ladd E (pc' := 106) rfl rfl ?_
                refine pw_lst E (pc' := 108) (ls' := [some (.ref 32), some (pw_i k0), some (.ref 38), some (pw_i x21), some (pw_i x25), some (pw_i x29), some (.long (Int64.ofInt (k70_6 + 0))), none, some (pw_i k60_8), some (pw_i k70_9)]) rfl rfl rfl rfl ?_
                have o2 := o1.2 (by omega)
                rw [hsg] at o2
                refine pw_inc E (pc' := 111) (ls' := [some (.ref 32), some (pw_i k0), some (.ref 38), some (pw_i x21), some (pw_i x25), some (pw_i x29), some (.long (Int64.ofInt (k70_6 + 0))), none, some (pw_i k60_8), some (pw_i (k70_9 + 1))]) rfl rfl rfl rfl ?_
                refine pw_goto E (pc' := 70) rfl (by decide) ?_
                exact ih70 _ (by omega) (k70_6 + 0) (k70_9 + 1)  (by omega) (by omega) (by omega) (by omega) (by omega) (by omega) (by omega) rfl
              · intro hc44
                change ¬ (x42 ≠ x21) at hc44
                refine pw_ld E (pc' := 101) (st' := [.long (Int64.ofInt 1), .long (Int64.ofInt k70_6)]) rfl (fun _ => rfl) ?_
                refine pw_goto E (pc' := 105) rfl (by decide) ?_
                refine pw_ladd E (pc' := 106) rfl rfl ?_
                refine pw_lst E (pc' := 108) (ls' := [some (.ref 32), some (pw_i k0), some (.ref 38), some (pw_i x21), some (pw_i x25), some (pw_i x29), some (.long (Int64.ofInt (k70_6 + 1))), none, some (pw_i k60_8), some (pw_i k70_9)]) rfl rfl rfl rfl ?_
                have o2 := o1.1 (by omega)
                rw [hsg] at o2
                refine pw_inc E (pc' := 111) (ls' := [some (.ref 32), some (pw_i k0), some (.ref 38), some (pw_i x21), some (pw_i x25), some (pw_i x29), some (.long (Int64.ofInt (k70_6 + 1))), none, some (pw_i k60_8), some (pw_i (k70_9 + 1))]) rfl rfl rfl rfl ?_
                refine pw_goto E (pc' := 70) rfl (by decide) ?_
                exact ih70 _ (by omega) (k70_6 + 1) (k70_9 + 1)  (by omega) (by omega) (by omega) (by omega) (by omega) (by omega) (by omega) rfl
        exact L70 _ (k60_6) (0)  (by omega) (by omega) (by omega) (by omega) (by show _ = _ + (0 : Int); omega) (by omega) (by omega) rfl
  exact L60 _ (0) (0) (none)  (by omega) (by omega) (by omega) (by omega) rfl (by omega) (by omega) rfl
end
section
/-! lots of the class, exactly -/
set_option maxHeartbeats 4000000 in
theorem cm_162_s {X : List (Nat × List Value)} {d : Nat} {h : pm_H} (hd : 5 ≤ d) (I : pw_I h) (b : Int) (hb1 : 0 ≤ b) (hb2 : b ≤ 11) (e : Int) (he1 : 0 ≤ e) (he2 : e ≤ 11) : pw X d h 162 0 [some (.ref 16), some (pw_i b), some (pw_i e)] [] (fun h' v => pw_I h' ∧ pw_E [17, 18] h h' ∧ (pv_FL h' (pv_sdc h b e) (pv_chc h b e) 24) ∧ (∃ a : Int, v = .inl (some (pw_i a)) ∧ 0 ≤ a ∧ a ≤ 9 ∧ (((9 < pv_N (pv_sdc h b e) 0 24 ∨ 9 < pv_N (pv_sdc h b e) 1 24) ∧ a = 0) ∨ (pv_N (pv_sdc h b e) 0 24 ≤ 9 ∧ pv_N (pv_sdc h b e) 1 24 ≤ 9 ∧ a = min (pv_N (pv_sdc h b e) 0 24) (pv_N (pv_sdc h b e) 1 24))))) := by
  have E : pm_ent 162 = some (3, 3, 11, 0, pmc_162) := rfl
  have E0 : pw_E [17, 18] h h := pw_E.rf _ _
  refine pw_ld E (pc' := 1) (st' := [.ref 16]) rfl (fun _ => rfl) ?_
  refine pw_ld E (pc' := 2) (st' := [pw_i b, .ref 16]) rfl (fun _ => rfl) ?_
  refine pw_ld E (pc' := 3) (st' := [pw_i e, pw_i b, .ref 16]) rfl (fun _ => rfl) ?_
  obtain ⟨f1l, f1h, -⟩ := pw_obj (c := 0) I rfl
  refine pw_call (m' := 138) (As := [.ref 16, pw_i b, pw_i e]) (rest := []) (ls'' := [some (.ref 16), some (pw_i b), some (pw_i e), none]) (Nat.le_trans (by decide) hd) E rfl (fun _ => pw_iV rfl rfl rfl rfl (pw_cellI f1h rfl)) (rfl : pm_ent 138 = some (3, 4, 11, 4, pmc_138)) rfl rfl (cm_138_s (pw_dp hd (by decide)) I (b) (by omega) (by omega) (e) (by omega) (by omega)) ?_
  rintro h2 v3 ⟨h2I, h2E, hqfill, rfl⟩
  refine ⟨_, rfl, ?_⟩
  have h2F := E0.tr (h2E.wk (W' := [17, 18]) (by first | rfl | simp))
  show pw X d h2 162 6 [some (.ref 16), some (pw_i b), some (pw_i e)] [] _
  obtain ⟨-, -, -, eN0, eN1⟩ := hqfill.eq
  have nB0 := pv_NB (sd := pv_sdc h b e) (s := 0) 24
  have nB1 := pv_NB (sd := pv_sdc h b e) (s := 1) 24
  refine pw_ld E (pc' := 7) (st' := [.ref 16]) rfl (fun _ => rfl) ?_
  refine pw_getR (b := 32) h2I E (c := 0) (k := 7) (pc' := 10) rfl rfl rfl rfl rfl rfl rfl ?_
  refine pw_ld E (pc' := 11) (st' := [pw_i 0, .ref 32]) rfl (fun _ => rfl) ?_
  obtain ⟨f4l, f4h, -⟩ := pw_obj (c := 16) h2I rfl
  refine pw_call (m' := 84) (As := [.ref 32, pw_i 0]) (rest := []) (ls'' := [some (.ref 32), some (pw_i 0), none, none]) (Nat.le_trans (by decide) hd) E rfl (fun _ => pw_iV rfl rfl rfl rfl (pw_cellI f4h rfl)) (rfl : pm_ent 84 = some (2, 4, 8, 0, pmc_84)) rfl rfl (cm_84_s (pw_dp hd (by decide)) h2I (0) (by omega) (by omega)) ?_
  rintro u6 v5 ⟨rfl, x7, rfl, hx7a, hx7b, hx7r⟩
  refine ⟨_, rfl, ?_⟩
  show pw X d h2 162 14 [some (.ref 16), some (pw_i b), some (pw_i e)] [pw_i x7] _
  change x7 = pv_N (pw_g h2 17) 0 24 at hx7r
  refine pw_bip E (pc' := 16) rfl rfl (by decide) ?_
  refine pw_if2 E (pc' := 32) rfl (by decide) (by omega) (by omega) (by decide) (by decide) ?_ ?_
  · intro hc8
    change (9 : Int) < x7 at hc8
    refine pw_ld E (pc' := 33) (st' := [pw_i 0]) rfl (fun _ => rfl) ?_
    refine pw_iret E rfl ?_
    exact ⟨h2I, h2F, ⟨hqfill, ⟨_, rfl, by omega, by omega, by omega⟩⟩⟩
  · intro hc9
    change ¬ ((9 : Int) < x7) at hc9
    refine pw_ld E (pc' := 20) (st' := [.ref 16]) rfl (fun _ => rfl) ?_
    refine pw_getR (b := 32) h2I E (c := 0) (k := 7) (pc' := 23) rfl rfl rfl rfl rfl rfl rfl ?_
    refine pw_ld E (pc' := 24) (st' := [pw_i 1, .ref 32]) rfl (fun _ => rfl) ?_
    obtain ⟨f10l, f10h, -⟩ := pw_obj (c := 16) h2I rfl
    refine pw_call (m' := 84) (As := [.ref 32, pw_i 1]) (rest := []) (ls'' := [some (.ref 32), some (pw_i 1), none, none]) (Nat.le_trans (by decide) hd) E rfl (fun _ => pw_iV rfl rfl rfl rfl (pw_cellI f10h rfl)) (rfl : pm_ent 84 = some (2, 4, 8, 0, pmc_84)) rfl rfl (cm_84_s (pw_dp hd (by decide)) h2I (1) (by omega) (by omega)) ?_
    rintro u12 v11 ⟨rfl, x13, rfl, hx13a, hx13b, hx13r⟩
    refine ⟨_, rfl, ?_⟩
    show pw X d h2 162 27 [some (.ref 16), some (pw_i b), some (pw_i e)] [pw_i x13] _
    change x13 = pv_N (pw_g h2 17) 1 24 at hx13r
    refine pw_bip E (pc' := 29) rfl rfl (by decide) ?_
    refine pw_if2 E (pc' := 34) rfl (by decide) (by omega) (by omega) (by decide) (by decide) ?_ ?_
    · intro hc14
      change x13 ≤ (9 : Int) at hc14
      refine pw_ld E (pc' := 35) (st' := [.ref 16]) rfl (fun _ => rfl) ?_
      refine pw_getR (b := 32) h2I E (c := 0) (k := 7) (pc' := 38) rfl rfl rfl rfl rfl rfl rfl ?_
      refine pw_ld E (pc' := 39) (st' := [pw_i 0, .ref 32]) rfl (fun _ => rfl) ?_
      obtain ⟨f15l, f15h, -⟩ := pw_obj (c := 16) h2I rfl
      refine pw_call (m' := 84) (As := [.ref 32, pw_i 0]) (rest := []) (ls'' := [some (.ref 32), some (pw_i 0), none, none]) (Nat.le_trans (by decide) hd) E rfl (fun _ => pw_iV rfl rfl rfl rfl (pw_cellI f15h rfl)) (rfl : pm_ent 84 = some (2, 4, 8, 0, pmc_84)) rfl rfl (cm_84_s (pw_dp hd (by decide)) h2I (0) (by omega) (by omega)) ?_
      rintro u17 v16 ⟨rfl, x18, rfl, hx18a, hx18b, hx18r⟩
      refine ⟨_, rfl, ?_⟩
      show pw X d h2 162 42 [some (.ref 16), some (pw_i b), some (pw_i e)] [pw_i x18] _
      change x18 = pv_N (pw_g h2 17) 0 24 at hx18r
      refine pw_ld E (pc' := 43) (st' := [.ref 16, pw_i x18]) rfl (fun _ => rfl) ?_
      refine pw_getR (b := 32) h2I E (c := 0) (k := 7) (pc' := 46) rfl rfl rfl rfl rfl rfl rfl ?_
      refine pw_ld E (pc' := 47) (st' := [pw_i 1, .ref 32, pw_i x18]) rfl (fun _ => rfl) ?_
      obtain ⟨f19l, f19h, -⟩ := pw_obj (c := 16) h2I rfl
      refine pw_call (m' := 84) (As := [.ref 32, pw_i 1]) (rest := [pw_i x18]) (ls'' := [some (.ref 32), some (pw_i 1), none, none]) (Nat.le_trans (by decide) hd) E rfl (fun _ => pw_iV rfl rfl rfl rfl (pw_cellI f19h rfl)) (rfl : pm_ent 84 = some (2, 4, 8, 0, pmc_84)) rfl rfl (cm_84_s (pw_dp hd (by decide)) h2I (1) (by omega) (by omega)) ?_
      rintro u21 v20 ⟨rfl, x22, rfl, hx22a, hx22b, hx22r⟩
      refine ⟨_, rfl, ?_⟩
      show pw X d h2 162 50 [some (.ref 16), some (pw_i b), some (pw_i e)] [pw_i x22, pw_i x18] _
      change x22 = pv_N (pw_g h2 17) 1 24 at hx22r
      refine pw_min E rfl rfl (by omega) (by omega) (by omega) (by omega) rfl ?_
      refine pw_iret E rfl ?_
      exact ⟨h2I, h2F, ⟨hqfill, ⟨_, rfl, by omega, by omega, by omega⟩⟩⟩
    · intro hc23
      change ¬ (x13 ≤ (9 : Int)) at hc23
      refine pw_ld E (pc' := 33) (st' := [pw_i 0]) rfl (fun _ => rfl) ?_
      refine pw_iret E rfl ?_
      exact ⟨h2I, h2F, ⟨hqfill, ⟨_, rfl, by omega, by omega, by omega⟩⟩⟩
set_option maxHeartbeats 4000000 in
theorem cm_161_s {X : List (Nat × List Value)} {d : Nat} {h : pm_H} (hd : 6 ≤ d) (I : pw_I h) (b : Int) (hb1 : (-2147483648) ≤ b) (hb2 : b ≤ 2147483647) (e : Int) (he1 : (-2147483648) ≤ e) (he2 : e ≤ 2147483647) (k0 : Int) (hk01 : (-2147483648) ≤ k0) (hk02 : k0 ≤ 2147483647) (wt : Int) (hwt1 : (-2147483648) ≤ wt) (hwt2 : wt ≤ 2147483647) : pw X d h 161 0 [some (.ref 16), some (pw_i b), some (pw_i e), some (pw_i k0), some (pw_i wt)] [] (fun h' v => pw_I h' ∧ pw_E [17, 18, 19, 20, 21, 22] h h' ∧ ∃ a : Int, v = .inl (some (.long (Int64.ofInt a))) ∧ (-1099511627776) ≤ a ∧ a ≤ 1099511627776 ∧ ((((0 ≤ b ∧ b ≤ 11 ∧ 0 ≤ e ∧ e ≤ 11 ∧ b ≠ e ∧ 1 ≤ k0 ∧ k0 ≤ 9 ∧ 0 ≤ wt ∧ wt ≤ 1) ∧ pl_ok (pv_sdc h b e) k0) ∧ a = pv_LW (pl_X (pv_sdc h b e) (pv_chc h b e) k0) (pl_Y (pv_sdc h b e) k0) wt) ∨ (¬ ((0 ≤ b ∧ b ≤ 11 ∧ 0 ≤ e ∧ e ≤ 11 ∧ b ≠ e ∧ 1 ≤ k0 ∧ k0 ≤ 9 ∧ 0 ≤ wt ∧ wt ≤ 1) ∧ pl_ok (pv_sdc h b e) k0) ∧ a = -1))) := by
  have E : pm_ent 161 = some (5, 5, 11, 2, pmc_161) := rfl
  have E0 : pw_E [17, 18, 19, 20, 21, 22] h h := pw_E.rf _ _
  refine pw_ld E (pc' := 1) (st' := [pw_i b]) rfl (fun _ => rfl) ?_
  refine pw_ld E (pc' := 2) (st' := [pw_i e, pw_i b]) rfl (fun _ => rfl) ?_
  refine pw_call (m' := 131) (As := [pw_i b, pw_i e]) (rest := []) (ls'' := [some (pw_i b), some (pw_i e)]) (Nat.le_trans (by decide) hd) E rfl (fun _ => pw_iS rfl rfl rfl) (rfl : pm_ent 131 = some (2, 2, 11, 1, pmc_131)) rfl rfl (cm_131_s (pw_dp hd (by decide)) I (b) (by omega) (by omega) (e) (by omega) (by omega)) ?_
  rintro u2 v1 ⟨rfl, x3, rfl, hx3a, hx3b, hx3r⟩
  refine ⟨_, rfl, ?_⟩
  show pw X d h 161 5 [some (.ref 16), some (pw_i b), some (pw_i e), some (pw_i k0), some (pw_i wt)] [pw_i x3] _
  change (x3 = 1 ∧ 0 ≤ b ∧ b ≤ 11 ∧ 0 ≤ e ∧ e ≤ 11 ∧ b ≠ e) ∨ (x3 = 0 ∧ ¬ (0 ≤ b ∧ b ≤ 11 ∧ 0 ≤ e ∧ e ≤ 11 ∧ b ≠ e)) at hx3r
  rcases (by omega : x3 = 1 ∨ x3 = 0) with hb4 | hb4
  · skip
    refine pw_if E (pc' := 26) rfl (by decide) (by omega) (by omega) ?_ ?_
    · intro hc5
      change x3 = (0 : Int) at hc5
      exfalso; omega
    · intro hc6
      change ¬ (x3 = (0 : Int)) at hc6
      refine pw_ld E (pc' := 9) (st' := [pw_i k0]) rfl (fun _ => rfl) ?_
      refine pw_ld E (pc' := 10) (st' := [pw_i 1, pw_i k0]) rfl (fun _ => rfl) ?_
      refine pw_bip E (pc' := 12) rfl rfl (by decide) ?_
      refine pw_call (m' := 121) (As := [pw_i k0, pw_i 1, pw_i 9]) (rest := []) (ls'' := [some (pw_i k0), some (pw_i 1), some (pw_i 9)]) (Nat.le_trans (by decide) hd) E rfl (fun _ => pw_iS rfl rfl rfl) (rfl : pm_ent 121 = some (3, 3, 11, 1, pmc_121)) rfl rfl (cm_121 (pw_dp hd (by decide)) I (k0) (by omega) (by omega) (1) (by omega) (by omega) (9) (by omega) (by omega)) ?_
      rintro u8 v7 ⟨rfl, x9, rfl, hx9a, hx9b, hx9r⟩
      refine ⟨_, rfl, ?_⟩
      show pw X d h 161 15 [some (.ref 16), some (pw_i b), some (pw_i e), some (pw_i k0), some (pw_i wt)] [pw_i x9] _
      change (x9 = 1 ∧ 1 ≤ k0 ∧ k0 ≤ 9) ∨ (x9 = 0 ∧ ¬ (1 ≤ k0 ∧ k0 ≤ 9)) at hx9r
      rcases (by omega : x9 = 1 ∨ x9 = 0) with hb10 | hb10
      · skip
        refine pw_if E (pc' := 26) rfl (by decide) (by omega) (by omega) ?_ ?_
        · intro hc11
          change x9 = (0 : Int) at hc11
          exfalso; omega
        · intro hc12
          change ¬ (x9 = (0 : Int)) at hc12
          refine pw_ld E (pc' := 20) (st' := [pw_i wt]) rfl (fun _ => rfl) ?_
          refine pw_call (m' := 137) (As := [pw_i wt]) (rest := []) (ls'' := [some (pw_i wt)]) (Nat.le_trans (by decide) hd) E rfl (fun _ => pw_iS rfl rfl rfl) (rfl : pm_ent 137 = some (1, 1, 11, 1, pmc_137)) rfl rfl (cm_137 (pw_dp hd (by decide)) I (wt) (by omega) (by omega)) ?_
          rintro u14 v13 ⟨rfl, x15, rfl, hx15a, hx15b, hx15r⟩
          refine ⟨_, rfl, ?_⟩
          show pw X d h 161 23 [some (.ref 16), some (pw_i b), some (pw_i e), some (pw_i k0), some (pw_i wt)] [pw_i x15] _
          change (x15 = 1 ∧ 0 ≤ wt ∧ wt ≤ 1) ∨ (x15 = 0 ∧ ¬ (0 ≤ wt ∧ wt ≤ 1)) at hx15r
          rcases (by omega : x15 = 1 ∨ x15 = 0) with hb16 | hb16
          · skip
            refine pw_if E (pc' := 30) rfl (by decide) (by omega) (by omega) ?_ ?_
            · intro hc17
              change x15 ≠ (0 : Int) at hc17
              refine pw_ld E (pc' := 31) (st' := [pw_i k0]) rfl (fun _ => rfl) ?_
              refine pw_ld E (pc' := 32) (st' := [.ref 16, pw_i k0]) rfl (fun _ => rfl) ?_
              refine pw_ld E (pc' := 33) (st' := [pw_i b, .ref 16, pw_i k0]) rfl (fun _ => rfl) ?_
              refine pw_ld E (pc' := 34) (st' := [pw_i e, pw_i b, .ref 16, pw_i k0]) rfl (fun _ => rfl) ?_
              obtain ⟨f18l, f18h, -⟩ := pw_obj (c := 0) I rfl
              refine pw_call (m' := 162) (As := [.ref 16, pw_i b, pw_i e]) (rest := [pw_i k0]) (ls'' := [some (.ref 16), some (pw_i b), some (pw_i e)]) (Nat.le_trans (by decide) hd) E rfl (fun _ => pw_iV rfl rfl rfl rfl (pw_cellI f18h rfl)) (rfl : pm_ent 162 = some (3, 3, 11, 0, pmc_162)) rfl rfl (cm_162_s (pw_dp hd (by decide)) I (b) (by omega) (by omega) (e) (by omega) (by omega)) ?_
              rintro h19 v20 ⟨h19I, h19E, hqmd, x21, rfl, hx21a, hx21b, hx21r⟩
              refine ⟨_, rfl, ?_⟩
              have h19F := E0.tr (h19E.wk (W' := [17, 18, 19, 20, 21, 22]) (by first | rfl | simp))
              show pw X d h19 161 37 [some (.ref 16), some (pw_i b), some (pw_i e), some (pw_i k0), some (pw_i wt)] [pw_i x21, pw_i k0] _
              change ((9 < pv_N (pv_sdc h b e) 0 24 ∨ 9 < pv_N (pv_sdc h b e) 1 24) ∧ x21 = 0) ∨ (pv_N (pv_sdc h b e) 0 24 ≤ 9 ∧ pv_N (pv_sdc h b e) 1 24 ≤ 9 ∧ x21 = min (pv_N (pv_sdc h b e) 0 24) (pv_N (pv_sdc h b e) 1 24)) at hx21r
              have hB : pv_Bd h19 := hqmd.bd (pv_chcB I (by omega) (by omega) (by omega) (by omega))
              obtain ⟨-, -, -, eN0, eN1⟩ := hqmd.eq
              have hH : ∀ k : Nat, k < 24 → pw_g h19 17 k = (pv_sdc h b e) k ∧ (pw_g h19 17 k ≠ -1 → pw_g h19 18 k = (pv_chc h b e) k) := fun k hk => by
                obtain ⟨z1, z2⟩ := (hqmd k hk).1 (by omega)
                exact ⟨z1, fun z => z2 (by rw [← z1]; exact z)⟩
              refine pw_if2 E (pc' := 44) rfl (by decide) (by omega) (by omega) (by omega) (by omega) ?_ ?_
              · intro hc22
                change k0 ≤ x21 at hc22
                refine pw_ld E (pc' := 45) (st' := [.ref 16]) rfl (fun _ => rfl) ?_
                refine pw_getR (b := 32) h19I E (c := 0) (k := 7) (pc' := 48) rfl rfl rfl rfl rfl rfl rfl ?_
                refine pw_ld E (pc' := 49) (st' := [pw_i k0, .ref 32]) rfl (fun _ => rfl) ?_
                refine pw_ld E (pc' := 50) (st' := [.ref 16, pw_i k0, .ref 32]) rfl (fun _ => rfl) ?_
                refine pw_getR (b := 38) h19I E (c := 0) (k := 8) (pc' := 53) rfl rfl rfl rfl rfl rfl rfl ?_
                obtain ⟨f23l, f23h, -⟩ := pw_obj (c := 16) h19I rfl
                refine pw_call (m' := 90) (As := [.ref 32, pw_i k0, .ref 38]) (rest := []) (ls'' := [some (.ref 32), some (pw_i k0), some (.ref 38), none, none, none, none, none, none, none]) (Nat.le_trans (by decide) hd) E rfl (fun _ => pw_iV rfl rfl rfl rfl (pw_cellI f23h rfl)) (rfl : pm_ent 90 = some (3, 10, 8, 4, pmc_90)) rfl rfl (cm_90_s (pw_dp hd (by decide)) h19I (k0) (by omega) (by omega) hB (by omega) (by omega) (by omega) (by omega)) ?_
                rintro h24 v25 ⟨h24I, h24E, hqdn, rfl⟩
                refine ⟨_, rfl, ?_⟩
                have h24F := h19F.tr (h24E.wk (W' := [17, 18, 19, 20, 21, 22]) (by first | rfl | simp))
                show pw X d h24 161 56 [some (.ref 16), some (pw_i b), some (pw_i e), some (pw_i k0), some (pw_i wt)] [] _
                have hXB := pl_XB (sd := pw_g h19 17) (ch := pw_g h19 18) (k := k0) (by omega) (by omega) (by omega) (by omega) (by omega)
                have gp := pw_gd_pos (x := pl_X (pw_g h19 17) (pw_g h19 18) k0) (y := pl_Y (pw_g h19 17) k0) (by omega)
                have t1 := pw_tdB (a := pl_X (pw_g h19 17) (pw_g h19 18) k0) (b := pw_gd (pl_X (pw_g h19 17) (pw_g h19 18) k0) (pl_Y (pw_g h19 17) k0)) (A := 262144) (by omega) (by omega) (by omega)
                have t2 := pw_tdB (a := pl_Y (pw_g h19 17) k0) (b := pw_gd (pl_X (pw_g h19 17) (pw_g h19 18) k0) (pl_Y (pw_g h19 17) k0)) (A := 262144) (by omega) (by omega) (by omega)
                have d0 := hqdn.1
                have d1 := hqdn.2
                refine pw_ld E (pc' := 57) (st' := [.ref 16]) rfl (fun _ => rfl) ?_
                refine pw_getR (b := 38) h24I E (c := 0) (k := 8) (pc' := 60) rfl rfl rfl rfl rfl rfl rfl ?_
                refine pw_ld E (pc' := 62) (st' := [pw_i wt, .ref 38]) rfl (fun _ => rfl) ?_
                obtain ⟨f26l, f26h, -⟩ := pw_obj (c := 22) h24I rfl
                refine pw_call (m' := 9) (As := [.ref 38, pw_i wt]) (rest := []) (ls'' := [some (.ref 38), some (pw_i wt)]) (Nat.le_trans (by decide) hd) E rfl (fun _ => pw_iV rfl rfl rfl rfl (pw_cellI f26h rfl)) (rfl : pm_ent 9 = some (2, 2, 1, 2, pmc_9)) rfl rfl (cm_9_22g (pw_dp hd (by decide)) h24I (wt) (by omega) (by omega) (by omega) (by omega) (by omega) (by omega)) ?_
                rintro u28 v27 ⟨rfl, x29, rfl, hx29a, hx29b, hx29r⟩
                refine ⟨_, rfl, ?_⟩
                show pw X d h24 161 65 [some (.ref 16), some (pw_i b), some (pw_i e), some (pw_i k0), some (pw_i wt)] [.long (Int64.ofInt x29)] _
                change (wt = 0 → x29 = pw_gm h24 22 0) ∧ (wt ≠ 0 → x29 = pw_gm h24 22 1) at hx29r
                refine pw_lret E rfl ?_
                have hp9 := pv_pick d0 d1 hx29r
                rw [(pl_cg hH).1, (pl_cg hH).2] at hp9
                exact ⟨h24I, h24F, ⟨_, rfl, by omega, by omega, Or.inl ⟨⟨by omega, by omega, by omega, by omega, by omega⟩, hp9⟩⟩⟩
              · intro hc30
                change ¬ (k0 ≤ x21) at hc30
                refine pw_ld E (pc' := 43) (st' := [.long (Int64.ofInt ((-1)))]) rfl (fun _ => rfl) ?_
                refine pw_lret E rfl ?_
                exact ⟨h19I, h19F, ⟨_, rfl, by omega, by omega, Or.inr ⟨fun q => by obtain ⟨o1, o2, o3, o4⟩ := q.2; omega, rfl⟩⟩⟩
            · intro hc31
              change ¬ (x15 ≠ (0 : Int)) at hc31
              exfalso; omega
          · skip
            refine pw_if E (pc' := 30) rfl (by decide) (by omega) (by omega) ?_ ?_
            · intro hc33
              change x15 ≠ (0 : Int) at hc33
              exfalso; omega
            · intro hc34
              change ¬ (x15 ≠ (0 : Int)) at hc34
              refine pw_ld E (pc' := 29) (st' := [.long (Int64.ofInt ((-1)))]) rfl (fun _ => rfl) ?_
              refine pw_lret E rfl ?_
              exact ⟨I, E0, ⟨_, rfl, by omega, by omega, Or.inr ⟨fun q => by have q1 := q.1; omega, rfl⟩⟩⟩
      · skip
        refine pw_if E (pc' := 26) rfl (by decide) (by omega) (by omega) ?_ ?_
        · intro hc36
          change x9 = (0 : Int) at hc36
          refine pw_ld E (pc' := 29) (st' := [.long (Int64.ofInt ((-1)))]) rfl (fun _ => rfl) ?_
          refine pw_lret E rfl ?_
          exact ⟨I, E0, ⟨_, rfl, by omega, by omega, Or.inr ⟨fun q => by have q1 := q.1; omega, rfl⟩⟩⟩
        · intro hc37
          change ¬ (x9 = (0 : Int)) at hc37
          exfalso; omega
  · skip
    refine pw_if E (pc' := 26) rfl (by decide) (by omega) (by omega) ?_ ?_
    · intro hc39
      change x3 = (0 : Int) at hc39
      refine pw_ld E (pc' := 29) (st' := [.long (Int64.ofInt ((-1)))]) rfl (fun _ => rfl) ?_
      refine pw_lret E rfl ?_
      exact ⟨I, E0, ⟨_, rfl, by omega, by omega, Or.inr ⟨fun q => by have q1 := q.1; omega, rfl⟩⟩⟩
    · intro hc40
      change ¬ (x3 = (0 : Int)) at hc40
      exfalso; omega
end
