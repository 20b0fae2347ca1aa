/-! every script of a call: the run -/
def pf_w (xs : Nat → Int32) (i j : Nat) : Int64 := ((xs i).toInt64 <<< ((32 : Int32).toInt64 &&& 63)) ||| ((xs j).toInt64 &&& Int64.ofNat 4294967295)
def pf_ct (xs : Nat → Int32) : Nat := (pf_p3 pf_b97 pf_c97 (pf_w xs 1 2) (pf_w xs 3 4) (pf_w xs 5 6)).2
def pf_rho (xs : Nat → Int32) (i : Nat) : Int32 := if i < 7 then xs i else if i = 7 then xs 0 &&& 63 else Int32.ofNat (pf_ct xs)
def pf_mu (r : Nat → Int32) (k : Nat) : Int64 := if k < 16 then (r k).toInt64 - 1 else if k < 32 then (r (k - 16)).toInt64 else if k < 48 then (r (k - 32)).toInt64 <<< ((32 : Int32).toInt64 &&& 63) else if k < 64 then (r (k - 48)).toInt64 &&& Int64.ofNat 4294967295 else pf_w r ((k - 64) / 16) ((k - 64) % 16)
def pf_ka (xs : Nat → Int32) (k : Nat) : pm_C := if k = 0 then .inl (2, (pf_p3 pf_b97 pf_c97 (pf_w xs 1 2) (pf_w xs 3 4) (pf_w xs 5 6)).1) else .inl (0, (pf_p3 pf_b199 id (pf_w xs 1 2) (pf_w xs 3 4) (pf_w xs 5 6)).1)
def pf_V (xs : Nat → Int32) : pz_V := (pf_rho xs, pf_mu (pf_rho xs), pf_ka xs, 0)
theorem pf_sym (xs : Nat → Int32) : pz_sym (pf_V xs) := by
  have m16 : ∀ i, i < 16 → pf_mu (pf_rho xs) (16 + i) = (pf_rho xs i).toInt64 := fun i h => by
    unfold pf_mu; rw [if_neg (by omega), if_pos (by omega), show 16 + i - 16 = i by omega]
  have m32 : ∀ i, i < 16 → pf_mu (pf_rho xs) (32 + i) = (pf_rho xs i).toInt64 <<< ((32 : Int32).toInt64 &&& 63) := fun i h => by
    unfold pf_mu; rw [if_neg (by omega), if_neg (by omega), if_pos (by omega), show 32 + i - 32 = i by omega]
  have m48 : ∀ i, i < 16 → pf_mu (pf_rho xs) (48 + i) = (pf_rho xs i).toInt64 &&& Int64.ofNat 4294967295 := fun i h => by
    unfold pf_mu; rw [if_neg (by omega), if_neg (by omega), if_neg (by omega), if_pos (by omega), show 48 + i - 48 = i by omega]
  refine ⟨rfl, fun i h => ?_, m16, fun i h => ?_, fun i h => ?_, fun i j hi hj => ?_⟩
  · show pf_mu (pf_rho xs) i = (pf_rho xs i).toInt64 - 1
    unfold pf_mu; rw [if_pos h]
  · show pf_mu (pf_rho xs) (32 + i) = pf_mu (pf_rho xs) (16 + i) <<< _
    rw [m32 i h, m16 i h]
  · show pf_mu (pf_rho xs) (48 + i) = pf_mu (pf_rho xs) (16 + i) &&& _
    rw [m48 i h, m16 i h]
  · show pf_mu (pf_rho xs) (64 + (16 * i + j)) = pf_mu (pf_rho xs) (32 + i) ||| pf_mu (pf_rho xs) (48 + j)
    rw [m32 i hi, m48 j hj]
    unfold pf_mu
    rw [if_neg (by omega), if_neg (by omega), if_neg (by omega), if_neg (by omega), show (64 + (16 * i + j) - 64) / 16 = i by omega, show (64 + (16 * i + j) - 64) % 16 = j by omega]
    rfl
theorem pf_X (xs : Nat → Int32) (L : Nat) : pz_X (pf_V xs) L (pm_ext ((List.range L).map xs)) := by
  refine ⟨⟨((List.range L).map xs).map .int, rfl, by simp, fun b h1 h2 => ?_⟩, fun ci => pm_ext16 _ ci⟩
  rw [List.getElem?_map, pz_row_get h1]
  show some (Value.int (xs b)) = some (.int (pf_rho xs b))
  unfold pf_rho
  rw [if_pos h2]
theorem pf_ksz (xs : Nat → Int32) (k : Nat) : pm_sz ((pf_V xs).2.2.1 k) ≤ 2000 := by
  show pm_sz (pf_ka xs k) ≤ 2000
  unfold pf_ka
  split
  · show (pf_p3 pf_b97 pf_c97 (pf_w xs 1 2) (pf_w xs 3 4) (pf_w xs 5 6)).1.length ≤ 2000
    rw [(pf_p3_len _ _ _ _ _).1]; decide
  · show (pf_p3 pf_b199 id (pf_w xs 1 2) (pf_w xs 3 4) (pf_w xs 5 6)).1.length ≤ 2000
    rw [(pf_p3_len _ _ _ _ _).1]; decide
theorem pf_b63 (x : Int32) : 2147483648 ≤ pz_b (x &&& 63) ∧ pz_b (x &&& 63) ≤ 2147483711 := by
  have e : (x &&& 63).toBitVec.toNat = x.toBitVec.toNat % 64 := by
    rw [Int32.toBitVec_and, BitVec.toNat_and]
    exact Nat.and_two_pow_sub_one_eq_mod _ 6
  unfold pz_b
  rw [e]
  omega
theorem pf_k8a {V : pz_V} {a b c d F : Nat} (hm : ∀ i, pz_b (V.1 i) ≤ F) (h1 : a ≤ pz_b (V.1 1) ∧ pz_b (V.1 1) ≤ b) (h7 : c ≤ pz_b (V.1 7) ∧ pz_b (V.1 7) ≤ d) : pz_k V ([(0, F), (a, b), (0, F), (0, F), (0, F), (0, F), (0, F), (c, d)], []) := by
  refine ⟨fun i lo hi h => ?_, fun q hq => nomatch hq⟩
  match i, h with
  | 0, h => cases h; exact ⟨Nat.zero_le _, hm _⟩
  | 1, h => cases h; exact h1
  | 2, h => cases h; exact ⟨Nat.zero_le _, hm _⟩
  | 3, h => cases h; exact ⟨Nat.zero_le _, hm _⟩
  | 4, h => cases h; exact ⟨Nat.zero_le _, hm _⟩
  | 5, h => cases h; exact ⟨Nat.zero_le _, hm _⟩
  | 6, h => cases h; exact ⟨Nat.zero_le _, hm _⟩
  | 7, h => cases h; exact h7
  | n + 8, h => cases h
theorem pf_k9a {V : pz_V} {a b c d F : Nat} (hm : ∀ i, pz_b (V.1 i) ≤ F) (h7 : a ≤ pz_b (V.1 7) ∧ pz_b (V.1 7) ≤ b) (h8 : c ≤ pz_b (V.1 8) ∧ pz_b (V.1 8) ≤ d) : pz_k V ([(0, F), (0, F), (0, F), (0, F), (0, F), (0, F), (0, F), (a, b), (c, d)], []) := by
  refine ⟨fun i lo hi h => ?_, fun q hq => nomatch hq⟩
  match i, h with
  | 0, h => cases h; exact ⟨Nat.zero_le _, hm _⟩
  | 1, h => cases h; exact ⟨Nat.zero_le _, hm _⟩
  | 2, h => cases h; exact ⟨Nat.zero_le _, hm _⟩
  | 3, h => cases h; exact ⟨Nat.zero_le _, hm _⟩
  | 4, h => cases h; exact ⟨Nat.zero_le _, hm _⟩
  | 5, h => cases h; exact ⟨Nat.zero_le _, hm _⟩
  | 6, h => cases h; exact ⟨Nat.zero_le _, hm _⟩
  | 7, h => cases h; exact h7
  | 8, h => cases h; exact h8
  | n + 9, h => cases h
theorem pf_bF (V : pz_V) (i : Nat) : pz_b (V.1 i) ≤ 4294967295 := by
  have := pz_b_max (V.1 i)
  omega
theorem pf_k8 {V : pz_V} {a b c d : Nat} (h1 : a ≤ pz_b (V.1 1) ∧ pz_b (V.1 1) ≤ b) (h7 : c ≤ pz_b (V.1 7) ∧ pz_b (V.1 7) ≤ d) : pz_k V ([(0, 4294967295), (a, b), (0, 4294967295), (0, 4294967295), (0, 4294967295), (0, 4294967295), (0, 4294967295), (c, d)], []) := pf_k8a (pf_bF V) h1 h7
theorem pf_k9 {V : pz_V} (h7 : 2147483666 ≤ pz_b (V.1 7) ∧ pz_b (V.1 7) ≤ 2147483666) (h8 : 2147483648 ≤ pz_b (V.1 8) ∧ pz_b (V.1 8) ≤ 2147483672) : pz_k V pz_Cf := pf_k9a (pf_bF V) h7 h8
theorem pf_b24 : ∀ n, n ≤ 24 → 2147483648 ≤ pz_b (Int32.ofNat n) ∧ pz_b (Int32.ofNat n) ≤ 2147483672 := fun n h => by
  have : ∀ n, n < 25 → 2147483648 ≤ pz_b (Int32.ofNat n) ∧ pz_b (Int32.ofNat n) ≤ 2147483672 := by decide +kernel
  exact this n (by omega)
theorem pf_run7 (xs : Nat → Int32) : ∃ H, pm_x (pm_ext ((List.range 7).map xs)) 200000 50 [] 309 0 (pm_lay [.ref 0] 8) [] = some (H, .inl (some (.int 1))) ∧ H.length ≤ 300 ∧ pm_slt H ≤ 700000 := by
  have h7 := pf_sym xs
  have hX := pf_X xs 7
  have hk := pf_ksz xs
  have b7 : 2147483648 ≤ pz_b ((pf_V xs).1 7) ∧ pz_b ((pf_V xs).1 7) ≤ 2147483711 := pf_b63 (xs 0)
  have b1 := pz_b_max ((pf_V xs).1 1)
  have hE : ∀ q ∈ ([] : List pz_Q), pz_QS (pf_V xs) q (pm_x (pm_ext ((List.range 7).map xs)) q.1) := fun q hq => nomatch hq
  have hQf : ∀ q ∈ pz_Qf, pz_QS (pf_V xs) q (pm_x (pm_ext ((List.range 7).map xs)) q.1) := by
    intro q hq
    simp only [pz_Qf, List.mem_cons, List.not_mem_nil, or_false] at hq
    rcases hq with rfl | rfl | rfl | rfl | rfl | rfl | rfl | rfl
    · exact pz_mq_T h7 hX pz_me0
    · exact pz_mq_T h7 hX pz_me1
    · exact pz_mq_T h7 hX pz_me2
    · exact pz_mq_T h7 hX pz_me3
    · exact pz_mq_T h7 hX pz_me4
    · exact pz_mq_T h7 hX pz_me5
    · exact pz_mq_T h7 hX pz_me6
    · exact pz_mq_T h7 hX pz_me7
  have hQb : ∀ q ∈ pz_Qb, pz_QS (pf_V xs) q (pm_x (pm_ext ((List.range 7).map xs)) q.1) := by
    intro q hq
    simp only [pz_Qb, List.mem_cons, List.not_mem_nil, or_false] at hq
    rcases hq with rfl | rfl | rfl | rfl | rfl | rfl | rfl | rfl
    · exact pz_mq_T h7 hX pz_me8
    · exact pz_mq_T h7 hX pz_me9
    · exact pz_mq_T h7 hX pz_me10
    · exact pz_mq_T h7 hX pz_me11
    · exact pz_mq_T h7 hX pz_me12
    · exact pz_mq_T h7 hX pz_me13
    · exact pz_mq_T h7 hX pz_me14
    · exact pz_mq_T h7 hX pz_me15
  have hQ8 : ∀ q ∈ [pz_qa, pz_qb], pz_QS (pf_V xs) q (pm_x (pm_ext ((List.range 7).map xs)) q.1) := by
    intro q hq
    simp only [List.mem_cons, List.not_mem_nil, or_false] at hq
    rcases hq with rfl | rfl
    · exact pf_QSa rfl rfl
    · exact pf_QSb rfl (show Int32.ofNat (pf_ct xs) = _ from congrArg Int32.ofNat (pf_p3_cnt _ _ _))
  by_cases c0 : 2147483648 ≤ pz_b ((pf_V xs).1 7) ∧ pz_b ((pf_V xs).1 7) ≤ 2147483657
  · exact pz_run h7 hX hE hk (pf_k8 ⟨Nat.zero_le _, by omega⟩ c0) pz_gr0_9
  by_cases c1 : 2147483658 ≤ pz_b ((pf_V xs).1 7) ∧ pz_b ((pf_V xs).1 7) ≤ 2147483663
  · exact pz_run h7 hX hE hk (pf_k8 ⟨Nat.zero_le _, by omega⟩ c1) pz_gr10_15
  by_cases c2 : 2147483664 ≤ pz_b ((pf_V xs).1 7) ∧ pz_b ((pf_V xs).1 7) ≤ 2147483664
  · exact pz_run h7 hX hE hk (pf_k8 ⟨Nat.zero_le _, by omega⟩ c2) pz_gr16_16
  by_cases c3 : 2147483665 ≤ pz_b ((pf_V xs).1 7) ∧ pz_b ((pf_V xs).1 7) ≤ 2147483665
  · exact pz_run h7 hX hE hk (pf_k8 ⟨Nat.zero_le _, by omega⟩ c3) pz_gr17_17
  by_cases c4 : 2147483667 ≤ pz_b ((pf_V xs).1 7) ∧ pz_b ((pf_V xs).1 7) ≤ 2147483667
  · exact pz_run h7 hX hE hk (pf_k8 ⟨Nat.zero_le _, by omega⟩ c4) pz_gr19_19
  by_cases c5 : 2147483668 ≤ pz_b ((pf_V xs).1 7) ∧ pz_b ((pf_V xs).1 7) ≤ 2147483668
  · exact pz_run h7 hX hE hk (pf_k8 ⟨Nat.zero_le _, by omega⟩ c5) pz_gr20_20
  by_cases c6 : 2147483671 ≤ pz_b ((pf_V xs).1 7) ∧ pz_b ((pf_V xs).1 7) ≤ 2147483677
  · exact pz_run h7 hX hE hk (pf_k8 ⟨Nat.zero_le _, by omega⟩ c6) pz_gr23_29
  by_cases c7 : 2147483679 ≤ pz_b ((pf_V xs).1 7) ∧ pz_b ((pf_V xs).1 7) ≤ 2147483686
  · exact pz_run h7 hX hE hk (pf_k8 ⟨Nat.zero_le _, by omega⟩ c7) pz_gr31_38
  by_cases c8 : 2147483687 ≤ pz_b ((pf_V xs).1 7) ∧ pz_b ((pf_V xs).1 7) ≤ 2147483687
  · exact pz_run h7 hX hE hk (pf_k8 ⟨Nat.zero_le _, by omega⟩ c8) pz_gr39_39
  by_cases c9 : 2147483688 ≤ pz_b ((pf_V xs).1 7) ∧ pz_b ((pf_V xs).1 7) ≤ 2147483711
  · exact pz_run h7 hX hE hk (pf_k8 ⟨Nat.zero_le _, by omega⟩ c9) pz_gr40_63
  by_cases c21 : 2147483669 ≤ pz_b ((pf_V xs).1 7) ∧ pz_b ((pf_V xs).1 7) ≤ 2147483669
  · exact pz_run h7 hX hQf hk (pf_k8 ⟨Nat.zero_le _, by omega⟩ c21) pz_gr21
  by_cases c22 : 2147483670 ≤ pz_b ((pf_V xs).1 7) ∧ pz_b ((pf_V xs).1 7) ≤ 2147483670
  · exact pz_run h7 hX hQb hk (pf_k8 ⟨Nat.zero_le _, by omega⟩ c22) pz_gr22
  by_cases c18 : 2147483666 ≤ pz_b ((pf_V xs).1 7) ∧ pz_b ((pf_V xs).1 7) ≤ 2147483666
  · exact pz_run h7 hX hQ8 hk (pf_k9 c18 (pf_b24 _ (pf_p3_len _ _ _ _ _).2)) pz_gr18
  have c30 : 2147483678 ≤ pz_b ((pf_V xs).1 7) ∧ pz_b ((pf_V xs).1 7) ≤ 2147483678 := by omega
  by_cases e0 : 0 ≤ pz_b ((pf_V xs).1 1) ∧ pz_b ((pf_V xs).1 1) ≤ 2147483647
  · exact pz_run h7 hX hE hk (pf_k8 e0 c30) pz_gr30iz
  by_cases e1 : 2147483648 ≤ pz_b ((pf_V xs).1 1) ∧ pz_b ((pf_V xs).1 1) ≤ 2147483648
  · exact pz_run h7 hX hE hk (pf_k8 e1 c30) pz_gr30i
  by_cases e2 : 2147483649 ≤ pz_b ((pf_V xs).1 1) ∧ pz_b ((pf_V xs).1 1) ≤ 2147483649
  · exact pz_run h7 hX hE hk (pf_k8 e2 c30) pz_gr30j
  by_cases e3 : 2147483650 ≤ pz_b ((pf_V xs).1 1) ∧ pz_b ((pf_V xs).1 1) ≤ 2147483650
  · exact pz_run h7 hX hE hk (pf_k8 e3 c30) pz_gr30k
  exact pz_run h7 hX hE hk (pf_k8 (a := 2147483651) (b := 4294967295) ⟨by omega, by omega⟩ c30) pz_gr30l
