def ld_Z0 : ld_M := fun i => if (6 < i ∧ i < 11) ∨ (17 < i ∧ i < 28) ∨ (34 < i ∧ i < 45) then (fun _ => (-1)) else if i = 11 ∨ i = 28 then (fun j => if j = 7 then (-1) else 0) else if i = 78 then upd (upd (fun _ => 0) (0 : Int32).toNatClampNeg (-1)) (1 : Int32).toNatClampNeg (-1) else fun _ => 0
theorem ld_base : lr_T 0 ld_Z0 ld_Z0 := by
  have c0 : (0 : Int32).toNatClampNeg = 0 := ld_c0
  have c1 : (1 : Int32).toNatClampNeg = 1 := ld_c1
  refine ⟨0, 0, 0, 0, Nat.le_refl _, rfl, ?_, ?_, ?_, ?_, ?_, ?_, ?_⟩
  · refine ⟨by omega, rfl, rfl, fun j _ => ⟨rfl, rfl⟩, fun n j hn hj => ?_⟩
    have e : ld_Z0 (7 + n) j = -1 := by
      unfold ld_Z0
      rw [if_pos (by omega)]
    rw [e]
    exact ⟨rfl, Or.inl rfl⟩
  · exact ⟨⟨0, by omega, rfl, rfl⟩, fun c hc => ⟨Or.inl rfl, rfl, rfl⟩⟩
  · refine ⟨by omega, rfl, rfl, fun q hq => ⟨⟨0, 0, by omega, by omega, rfl, rfl, rfl, rfl⟩, rfl, Or.inl rfl⟩, fun q c hq hc => ?_⟩
    have e : ld_Z0 (11 + 7 + q) c = -1 := by
      unfold ld_Z0
      rw [if_pos (by omega)]
    rw [e]
    exact ⟨rfl, Or.inl rfl⟩
  · refine ⟨by omega, rfl, rfl, fun q hq => ⟨⟨0, 0, by omega, by omega, rfl, rfl, rfl, rfl⟩, rfl, Or.inl rfl⟩, fun q c hq hc => ?_⟩
    have e : ld_Z0 (28 + 7 + q) c = -1 := by
      unfold ld_Z0
      rw [if_pos (by omega)]
    rw [e]
    exact ⟨rfl, Or.inl rfl⟩
  · exact Or.inl ⟨rfl, rfl, fun c _ => ⟨rfl, rfl⟩⟩
  · exact Or.inl ⟨rfl, rfl, fun c _ => ⟨rfl, rfl⟩⟩
  · exact ⟨0, 0, by omega, by omega, rfl, rfl, rfl, fun j hj => by omega⟩
theorem ld_over {L i : Nat} (h : L < 5 * i + 5) (hi : i < 1000) : nI L - 5 < nI (5 * i) := by
  by_cases e : 5 ≤ L
  · rw [show (5 : Int32) = nI 5 from rfl, ld_sub e]
    exact nI_lt (by omega) (by omega)
  · have n1 := ld_subneg (show L < 5 by omega) (by omega)
    have n2 : nI L - nI 5 < 0 := by rw [← Int32.not_le]; exact n1
    have n3 : (0 : Int32) ≤ nI (5 * i) := nI_pos' (by omega)
    rw [Int32.lt_iff_toInt_lt] at n2 ⊢
    rw [Int32.le_iff_toInt_le] at n3
    exact Int.lt_of_lt_of_le n2 n3
theorem ld_run (L : Nat) (xs : Nat → Int32) (hL : L ≤ 2560) : ∀ k i n T Z, L < 5 * (i + k) + 5 → i + k < 1000 → k < n → T + 1000 * k ≤ 1000000 → lr_T T Z Z → kL_law_23 L xs n Z (nI (5 * i)) = some 1 := by
  intro k
  induction k with
  | zero =>
    intro i n T Z h1 h2 h3 h4 hR
    obtain ⟨m, rfl⟩ : ∃ m, n = m + 1 := ⟨n - 1, by omega⟩
    rw [kL_law_23, if_pos (ld_over (by omega) (by omega))]
  | succ k ih =>
    intro i n T Z g1 g2 g3 g4 hR
    obtain ⟨m, rfl⟩ : ∃ m, n = m + 1 := ⟨n - 1, by omega⟩
    by_cases e : L < 5 * i + 5
    · rw [kL_law_23, if_pos (ld_over e (by omega))]
    · have n1 : ¬ nI L - 5 < nI (5 * i) := by
        rw [show (5 : Int32) = nI 5 from rfl, ld_sub (by omega)]
        exact nI_nlt (by omega) (by omega)
      have h0 := ld_gn (show 5 * i < L by omega) (show L < 2147483648 by omega)
      have h1 : ld_g (nI (5 * i) + 1) L = true := by rw [ld_n1, nI_add]; exact ld_gn (by omega) (by omega)
      have h2 : ld_g (nI (5 * i) + 2) L = true := by rw [ld_n2, nI_add]; exact ld_gn (by omega) (by omega)
      have h3 : ld_g (nI (5 * i) + 3) L = true := by rw [ld_n3, nI_add]; exact ld_gn (by omega) (by omega)
      have h4 : ld_g (nI (5 * i) + 4) L = true := by rw [ld_n4, nI_add]; exact ld_gn (by omega) (by omega)
      have hT : T + 1000 < 2000000000 := by omega
      have K : ∀ Z2, lr_T (T + 1000) Z2 Z2 → kL_law_23 L xs m Z2 (nI (5 * i) + 5) = some 1 := by
        intro Z2 hZ2
        rw [show (5 : Int32) = nI 5 from rfl, nI_add, show 5 * i + 5 = 5 * (i + 1) by omega]
        exact ih (i + 1) m (T + 1000) Z2 (by omega) (by omega) (by omega) (by omega) hZ2
      rw [kL_law_23, if_neg n1, ld_ck_t h0]
      generalize xs (nI (5 * i)).toNatClampNeg &&& 31 = s
      by_cases s0 : s = 0
      · rw [if_pos s0]
        obtain ⟨Z2, z1, z2⟩ := lr_a_120 (L := L) (xs := xs) (k := kL_law_23 L xs m) (v := nI (5 * i)) hR hT h1 h2 h3 h4
        rw [z2]
        exact K Z2 z1
      rw [if_neg s0]
      by_cases s1 : s = 1
      · rw [if_pos s1]
        obtain ⟨Z2, z1, z2⟩ := lr_a_188 (L := L) (xs := xs) (k := kL_law_23 L xs m) (v := nI (5 * i)) hR hT h1 h2 h3
        rw [z2]
        exact K Z2 z1
      rw [if_neg s1]
      by_cases s2 : s = 2
      · rw [if_pos s2]
        obtain ⟨Z2, z1, z2⟩ := lr_a_248 (L := L) (xs := xs) (k := kL_law_23 L xs m) (v := nI (5 * i)) hR hT h1 h2 h3 h4
        rw [z2]
        exact K Z2 z1
      rw [if_neg s2]
      by_cases s3 : s = 3
      · rw [if_pos s3]
        obtain ⟨Z2, z1, z2⟩ := lr_a_328 (L := L) (xs := xs) (k := kL_law_23 L xs m) (v := nI (5 * i)) hR hT h1 h2 h3 h4
        rw [z2]
        exact K Z2 z1
      rw [if_neg s3]
      by_cases s4 : s = 4
      · rw [if_pos s4]
        obtain ⟨Z2, z1, z2⟩ := lr_a_384 (L := L) (xs := xs) (k := kL_law_23 L xs m) (v := nI (5 * i)) hR hT h1 h2
        rw [z2]
        exact K Z2 z1
      rw [if_neg s4]
      by_cases s5 : s = 5
      · rw [if_pos s5]
        obtain ⟨Z2, z1, z2⟩ := lr_a_475 (L := L) (xs := xs) (k := kL_law_23 L xs m) (v := nI (5 * i)) hR hT h1 h2 h3 h4
        rw [z2]
        exact K Z2 z1
      rw [if_neg s5]
      by_cases s6 : s = 6
      · rw [if_pos s6]
        obtain ⟨Z2, z1, z2⟩ := lr_a_583 (L := L) (xs := xs) (k := kL_law_23 L xs m) (v := nI (5 * i)) hR hT h1 h2 h3 h4
        rw [z2]
        exact K Z2 z1
      rw [if_neg s6]
      by_cases s7 : s = 7
      · rw [if_pos s7]
        obtain ⟨Z2, z1, z2⟩ := lr_a_675 (L := L) (xs := xs) (k := kL_law_23 L xs m) (v := nI (5 * i)) hR hT h1 h2 h3 h4
        rw [z2]
        exact K Z2 z1
      rw [if_neg s7]
      by_cases s8 : s = 8
      · rw [if_pos s8]
        obtain ⟨Z2, z1, z2⟩ := lr_a_719 (L := L) (xs := xs) (k := kL_law_23 L xs m) (v := nI (5 * i)) hR hT h1 h2 h3 h4
        rw [z2]
        exact K Z2 z1
      rw [if_neg s8]
      by_cases s9 : s = 9
      · rw [if_pos s9]
        obtain ⟨Z2, z1, z2⟩ := lr_a_787 (L := L) (xs := xs) (k := kL_law_23 L xs m) (v := nI (5 * i)) hR hT h1 h2 h3 h4
        rw [z2]
        exact K Z2 z1
      rw [if_neg s9]
      by_cases s10 : s = 10
      · rw [if_pos s10]
        obtain ⟨Z2, z1, z2⟩ := lr_a_843 (L := L) (xs := xs) (k := kL_law_23 L xs m) (v := nI (5 * i)) hR hT h1 h2 h3 h4
        rw [z2]
        exact K Z2 z1
      rw [if_neg s10]
      by_cases s11 : s = 11
      · rw [if_pos s11]
        obtain ⟨Z2, z1, z2⟩ := lr_a_899 (L := L) (xs := xs) (k := kL_law_23 L xs m) (v := nI (5 * i)) hR hT h1 h2 h3 h4
        rw [z2]
        exact K Z2 z1
      rw [if_neg s11]
      by_cases s12 : s = 12
      · rw [if_pos s12]
        obtain ⟨Z2, z1, z2⟩ := lr_a_967 (L := L) (xs := xs) (k := kL_law_23 L xs m) (v := nI (5 * i)) hR hT h1 h2 h3 h4
        rw [z2]
        exact K Z2 z1
      rw [if_neg s12]
      by_cases s13 : s = 13
      · rw [if_pos s13]
        obtain ⟨Z2, z1, z2⟩ := lr_a_1023 (L := L) (xs := xs) (k := kL_law_23 L xs m) (v := nI (5 * i)) hR hT h1 h2 h3 h4
        rw [z2]
        exact K Z2 z1
      rw [if_neg s13]
      by_cases s14 : s = 14
      · rw [if_pos s14]
        obtain ⟨Z2, z1, z2⟩ := lr_a_1079 (L := L) (xs := xs) (k := kL_law_23 L xs m) (v := nI (5 * i)) hR hT 
        rw [z2]
        exact K Z2 z1
      rw [if_neg s14]
      by_cases s15 : s = 15
      · rw [if_pos s15]
        obtain ⟨Z2, z1, z2⟩ := lr_a_1092 (L := L) (xs := xs) (k := kL_law_23 L xs m) (v := nI (5 * i)) hR hT h1 h2 h3 h4
        rw [z2]
        exact K Z2 z1
      rw [if_neg s15]
      by_cases s16 : s = 16
      · rw [if_pos s16]
        obtain ⟨Z2, z1, z2⟩ := lr_a_1172 (L := L) (xs := xs) (k := kL_law_23 L xs m) (v := nI (5 * i)) hR hT h1 h2 h3 h4
        rw [z2]
        exact K Z2 z1
      rw [if_neg s16]
      exact K Z (hR.up (by omega))
theorem ld_pure (L : Nat) (xs : Nat → Int32) (hL : L ≤ 2560) : kL_law_23 L xs 600 ld_Z0 0 = some 1 :=
  ld_run L xs hL 512 0 600 0 ld_Z0 (by omega) (by omega) (by omega) (by omega) ld_base
