theorem ld_get (Z : ld_M) (i j : Nat) (x : Int32) (a b : Nat) : ld_up Z i j x a b = if a = i ∧ b = j then x else Z a b := by
  unfold ld_up upd
  by_cases h : a = i
  · subst h
    by_cases h2 : b = j
    · simp [h2]
    · simp [h2]
  · simp [h]
theorem ld_get_n {Z : ld_M} {i j : Nat} {x : Int32} {a b : Nat} (h : ¬ (a = i ∧ b = j)) : ld_up Z i j x a b = Z a b := by rw [ld_get, if_neg h]
theorem ld_c0 : (0 : Int32).toNatClampNeg = 0 := by decide
theorem ld_c1 : (1 : Int32).toNatClampNeg = 1 := by decide
theorem ld_c2 : (2 : Int32).toNatClampNeg = 2 := by decide
theorem ld_c3 : (3 : Int32).toNatClampNeg = 3 := by decide
theorem ld_c4 : (4 : Int32).toNatClampNeg = 4 := by decide
theorem ld_arg (a : Int32) : a < 0 ∨ ∃ j : Nat, j < 2147483648 ∧ a = nI j := by
  by_cases h : a < 0
  · exact Or.inl h
  · exact Or.inr (nI_of h)
theorem ld_gn {j n : Nat} (hj : j < n) (hn : n < 2147483648) : ld_g (nI j) n = true := by
  unfold ld_g
  rw [nI_clamp (by omega)]
  have h0 : (0 : Int32) ≤ nI j := nI_pos' (by omega)
  simp [h0, hj]
theorem ld_n0 : (0 : Int32) = nI 0 := by decide
theorem ld_n1 : (1 : Int32) = nI 1 := by decide
theorem ld_n2 : (2 : Int32) = nI 2 := by decide
theorem ld_n3 : (3 : Int32) = nI 3 := by decide
theorem ld_n4 : (4 : Int32) = nI 4 := by decide
theorem ld_n7 : (7 : Int32) = nI 7 := by decide
theorem ld_n10 : (10 : Int32) = nI 10 := by decide
theorem ld_n11 : (11 : Int32) = nI 11 := by decide
theorem ld_n12 : (12 : Int32) = nI 12 := by decide
theorem ld_n20 : (20 : Int32) = nI 20 := by decide
theorem ld_n100 : (100 : Int32) = nI 100 := by decide
theorem ld_n1000 : (1000 : Int32) = nI 1000 := by decide
theorem ld_nm1 {j : Nat} (hj : j < 2147483648) : ¬ nI j = -1 := by
  intro h
  have h1 := nI_toInt hj
  rw [h] at h1
  have h2 : (-1 : Int32).toInt = -1 := by decide
  omega
theorem ld_nm1' {j : Nat} (hj : j < 2147483648) : ¬ (-1 : Int32) = nI j := fun h => ld_nm1 hj h.symm
theorem ld_m1lt {j : Nat} (hj : j < 2147483648) : (-1 : Int32) < nI j := by
  rw [Int32.lt_iff_toInt_lt, nI_toInt hj]
  have h2 : (-1 : Int32).toInt = -1 := by decide
  omega
theorem ld_m1lt0 : (-1 : Int32) < 0 := by decide
/-- places in the reference's long rows -/
theorem ld_idx {k a c n : Nat} (h : k * a + c < n) (hn : n < 2147483648) : ((nI k) * nI a) + nI c = nI (k * a + c) := by rw [pk_mul, nI_add]
-- what the small tests answer
theorem p_has0n {Z : ld_M} {b : Nat} {a : Int32} (h : a < 0) : kX0_has Z b a = some 0 := by
  unfold kX0_has
  rw [if_pos h]
  rfl
theorem p_has0t {Z : ld_M} {b C j : Nat} (hC : Z b 6 = nI C) (hc : C < 2147483648) (hj : j < C) : kX0_has Z b (nI j) = some 1 := by
  unfold kX0_has
  rw [if_neg (nI_pos (by omega)), hC, if_neg (nI_ge hj hc)]
  rfl
theorem p_has0f {Z : ld_M} {b C j : Nat} (hC : Z b 6 = nI C) (hj : j < 2147483648) (h : C ≤ j) : kX0_has Z b (nI j) = some 0 := by
  unfold kX0_has
  rw [if_neg (nI_pos hj), hC, if_pos (nI_le h hj)]
  rfl
theorem p_chn {Z : ld_M} {j : Nat} (hj : j < 12) : kX3_isChannel Z (nI j) = some 1 := by
  unfold kX3_isChannel
  rw [if_neg (nI_pos (by omega)), ld_n12, if_neg (nI_ge hj (by omega))]
  rfl
theorem p_has2n {Z : ld_M} {a : Int32} (h : a < 0) : kX2_has Z a = some 0 := by
  unfold kX2_has
  rw [if_pos h]
  rfl
theorem p_has2t {Z : ld_M} {C j : Nat} (hC : Z 3 3 = nI C) (hc : C < 2147483648) (hj : j < C) : kX2_has Z (nI j) = some 1 := by
  unfold kX2_has
  rw [if_neg (nI_pos (by omega)), hC, if_neg (nI_ge hj hc)]
  rfl
theorem p_has2f {Z : ld_M} {C j : Nat} (hC : Z 3 3 = nI C) (hj : j < 2147483648) (h : C ≤ j) : kX2_has Z (nI j) = some 0 := by
  unfold kX2_has
  rw [if_neg (nI_pos hj), hC, if_pos (nI_le h hj)]
  rfl
theorem p_ngt2 {Z : ld_M} {j : Nat} (hj : j < 4) : kX3_isNight Z (nI j) = some 1 := by
  unfold kX3_isNight
  rw [if_neg (nI_pos (by omega)), ld_n4, if_neg (nI_ge hj (by omega))]
  rfl
theorem p_in_t {Z : ld_M} {a lo hi : Int32} (h1 : ¬ a < lo) (h2 : ¬ hi < a) : kX4_in Z a lo hi = some 1 := by
  unfold kX4_in
  rw [if_neg h1, if_neg h2]
  rfl
theorem p_in_f1 {Z : ld_M} {a lo hi : Int32} (h1 : a < lo) : kX4_in Z a lo hi = some 0 := by
  unfold kX4_in
  rw [if_pos h1]
  rfl
theorem p_in_f2 {Z : ld_M} {a lo hi : Int32} (h2 : hi < a) : kX4_in Z a lo hi = some 0 := by
  unfold kX4_in
  by_cases h1 : a < lo
  · rw [if_pos h1]; rfl
  · rw [if_neg h1, if_pos h2]; rfl
theorem p_inN {Z : ld_M} {j n : Nat} (hj : j < 2147483648) (hn : n < 2147483648) : kX4_in Z (nI j) 0 (nI n) = some (if j ≤ n then 1 else 0) := by
  by_cases h : j ≤ n
  · rw [p_in_t (nI_pos hj) (nI_nlt h hn), if_pos h]
  · rw [p_in_f2 (nI_lt (by omega) hj), if_neg h]
theorem p_inL {Z : ld_M} {j n : Nat} (hj : j < 2147483648) (hn : n < 2147483648) : kX4_in Z (nI j) 0 (nI n - 1) = some (if j < n then 1 else 0) := by
  cases n with
  | zero =>
    rw [show nI 0 - 1 = (-1 : Int32) by decide, p_in_f2 (ld_m1lt hj)]
    simp
  | succ n =>
    rw [nI_pred, p_inN hj (by omega)]
    by_cases h : j < n + 1
    · rw [if_pos h, if_pos (by omega)]
    · rw [if_neg h, if_neg (by omega)]
theorem ld_b01 (c : Prop) [Decidable c] : ld_b (if c then 1 else 0) = true := by
  by_cases h : c
  · rw [if_pos h]; rfl
  · rw [if_neg h]; rfl
theorem p_isN {Z : ld_M} {F : ld_M → Int32 → Option Int32} {j n : Nat} (hF : ∀ Z a, F Z a = ld_bd (kX4_in Z a 0 (nI n)) (fun x => ld_ck (ld_b x) (some x))) (hj : j < 2147483648) (hn : n < 2147483648) : F Z (nI j) = some (if j ≤ n then 1 else 0) := by
  rw [hF, p_inN hj hn]
  show ld_ck (ld_b (if j ≤ n then 1 else 0)) (some (if j ≤ n then 1 else 0)) = _
  rw [ld_b01, ld_ck_t rfl]
theorem p_isNn {Z : ld_M} {F : ld_M → Int32 → Option Int32} {a : Int32} {n : Nat} (hF : ∀ Z a, F Z a = ld_bd (kX4_in Z a 0 (nI n)) (fun x => ld_ck (ld_b x) (some x))) (h : a < 0) : F Z a = some 0 := by
  rw [hF, p_in_f1 h]
  rfl
theorem p_list4 {Z : ld_M} {j : Nat} (hj : j < 2147483648) : kX4_isList Z (nI j) = some (if j ≤ 1 then 1 else 0) := p_isN (F := kX4_isList) (fun _ _ => rfl) hj (by omega)
theorem p_list4n {Z : ld_M} {a : Int32} (h : a < 0) : kX4_isList Z a = some 0 := p_isNn (F := kX4_isList) (n := 1) (fun _ _ => rfl) h
theorem p_chan4 {Z : ld_M} {j : Nat} (hj : j < 2147483648) : kX4_isChannel Z (nI j) = some (if j ≤ 11 then 1 else 0) := p_isN (F := kX4_isChannel) (fun _ _ => rfl) hj (by omega)
theorem p_chan4n {Z : ld_M} {a : Int32} (h : a < 0) : kX4_isChannel Z a = some 0 := p_isNn (F := kX4_isChannel) (n := 11) (fun _ _ => rfl) h
theorem p_night4 {Z : ld_M} {j : Nat} (hj : j < 2147483648) : kX4_isNight Z (nI j) = some (if j ≤ 3 then 1 else 0) := p_isN (F := kX4_isNight) (fun _ _ => rfl) hj (by omega)
theorem p_night4n {Z : ld_M} {a : Int32} (h : a < 0) : kX4_isNight Z a = some 0 := p_isNn (F := kX4_isNight) (n := 3) (fun _ _ => rfl) h
theorem p_lamp4 {Z : ld_M} {j n : Nat} (hL : Z 67 0 = nI n) (hj : j < 2147483648) (hn : n < 2147483648) : kX4_isLamp Z (nI j) = some (if j < n then 1 else 0) := by
  unfold kX4_isLamp
  rw [hL, p_inL hj hn]
  show ld_ck (ld_b (if j < n then 1 else 0)) (some (if j < n then 1 else 0)) = _
  rw [ld_b01, ld_ck_t rfl]
theorem p_lamp4n {Z : ld_M} {a : Int32} (h : a < 0) : kX4_isLamp Z a = some 0 := by
  unfold kX4_isLamp
  rw [p_in_f1 h]
  rfl
/-- the desk refuses a kind of lamp just when the reference does -/
theorem p_kind (Z Y : ld_M) (a g : Int32) : (kX3_needLampKind Z a g = some (.inl ()) ∧ kX4_isMade Y a g = some 1) ∨ (kX3_needLampKind Z a g = some (.inr 0) ∧ kX4_isMade Y a g = some 0) := by
  unfold kX3_needLampKind kX4_isMade
  by_cases h1 : a < 1
  · rw [if_pos h1, p_in_f1 h1]; exact Or.inr ⟨rfl, rfl⟩
  · rw [if_neg h1]
    by_cases h2 : a ≤ 20
    · rw [if_pos h2, p_in_t h1 (by rw [Int32.not_lt]; exact h2)]
      by_cases h3 : g < 0
      · rw [if_pos h3]
        refine Or.inr ⟨rfl, ?_⟩
        show ld_bd (kX4_in Y g 0 7) _ = _
        rw [p_in_f1 h3]; rfl
      · rw [if_neg h3]
        by_cases h4 : g ≤ 7
        · rw [if_pos h4]
          refine Or.inl ⟨rfl, ?_⟩
          show ld_bd (kX4_in Y g 0 7) _ = _
          rw [p_in_t h3 (by rw [Int32.not_lt]; exact h4)]; rfl
        · rw [if_neg h4]
          refine Or.inr ⟨rfl, ?_⟩
          show ld_bd (kX4_in Y g 0 7) _ = _
          rw [p_in_f2 (by rw [← Int32.not_le]; exact h4)]; rfl
    · rw [if_neg h2, p_in_f2 (by rw [← Int32.not_le]; exact h2)]; exact Or.inr ⟨rfl, rfl⟩
theorem p_tenths (Z Y : ld_M) (a : Int32) : (kX3_needTenths Z a = some (.inl ()) ∧ kX4_in Y a 0 100 = some 1 ∧ ∃ d, d ≤ 100 ∧ a = nI d) ∨ (kX3_needTenths Z a = some (.inr 0) ∧ kX4_in Y a 0 100 = some 0) := by
  unfold kX3_needTenths
  by_cases h1 : a < 0
  · rw [if_pos h1, p_in_f1 h1]; exact Or.inr ⟨rfl, rfl⟩
  · rw [if_neg h1]
    by_cases h2 : a ≤ 100
    · rw [if_pos h2, p_in_t h1 (by rw [Int32.not_lt]; exact h2)]
      exact Or.inl ⟨rfl, rfl, nI_of2 (M := 100) (n := 100) (by decide) h1 h2⟩
    · rw [if_neg h2, p_in_f2 (by rw [← Int32.not_le]; exact h2)]; exact Or.inr ⟨rfl, rfl⟩
theorem p_lev (Z Y : ld_M) (a : Int32) : (kX3_needLevelOrNone Z a = some (.inl ()) ∧ kX4_in Y a (-1) 100 = some 1 ∧ (a = -1 ∨ ∃ v, v ≤ 100 ∧ a = nI v)) ∨ (kX3_needLevelOrNone Z a = some (.inr 0) ∧ kX4_in Y a (-1) 100 = some 0) := by
  unfold kX3_needLevelOrNone
  by_cases h0 : a = -1
  · rw [if_pos h0, p_in_t (by rw [h0]; decide) (by rw [h0]; decide)]
    exact Or.inl ⟨rfl, rfl, Or.inl h0⟩
  · rw [if_neg h0]
    by_cases h1 : a < 0
    · rw [if_pos h1, p_in_f1 (by
        rw [Int32.lt_iff_toInt_lt] at h1 ⊢
        have e1 : (0 : Int32).toInt = 0 := by decide
        have e2 : (-1 : Int32).toInt = -1 := by decide
        have e3 : a.toInt ≠ -1 := fun q => h0 (Int32.toInt_inj.mp (q.trans e2.symm))
        omega)]
      exact Or.inr ⟨rfl, rfl⟩
    · rw [if_neg h1]
      have h5 : ¬ a < -1 := by
        rw [Int32.lt_iff_toInt_lt] at h1 ⊢
        have e1 : (0 : Int32).toInt = 0 := by decide
        have e2 : (-1 : Int32).toInt = -1 := by decide
        omega
      by_cases h2 : a ≤ 100
      · rw [if_pos h2, p_in_t h5 (by rw [Int32.not_lt]; exact h2)]
        exact Or.inl ⟨rfl, rfl, Or.inr (nI_of2 (M := 100) (n := 100) (by decide) h1 h2)⟩
      · rw [if_neg h2, p_in_f2 (by rw [← Int32.not_le]; exact h2)]; exact Or.inr ⟨rfl, rfl⟩
/-- the same for a night, a channel, a list: refused, or a number in range -/
theorem p_nt (Z Y : ld_M) (a : Int32) : (kX3_needNight Z a = some (.inl ()) ∧ kX4_isNight Y a = some 1 ∧ ∃ j, j < 4 ∧ a = nI j) ∨ (kX3_needNight Z a = some (.inr 0) ∧ kX4_isNight Y a = some 0) := by
  unfold kX3_needNight kX3_isNight
  rcases ld_arg a with h | ⟨j, hj, rfl⟩
  · rw [if_pos h, p_night4n h]; exact Or.inr ⟨rfl, rfl⟩
  · rw [if_neg (nI_pos hj), p_night4 hj, ld_n4]
    by_cases h : j < 4
    · rw [if_neg (nI_ge h (by omega)), if_pos (by omega)]; exact Or.inl ⟨rfl, rfl, j, h, rfl⟩
    · rw [if_pos (nI_le (by omega) hj), if_neg (by omega)]; exact Or.inr ⟨rfl, rfl⟩
theorem p_ch (Z Y : ld_M) (a : Int32) : (kX3_needChannel Z a = some (.inl ()) ∧ kX4_isChannel Y a = some 1 ∧ ∃ j, j < 12 ∧ a = nI j) ∨ (kX3_needChannel Z a = some (.inr 0) ∧ kX4_isChannel Y a = some 0) := by
  unfold kX3_needChannel kX3_isChannel
  rcases ld_arg a with h | ⟨j, hj, rfl⟩
  · rw [if_pos h, p_chan4n h]; exact Or.inr ⟨rfl, rfl⟩
  · rw [if_neg (nI_pos hj), p_chan4 hj, ld_n12]
    by_cases h : j < 12
    · rw [if_neg (nI_ge h (by omega)), if_pos (by omega)]; exact Or.inl ⟨rfl, rfl, j, h, rfl⟩
    · rw [if_pos (nI_le (by omega) hj), if_neg (by omega)]; exact Or.inr ⟨rfl, rfl⟩
theorem p_li (Z Y : ld_M) (a : Int32) : (kX3_needList Z a = some (.inl ()) ∧ kX4_isList Y a = some 1 ∧ (a = nI 0 ∨ a = nI 1)) ∨ (kX3_needList Z a = some (.inr 0) ∧ kX4_isList Y a = some 0) := by
  unfold kX3_needList
  rcases ld_arg a with h | ⟨j, hj, rfl⟩
  · rw [if_pos h, p_list4n h]; exact Or.inr ⟨rfl, rfl⟩
  · rw [if_neg (nI_pos hj), p_list4 hj, ld_n2]
    by_cases h : j < 2
    · rw [if_pos (nI_lt h (by omega)), if_pos (by omega)]
      refine Or.inl ⟨rfl, rfl, ?_⟩
      rcases (show j = 0 ∨ j = 1 by omega) with rfl | rfl
      · exact Or.inl rfl
      · exact Or.inr rfl
    · rw [if_neg (nI_nlt (by omega) hj), if_neg (by omega)]; exact Or.inr ⟨rfl, rfl⟩
theorem ld_cu0 : ld_cu (nI 0) = 11 := by decide
theorem ld_cu1 : ld_cu (nI 1) = 28 := by decide
