theorem ld_sub {a b : Nat} (h : b ≤ a) : nI a - nI b = nI (a - b) := by
  obtain ⟨k, rfl⟩ := Nat.exists_eq_add_of_le h
  rw [Nat.add_sub_cancel_left, ← nI_add, Int32.add_comm, Int32.add_sub_cancel]
theorem ld_subneg {a b : Nat} (h : a < b) (hb : b < 2147483648) : ¬ (0 : Int32) ≤ nI a - nI b := by
  rw [Int32.le_iff_toInt_le, Int32.toInt_sub, nI_toInt (by omega), nI_toInt hb, Int.bmod_eq_of_le (by omega) (by omega)]
  have : (0 : Int32).toInt = 0 := by decide
  omega
theorem p_levD {D : ld_M} {b C q e d f c : Nat} (h6 : D b 6 = nI C) (hC : C ≤ 10) (hq : q < C) (hc : c < 12) (h7 : D b 7 = nI q) (h8 : D b 8 = nI e) (h1 : D (b + 1) q = nI d) (h2 : D (b + 2) q = nI f) (hd : d ≤ 100) (hf : f ≤ 100) (he : e ≤ d + f) : kX0_levelNow D b (nI c) = some (if e < d then D (b + 5) c else if e - d < f then D (b + 5) c + ((D (b + 6) c - D (b + 5) c) * nI (e - d)) / nI f else D (b + 6) c) := by
  have p1 := p_has0t (b := b) (j := q) h6 (by omega) hq
  have p2 := p_chn (Z := D) hc
  have hgq := ld_gn (show q < 10 by omega) (show 10 < 2147483648 by omega)
  have hgc := ld_gn hc (show 12 < 2147483648 by omega)
  have hcq := nI_clamp (show q < 2147483648 by omega)
  have hcc := nI_clamp (show c < 2147483648 by omega)
  by_cases e1 : e < d
  · have n1 := ld_subneg e1 (by omega)
    simp [kX0_levelNow, h7, h8, h1, h2, p1, p2, ld_bd, ld_ck, hgq, hgc, hcq, hcc, n1, e1]
  · have n0 := ld_sub (show d ≤ e by omega)
    have n1 := nI_pos' (show e - d < 2147483648 by omega)
    by_cases e2 : e - d < f
    · have n2 : ¬ nI f ≤ 0 := nI_nle (by omega) (by omega)
      have n3 := nI_lt e2 (by omega)
      have n4 : ¬ nI f = 0 := nI_ne0 (by omega) (by omega)
      simp [kX0_levelNow, h7, h8, h1, h2, p1, p2, ld_bd, ld_ck, hgq, hgc, hcq, hcc, n0, n1, n2, n3, n4, e1, e2]
    · by_cases e3 : f = 0
      · subst e3
        simp [kX0_levelNow, h7, h8, h1, h2, p1, p2, ld_bd, ld_ck, hgq, hgc, hcq, hcc, n0, n1, nI_0, e1, kX0_levelNow_65]
      · have n2 : ¬ nI f ≤ 0 := nI_nle (by omega) (by omega)
        have n3 := nI_nlt (show f ≤ e - d by omega) (by omega)
        simp [kX0_levelNow, h7, h8, h1, h2, p1, p2, ld_bd, ld_ck, hgq, hgc, hcq, hcc, n0, n1, n2, n3, e1, e2, kX0_levelNow_65]
theorem p_levM {M : ld_M} {l q s t d f c : Nat} (hl : l < 2) (hq : q < 10) (hc : c < 12) (h7 : M 78 l = nI q) (h8 : M 79 l = nI s) (ht : M 67 12 = nI t) (hs : s ≤ t) (htB : t < 2147483648) (h1 : M 74 (10 * l + q) = nI d) (h2 : M 75 (10 * l + q) = nI f) (hd : d ≤ 100) (hf : f ≤ 100) : kX4_levelOf M (nI l) (nI c) = some (if M 81 (12 * l + c) = 0 then M 80 (12 * l + c) else if t - s < d then M 80 (12 * l + c) else if t - s - d < f then M 80 (12 * l + c) + ((M 81 (12 * l + c) - 1 - M 80 (12 * l + c)) * nI (t - s - d)) / nI f else M 81 (12 * l + c) - 1) := by
  have hg1 := ld_gn (show 12 * l + c < 24 by omega) (show 24 < 2147483648 by omega)
  have hc1 := nI_clamp (show 12 * l + c < 2147483648 by omega)
  have hg2 := ld_gn (show 10 * l + q < 20 by omega) (show 20 < 2147483648 by omega)
  have hc2 := nI_clamp (show 10 * l + q < 2147483648 by omega)
  have hgl := ld_gn hl (show 2 < 2147483648 by omega)
  have hcl := nI_clamp (show l < 2147483648 by omega)
  have n9 := ld_sub hs
  by_cases e0 : M 81 (12 * l + c) = 0
  · simp [kX4_levelOf, ix12, hg1, hc1, ld_ck, e0]
  · by_cases e1 : t - s < d
    · have n1 := ld_subneg e1 (by omega)
      simp [kX4_levelOf, ix12, ix10, hg1, hc1, hgl, hcl, h7, h8, ht, h1, h2, n9, hg2, hc2, ld_ck, e0, e1, n1, kX4_levelOf_131]
    · have n0 := ld_sub (show d ≤ t - s by omega)
      have n1 := nI_pos' (show t - s - d < 2147483648 by omega)
      by_cases e2 : t - s - d < f
      · have n3 := nI_lt e2 (by omega)
        have n4 : ¬ nI f = 0 := nI_ne0 (by omega) (by omega)
        simp [kX4_levelOf, ix12, ix10, hg1, hc1, hgl, hcl, h7, h8, ht, h1, h2, n9, hg2, hc2, ld_ck, e0, e1, e2, n0, n1, n3, n4, kX4_levelOf_131]
      · have n3 := nI_nlt (show f ≤ t - s - d by omega) (by omega)
        simp [kX4_levelOf, ix12, ix10, hg1, hc1, hgl, hcl, h7, h8, ht, h1, h2, n9, hg2, hc2, ld_ck, e0, e1, e2, n0, n1, n3, kX4_levelOf_131]
theorem lr_lev {l b C t c : Nat} {D M : ld_M} (hl : l < 2) (h3 : lr_3 l b C D M) (h4 : lr_4 l b C t D M) (ht : M 67 12 = nI t) (htB : t < 2147483648) (hc : c < 12) : ∃ v, kX0_levelNow D b (nI c) = some v ∧ kX4_levelOf M (nI l) (nI c) = some v := by
  obtain ⟨hC, g2, g3, g4, g5⟩ := h3
  rcases h4 with ⟨k1, k2, k3⟩ | ⟨q, s, e, d, f, hq, k1, k2, k3, k4, k5, k6, k7, k8, k9, k10, k11, k12, k13⟩
  · obtain ⟨k4, k5⟩ := k3 c hc
    have hg1 := ld_gn (show 12 * l + c < 24 by omega) (show 24 < 2147483648 by omega)
    have hc1 := nI_clamp (show 12 * l + c < 2147483648 by omega)
    have p1 := p_has0n (Z := D) (b := b) (show (-1 : Int32) < 0 by decide)
    exact ⟨0, by simp [kX0_levelNow, k1, p1, ld_bd, kX0_levelNow_18], by simp [kX4_levelOf, ix12, hg1, hc1, ld_ck, k4, k5]⟩
  · obtain ⟨k14, k15⟩ := k13 c hc
    refine ⟨_, p_levD g2 hC hq hc k1 k5 k6 k7 k10 k11 (by omega), ?_⟩
    rw [p_levM hl (by omega) hc k2 k3 ht k4 htB k8 k9 k10 k11]
    rcases k15 with ⟨j1, j2⟩ | ⟨v, hv, j1, j2⟩
    · rw [if_pos j1, j2, Int32.sub_self, Int32.zero_mul, Int32.zero_div, Int32.add_zero, k14]
      simp
    · have n1 : ¬ nI (v + 1) = 0 := nI_ne0 (by omega) (by omega)
      rw [j1, if_neg n1, nI_pred, ← j2, ← k14]
      by_cases e1 : t - s < d
      · rw [if_pos e1, if_pos (show e < d by omega)]
      · rw [if_neg e1, if_neg (show ¬ e < d by omega)]
        by_cases e2 : t - s - d < f
        · have : e = t - s := by omega
          rw [if_pos e2, if_pos (show e - d < f by omega), this]
        · rw [if_neg e2, if_neg (show ¬ e - d < f by omega)]
theorem p_chanOf {D : ld_M} {L n j : Nat} (h : D 3 3 = nI L) (hL : L ≤ 20) (hn : n < 4) (hj : j < L) : kX2_channelOf D (nI n) (nI j) = some (D (7 + n) j) := by
  have p1 := p_ngt2 (Z := D) hn
  have p2 := p_has2t h (by omega) hj
  have g1 := ld_gn hn (show 4 < 2147483648 by omega)
  have g2 := ld_gn (show j < 20 by omega) (show 20 < 2147483648 by omega)
  have c1 := nI_clamp (show n < 2147483648 by omega)
  have c2 := nI_clamp (show j < 2147483648 by omega)
  simp [kX2_channelOf, p1, p2, ld_bd, ld_ck, g1, g2, c1, c2, kX2_channelOf_27]
theorem p_powOf {D : ld_M} {L j : Nat} (h : D 3 3 = nI L) (hL : L ≤ 20) (hj : j < L) : kX2_powerOf D (nI j) = some (D 4 j) ∧ kX2_gelOf D (nI j) = some (D 5 j) := by
  have p2 := p_has2t h (by omega) hj
  have g2 := ld_gn (show j < 20 by omega) (show 20 < 2147483648 by omega)
  have c2 := nI_clamp (show j < 2147483648 by omega)
  exact ⟨by simp [kX2_powerOf, p2, ld_bd, ld_ck, g2, c2, kX2_powerOf_18], by simp [kX2_gelOf, p2, ld_bd, ld_ck, g2, c2, kX2_gelOf_18]⟩
theorem p_shine {D : ld_M} {L j : Nat} (h : D 3 3 = nI L) (hL : L ≤ 20) (hj : j < L) (a : Int32) : kX2_shine D (nI j) a = some (((D 4 j * a) * (100 - 5 * D 5 j)) / 100) := by
  obtain ⟨h1, h2⟩ := p_powOf h hL hj
  simp [kX2_shine, h1, h2, ld_bd, kX2_shineOfKind, ld_ck]
theorem lr_shine {L n : Nat} {D M : ld_M} (h : lr_1 L D M) (hn : n < 4) (a2 a3 : Int32) : ∀ k j n9 n8 v4, j + k = L → k < n9 → k < n8 → ∃ v, kX2_shineOn_6 (nI n) a2 a3 n9 D v4 (nI j) = some v ∧ kX4_lightOf_6 (nI n) a2 a3 n8 M v4 (nI j) = some v := by
  obtain ⟨g1, g2, g3, g4, g5⟩ := h
  intro k
  induction k with
  | zero =>
    intro j n9 n8 v4 hj h9 h8
    obtain ⟨m9, rfl⟩ : ∃ m, n9 = m + 1 := ⟨n9 - 1, by omega⟩
    obtain ⟨m8, rfl⟩ : ∃ m, n8 = m + 1 := ⟨n8 - 1, by omega⟩
    have : j = L := by omega
    subst this
    exact ⟨v4, by simp [kX2_shineOn_6, g2], by simp [kX4_lightOf_6, g3]⟩
  | succ k ih =>
    intro j n9 n8 v4 hj h9 h8
    obtain ⟨m9, rfl⟩ : ∃ m, n9 = m + 1 := ⟨n9 - 1, by omega⟩
    obtain ⟨m8, rfl⟩ : ∃ m, n8 = m + 1 := ⟨n8 - 1, by omega⟩
    have n1 : ¬ nI L ≤ nI j := nI_ge (by omega) (by omega)
    have p1 := p_chanOf g2 g1 hn (show j < L by omega)
    have p2 := p_shine g2 g1 (show j < L by omega) a3
    have gg := ld_gn (show 20 * n + j < 80 by omega) (show 80 < 2147483648 by omega)
    have cc := nI_clamp (show 20 * n + j < 2147483648 by omega)
    have gj := ld_gn (show j < 20 by omega) (show 20 < 2147483648 by omega)
    have cj := nI_clamp (show j < 2147483648 by omega)
    obtain ⟨q1, -⟩ := g5 n j hn (by omega)
    obtain ⟨q2, q3⟩ := g4 j (by omega)
    by_cases e : D (7 + n) j = a2
    · obtain ⟨v, i1, i2⟩ := ih (j + 1) m9 m8 (v4 + ((D 4 j * a3) * (100 - 5 * D 5 j)) / 100) (by omega) (by omega) (by omega)
      refine ⟨v, ?_, ?_⟩
      · simp [kX2_shineOn_6, g2, n1, p1, p2, ld_bd, e, kX2_shineOn_38, nI_1]
        exact i1
      · simp [kX4_lightOf_6, g3, n1, ix20, gg, cc, q1, e, ld_ck, gj, cj, kX4_through, ld_bd, q2, q3, kX4_lightOf_57, nI_1]
        exact i2
    · obtain ⟨v, i1, i2⟩ := ih (j + 1) m9 m8 v4 (by omega) (by omega) (by omega)
      refine ⟨v, ?_, ?_⟩
      · simp [kX2_shineOn_6, g2, n1, p1, p2, ld_bd, e, kX2_shineOn_38, nI_1]
        exact i1
      · simp [kX4_lightOf_6, g3, n1, ix20, gg, cc, q1, e, ld_ck, kX4_lightOf_57, nI_1]
        exact i2
theorem lr_lit {L n : Nat} {D M : ld_M} (h : lr_1 L D M) (hn : n < 4) (a2 a3 : Int32) : ∃ v, kX2_shineOn D (nI n) a2 a3 = some v ∧ kX4_lightOf M (nI n) a2 a3 = some v :=
  lr_shine h hn a2 a3 L 0 ld_fu ld_fu 0 (by omega) (by have := h.1; unfold ld_fu; omega) (by have := h.1; unfold ld_fu; omega)
theorem lr_dark {L n : Nat} {D : ld_M} (g1 : L ≤ 20) (g2 : D 3 3 = nI L) (hn : n < 4) (a2 : Int32) : ∀ k j n9 v4, j + k = L → k < n9 → kX2_shineOn_6 (nI n) a2 0 n9 D v4 (nI j) = some v4 := by
  intro k
  induction k with
  | zero =>
    intro j n9 v4 hj h9
    obtain ⟨m9, rfl⟩ : ∃ m, n9 = m + 1 := ⟨n9 - 1, by omega⟩
    have : j = L := by omega
    subst this
    simp [kX2_shineOn_6, g2]
  | succ k ih =>
    intro j n9 v4 hj h9
    obtain ⟨m9, rfl⟩ : ∃ m, n9 = m + 1 := ⟨n9 - 1, by omega⟩
    have n1 : ¬ nI L ≤ nI j := nI_ge (by omega) (by omega)
    have p1 := p_chanOf g2 g1 hn (show j < L by omega)
    have p2 := p_shine g2 g1 (show j < L by omega) 0
    have i1 := ih (j + 1) m9 v4 (by omega) (by omega)
    by_cases e : D (7 + n) j = a2
    · simp [kX2_shineOn_6, g2, n1, p1, p2, ld_bd, e, kX2_shineOn_38, nI_1]
      exact i1
    · simp [kX2_shineOn_6, g2, n1, p1, p2, ld_bd, e, kX2_shineOn_38, nI_1]
      exact i1
theorem lr_drk {L n : Nat} {D M : ld_M} (h : lr_1 L D M) (hn : n < 4) (a2 : Int32) : kX2_shineOn D (nI n) a2 0 = some 0 :=
  lr_dark h.1 h.2.1 hn a2 L 0 ld_fu 0 (by omega) (by have := h.1; unfold ld_fu; omega)
theorem lr_mrg {T L t c : Nat} {C : Nat → Nat} {D M : ld_M} (h : lr_V T L t C (fun _ => t) D M) (hT : T < 2147483648) (hc : c < 12) : ∃ v, kX3_mergedNow D (nI c) = some v ∧ kX4_mergedOf M (nI c) = some v := by
  obtain ⟨r0, ht, r1, r2, r3, r4, r5⟩ := h
  obtain ⟨x, x1, x2⟩ := lr_lev (t := t) (by omega) (r3 0 (by omega)) (r4 0 (by omega)) ht (by omega) hc
  obtain ⟨y, y1, y2⟩ := lr_lev (t := t) (by omega) (r3 1 (by omega)) (r4 1 (by omega)) ht (by omega) hc
  have x1 : kX0_levelNow D 11 (nI c) = some x := x1
  have y1 : kX0_levelNow D 28 (nI c) = some y := y1
  have x2 : kX4_levelOf M 0 (nI c) = some x := x2
  have y2 : kX4_levelOf M 1 (nI c) = some y := y2
  obtain ⟨-, g4⟩ := r2
  obtain ⟨g5, g6, g7⟩ := g4 c hc
  have hg := ld_gn hc (show 12 < 2147483648 by omega)
  have hcc := nI_clamp (show c < 2147483648 by omega)
  rcases g5 with q | q
  · refine ⟨if x < y then y else x, by simp [kX3_mergedNow, x1, y1, ld_bd, ld_ck, p_chn (Z := D) hc, hg, hcc, q, kX3_mergedNow_49], ?_⟩
    by_cases e : x < y
    · have e2 : x ≤ y := Int32.le_of_lt e
      simp [kX4_mergedOf, x2, y2, ld_bd, ld_ck, hg, hcc, g6, q, kX4_mergedOf_49, e, e2]
    · by_cases e2 : x ≤ y
      · have e3 : x = y := Int32.le_antisymm e2 (by rw [← Int32.not_lt]; exact e)
        subst e3
        simp [kX4_mergedOf, x2, y2, ld_bd, ld_ck, hg, hcc, g6, q, kX4_mergedOf_49]
      · simp [kX4_mergedOf, x2, y2, ld_bd, ld_ck, hg, hcc, g6, q, kX4_mergedOf_49, e, e2]
  · by_cases e : D 2 c = 0
    · exact ⟨x, by simp [kX3_mergedNow, x1, y1, ld_bd, ld_ck, p_chn (Z := D) hc, hg, hcc, q, e, kX3_mergedNow_48], by simp [kX4_mergedOf, x2, y2, ld_bd, ld_ck, hg, hcc, g6, g7, q, e, kX4_mergedOf_38]⟩
    · exact ⟨y, by simp [kX3_mergedNow, x1, y1, ld_bd, ld_ck, p_chn (Z := D) hc, hg, hcc, q, e, kX3_mergedNow_48], by simp [kX4_mergedOf, x2, y2, ld_bd, ld_ck, hg, hcc, g6, g7, q, e, kX4_mergedOf_38]⟩
theorem lr_S.rd {T : Nat} {D M : ld_M} {rd : Option (Int32 ⊕ Nat)} {rm : Option (Int32 × ld_M)} {code : Nat → Int32} (h : lr_T T D M) (bv : Int32) (h1 : rd = some (.inl bv)) (h2 : rm = some (bv, ld_up M 67 22 0)) : lr_S T D M (lr_cv D rd) rm code :=
  lr_S.ok bv D (ld_up M 67 22 0) (by rw [h1]; rfl) h2 lr_FD.rf (fun _ _ => by first | rfl | (repeat rw [ld_up_n (by omega)])) (by simp [ld_get]) (h.thr 0)
theorem lr_S.rn {T : Nat} {D M : ld_M} {rd : Option (Int32 ⊕ Nat)} {rm : Option (Int32 × ld_M)} {code : Nat → Int32} (h : lr_T T D M) (e : Nat) (he : code e ≠ 0) (h1 : rd = some (.inr e)) (h2 : rm = some (0, ld_up M 67 22 (code e))) : lr_S T D M (lr_cv D rd) rm code :=
  lr_S.no h e he (by rw [h1]; rfl) h2
theorem op_running {T : Nat} {D M : ld_M} (h : lr_T T D M) (a : Int32) : lr_S T D M (lr_cv D (kX3_running D a)) (kX4_running M a) (lr_c1 0) := by
  rcases p_liL D M a with ⟨l, hl, rfl⟩ | ⟨h1, h2⟩
  · obtain ⟨q1, q2⟩ := p_liT D M hl
    obtain ⟨L, t, C, r0, ht, r1, r2, r3, r4, r5⟩ := h.V
    have gl := ld_gn hl (show 2 < 2147483648 by omega)
    have cl := nI_clamp (show l < 2147483648 by omega)
    have hcu := ld_cuL hl
    have e : M 78 l = D (11 + 17 * l) 7 := by
      rcases r4 l hl with ⟨k1, k2, -⟩ | ⟨q, s, e, d, f, hq, k1, k2, -⟩
      · rw [k1, k2]
      · rw [k1, k2]
    exact lr_S.rd h (D (11 + 17 * l) 7) (by simp [kX3_running, q1, ld_bx, kX0_begunLast, hcu, ld_bd]) (by simp [kX4_running, q2, ld_bd, kX4_running_13, kX4_running_33, ld_get, ld_ck, gl, cl, e])
  · exact lr_S.rn h 0 (by decide) (by simp [kX3_running, h1, ld_bx]) (by simp [kX4_running, h2, ld_bd, kX4_running_13, kX4_running_33, ld_get, lr_c1])
theorem op_level {T : Nat} {D M : ld_M} (h : lr_T T D M) (hT : T < 2147483648) (a c : Int32) : lr_S T D M (lr_cv D (kX3_level D a c)) (kX4_level M a c) (lr_c1 0) := by
  rcases p_liL D M a with ⟨l, hl, rfl⟩ | ⟨h1, h2⟩
  · obtain ⟨q1, q2⟩ := p_liT D M hl
    rcases p_ch D M c with ⟨h1, h2, j, hj, rfl⟩ | ⟨h1, h2⟩
    · obtain ⟨L, t, C, r0, ht, r1, r2, r3, r4, r5⟩ := (h.thr 0).V
      obtain ⟨v, v1, v2⟩ := lr_lev (t := t) hl (r3 l hl) (r4 l hl) ht (by omega) hj
      have hcu := ld_cuL hl
      exact lr_S.rd h v (by simp [kX3_level, q1, h1, ld_bx, hcu, v1, ld_bd]) (by simp [kX4_level, q2, h2, ld_bd, kX4_level_20, kX4_level_40, ld_get, v2])
    · exact lr_S.rn h 0 (by decide) (by simp [kX3_level, q1, h1, ld_bx]) (by simp [kX4_level, q2, h2, ld_bd, kX4_level_19, kX4_level_20, kX4_level_40, ld_get, lr_c1])
  · exact lr_S.rn h 0 (by decide) (by simp [kX3_level, h1, ld_bx]) (by simp [kX4_level, h2, ld_bd, kX4_level_19, kX4_level_20, kX4_level_40, ld_get, lr_c1])
theorem op_merged {T : Nat} {D M : ld_M} (h : lr_T T D M) (hT : T < 2147483648) (c : Int32) : lr_S T D M (lr_cv D (kX3_merged D c)) (kX4_merged M c) (lr_c1 0) := by
  rcases p_ch D M c with ⟨h1, h2, j, hj, rfl⟩ | ⟨h1, h2⟩
  · obtain ⟨L, t, C, hV⟩ := (h.thr 0).V
    obtain ⟨v, v1, v2⟩ := lr_mrg hV hT hj
    exact lr_S.rd h v (by simp [kX3_merged, h1, ld_bx, v1, ld_bd]) (by simp [kX4_merged, h2, ld_bd, kX4_merged_13, kX4_merged_32, ld_get, v2])
  · exact lr_S.rn h 0 (by decide) (by simp [kX3_merged, h1, ld_bx]) (by simp [kX4_merged, h2, ld_bd, kX4_merged_13, kX4_merged_32, ld_get, lr_c1])
theorem op_light {T : Nat} {D M : ld_M} (h : lr_T T D M) (hT : T < 2147483648) (c : Int32) : lr_S T D M (lr_cv D (kX3_light D c)) (kX4_light M c) (lr_c1 0) := by
  rcases p_ch D M c with ⟨h1, h2, j, hj, rfl⟩ | ⟨h1, h2⟩
  · obtain ⟨L, t, C, hV⟩ := (h.thr 0).V
    obtain ⟨v, v1, v2⟩ := lr_mrg hV hT hj
    obtain ⟨r0, ht, r1, ⟨⟨n, hn, g1, g2⟩, g3⟩, r3, r4, r5⟩ := hV
    obtain ⟨x, x1, x2⟩ := lr_lit r1 hn (nI j) v
    rw [ld_get_n (by omega)] at g2
    exact lr_S.rd h x (by simp [kX3_light, h1, ld_bx, v1, ld_bd, g1, x1]) (by simp [kX4_light, h2, ld_bd, kX4_light_13, kX4_light_41, ld_get, v2, g2, x2])
  · exact lr_S.rn h 0 (by decide) (by simp [kX3_light, h1, ld_bx]) (by simp [kX4_light, h2, ld_bd, kX4_light_13, kX4_light_41, ld_get, lr_c1])
theorem lr_all {T L t n : Nat} {C : Nat → Nat} {D M : ld_M} (h : lr_V T L t C (fun _ => t) D M) (hT : T < 2147483648) (hn : n < 4) (g1 : D 0 6 = nI n) (g2 : M 67 4 = nI n) : ∀ k c n9 n8 v, c + k = 12 → k < n9 → k < n8 → ∃ w, kX3_allLight_4 n9 D v (nI c) = some w ∧ kX4_allLight_9 n8 M v (nI c) = some (w, M) := by
  intro k
  induction k with
  | zero =>
    intro c n9 n8 v hc h9 h8
    obtain ⟨m9, rfl⟩ : ∃ m, n9 = m + 1 := ⟨n9 - 1, by omega⟩
    obtain ⟨m8, rfl⟩ : ∃ m, n8 = m + 1 := ⟨n8 - 1, by omega⟩
    have : c = 12 := by omega
    subst this
    exact ⟨v, by simp [kX3_allLight_4, show (12 : Int32) ≤ nI 12 by decide], by simp [kX4_allLight_9, show (12 : Int32) ≤ nI 12 by decide]⟩
  | succ k ih =>
    intro c n9 n8 v hc h9 h8
    obtain ⟨m9, rfl⟩ : ∃ m, n9 = m + 1 := ⟨n9 - 1, by omega⟩
    obtain ⟨m8, rfl⟩ : ∃ m, n8 = m + 1 := ⟨n8 - 1, by omega⟩
    have n1 : ¬ (12 : Int32) ≤ nI c := nI_ge (b := 12) (by omega) (by omega)
    obtain ⟨x, x1, x2⟩ := lr_mrg h hT (show c < 12 by omega)
    obtain ⟨y, y1, y2⟩ := lr_lit h.2.2.1 hn (nI c) x
    obtain ⟨w, i1, i2⟩ := ih (c + 1) m9 m8 (v + y) (by omega) (by omega) (by omega)
    refine ⟨w, ?_, ?_⟩
    · simp [kX3_allLight_4, n1, x1, ld_bd, g1, y1, nI_1]
      exact i1
    · simp [kX4_allLight_9, n1, x2, ld_bd, g2, y2, nI_1]
      exact i2
theorem op_allLight {T : Nat} {D M : ld_M} (h : lr_T T D M) (hT : T < 2147483648) : ∃ w, kX3_allLight D = some w ∧ kX4_allLight M = some (w, ld_up M 67 22 0) := by
  obtain ⟨L, t, C, hV⟩ := (h.thr 0).V
  obtain ⟨n, hn, g1, g2⟩ := hV.2.2.2.1.1
  exact lr_all hV hT hn g1 g2 12 0 ld_fu ld_fu 0 (by omega) (by unfold ld_fu; omega) (by unfold ld_fu; omega)
