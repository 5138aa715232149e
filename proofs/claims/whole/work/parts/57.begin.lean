theorem p_levcgD {Z D : ld_M} {b c : Nat} (hc : c < 12) (h0 : ∀ j, Z b j = D b j) (h1 : ∀ j, Z (b + 1) j = D (b + 1) j) (h2 : ∀ j, Z (b + 2) j = D (b + 2) j) (h5 : Z (b + 5) c = D (b + 5) c) (h6 : Z (b + 6) c = D (b + 6) c) : kX0_levelNow Z b (nI c) = kX0_levelNow D b (nI c) := by
  have cc := nI_clamp (show c < 2147483648 by omega)
  simp only [kX0_levelNow, kX0_levelNow_18, kX0_levelNow_65, kX0_has, kX0_has_16, kX0_has_17, kX3_isChannel, kX3_isChannel_14, kX3_isChannel_15, cc, h0, h1, h2, h5, h6]
theorem p_levcgM {Z M : ld_M} {l c : Nat} (hl : l < 2) (hc : c < 12) (h0 : ∀ i j, ¬ i = 80 → ¬ i = 81 → Z i j = M i j) (h5 : Z 80 (12 * l + c) = M 80 (12 * l + c)) (h6 : Z 81 (12 * l + c) = M 81 (12 * l + c)) : kX4_levelOf Z (nI l) (nI c) = kX4_levelOf M (nI l) (nI c) := by
  have cc := nI_clamp (show 12 * l + c < 2147483648 by omega)
  have cl := nI_clamp (show l < 2147483648 by omega)
  simp only [kX4_levelOf, kX4_levelOf_131, ix12, cc, cl, h5, h6, h0 67 _ (by decide) (by decide), h0 74 _ (by decide) (by decide), h0 75 _ (by decide) (by decide), h0 78 _ (by decide) (by decide), h0 79 _ (by decide) (by decide)]
theorem p_begD {D : ld_M} {b K q : Nat} (h6 : D b 6 = nI K) (hK : K ≤ 10) (hq : q < K) (lv : Nat → Int32) (hlv : ∀ c, c < 12 → kX0_levelNow D b (nI c) = some (lv c)) : ∀ k c n (Z : ld_M), c + k = 12 → k < n → (∀ i j, ¬ i = b + 5 → ¬ i = b + 6 → Z i j = D i j) → (∀ j, c ≤ j → Z (b + 5) j = D (b + 5) j ∧ Z (b + 6) j = D (b + 6) j) → (∀ j, j < c → Z (b + 5) j = lv j ∧ Z (b + 6) j = if D (b + 7 + q) j = -1 then lv j else D (b + 7 + q) j) → ∃ Z', kX0_begin_2 b (nI q) n Z (nI c) = some Z' ∧ Z' b 7 = nI q ∧ Z' b 8 = nI 0 ∧ (∀ i j, ¬ i = b + 5 → ¬ i = b + 6 → ¬ (i = b ∧ 7 ≤ j ∧ j ≤ 8) → Z' i j = D i j) ∧ ∀ j, j < 12 → Z' (b + 5) j = lv j ∧ Z' (b + 6) j = if D (b + 7 + q) j = -1 then lv j else D (b + 7 + q) j := by
  intro k
  induction k with
  | zero =>
    intro c n Z hc hn f1 f2 f3
    obtain ⟨m, rfl⟩ : ∃ m, n = m + 1 := ⟨n - 1, by omega⟩
    have : c = 12 := by omega
    subst this
    refine ⟨ld_up (ld_up Z b 7 (nI q)) b 8 (nI 0), by simp [kX0_begin_2, show (12 : Int32) ≤ nI 12 by decide, nI_0], by simp [ld_get], by simp [ld_get], fun i j q1 q2 q3 => ?_, fun j hj => ?_⟩
    · rw [ld_get_n (by omega), ld_get_n (by omega)]
      exact f1 i j q1 q2
    · rw [ld_get_n (by omega), ld_get_n (by omega), ld_get_n (by omega), ld_get_n (by omega)]
      exact f3 j hj
  | succ k ih =>
    intro c n Z hc hn f1 f2 f3
    obtain ⟨m, rfl⟩ : ∃ m, n = m + 1 := ⟨n - 1, by omega⟩
    have n1 : ¬ (12 : Int32) ≤ nI c := nI_ge (b := 12) (by omega) (by omega)
    have hc9 : c < 12 := by omega
    have gc := ld_gn hc9 (show 12 < 2147483648 by omega)
    have cc := nI_clamp (show c < 2147483648 by omega)
    have e1 : kX0_levelNow Z b (nI c) = some (lv c) := by
      rw [p_levcgD hc9 (fun j => f1 b j (by omega) (by omega)) (fun j => f1 _ j (by omega) (by omega)) (fun j => f1 _ j (by omega) (by omega)) (f2 c (Nat.le_refl _)).1 (f2 c (Nat.le_refl _)).2]
      exact hlv c hc9
    have e2 : kX0_told Z b (nI q) (nI c) = some (D (b + 7 + q) c) := by
      rw [p_told (K := K) (by rw [f1 b 6 (by omega) (by omega)]; exact h6) hK hq hc9, f1 _ c (by omega) (by omega)]
    obtain ⟨Z', i1, i2⟩ := ih (c + 1) m (ld_up (ld_up Z (b + 5) c (lv c)) (b + 6) c (if D (b + 7 + q) c = -1 then lv c else D (b + 7 + q) c)) (by omega) (by omega) (fun i j q1 q2 => by rw [ld_get_n (by omega), ld_get_n (by omega)]; exact f1 i j q1 q2) (fun j hj => by rw [ld_get_n (by omega), ld_get_n (by omega), ld_get_n (by omega), ld_get_n (by omega)]; exact f2 j (by omega)) (fun j hj => by
      by_cases e : j = c
      · subst e
        simp [ld_get]
      · rw [ld_get_n (by omega), ld_get_n (by omega), ld_get_n (by omega), ld_get_n (by omega)]
        exact f3 j (by omega))
    refine ⟨Z', ?_, i2⟩
    rw [← i1]
    by_cases e : D (b + 7 + q) c = -1
    · simp [kX0_begin_2, n1, e1, e2, e, ld_bd, ld_ck, gc, cc, kX0_begin_46, nI_1]
    · simp [kX0_begin_2, n1, e1, e2, e, ld_bd, ld_ck, gc, cc, kX0_begin_46, nI_1]
theorem p_latD {D : ld_M} {l b K q : Nat} (hb : ld_cu (nI l) = b) (hb2 : 2 < b) (h6 : D b 6 = nI K) (hK : K ≤ 10) (hq : q < K) : ∀ k c n (Z : ld_M), c + k = 12 → k < n → (∀ i j, ¬ i = 2 → Z i j = D i j) → (∀ j, c ≤ j → Z 2 j = D 2 j) → (∀ j, j < c → Z 2 j = if D (b + 7 + q) j = -1 then D 2 j else nI l) → ∃ Z', kX3_noteLatest_9 (nI l) (nI q) n Z (nI c) = some Z' ∧ (∀ i j, ¬ i = 2 → Z' i j = D i j) ∧ ∀ j, j < 12 → Z' 2 j = if D (b + 7 + q) j = -1 then D 2 j else nI l := by
  intro k
  induction k with
  | zero =>
    intro c n Z hc hn f1 f2 f3
    obtain ⟨m, rfl⟩ : ∃ m, n = m + 1 := ⟨n - 1, by omega⟩
    have : c = 12 := by omega
    subst this
    exact ⟨Z, by simp [kX3_noteLatest_9, show (12 : Int32) ≤ nI 12 by decide], f1, f3⟩
  | succ k ih =>
    intro c n Z hc hn f1 f2 f3
    obtain ⟨m, rfl⟩ : ∃ m, n = m + 1 := ⟨n - 1, by omega⟩
    have n1 : ¬ (12 : Int32) ≤ nI c := nI_ge (b := 12) (by omega) (by omega)
    have hc9 : c < 12 := by omega
    have gc := ld_gn hc9 (show 12 < 2147483648 by omega)
    have cc := nI_clamp (show c < 2147483648 by omega)
    have e2 : kX0_told Z b (nI q) (nI c) = some (D (b + 7 + q) c) := by
      rw [p_told (K := K) (by rw [f1 b 6 (by omega)]; exact h6) hK hq hc9, f1 _ c (by omega)]
    by_cases e : D (b + 7 + q) c = -1
    · obtain ⟨Z', i1, i2⟩ := ih (c + 1) m Z (by omega) (by omega) f1 (fun j hj => f2 j (by omega)) (fun j hj => by
        by_cases e9 : j = c
        · subst e9
          rw [if_pos e]
          exact f2 j (Nat.le_refl _)
        · exact f3 j (by omega))
      refine ⟨Z', ?_, i2⟩
      rw [← i1]
      simp [kX3_noteLatest_9, n1, hb, e2, e, ld_bd, kX3_noteLatest_35, nI_1]
    · obtain ⟨Z', i1, i2⟩ := ih (c + 1) m (ld_up Z 2 c (nI l)) (by omega) (by omega) (fun i j q1 => by rw [ld_get_n (by omega)]; exact f1 i j q1) (fun j hj => by rw [ld_get_n (by omega)]; exact f2 j (by omega)) (fun j hj => by
        by_cases e9 : j = c
        · subst e9
          rw [if_neg e]
          simp [ld_get]
        · rw [ld_get_n (by omega)]
          exact f3 j (by omega))
      refine ⟨Z', ?_, i2⟩
      rw [← i1]
      simp [kX3_noteLatest_9, n1, hb, e2, e, ld_bd, ld_ck, gc, cc, kX3_noteLatest_35, nI_1]
theorem p_begM1 {M : ld_M} {l q : Nat} (hl : l < 2) (lv : Nat → Int32) (hlv : ∀ c, c < 12 → kX4_levelOf M (nI l) (nI c) = some (lv c)) : ∀ k c n (Z : ld_M), c + k = 12 → k < n → (∀ i j, ¬ i = 80 → ¬ i = 81 → Z i j = M i j) → (∀ i j, ¬ (12 * l ≤ j ∧ j < 12 * l + c) → Z i j = M i j) → (∀ j, j < c → Z 80 (12 * l + j) = lv j) → ∃ Z', kX4_begins_2 (nI l) (nI q) n Z (nI c) = kX4_begins_45 (nI l) (nI q) ld_fu Z' 0 ∧ (∀ i j, ¬ i = 80 → ¬ i = 81 → Z' i j = M i j) ∧ (∀ i j, ¬ (12 * l ≤ j ∧ j < 12 * l + 12) → Z' i j = M i j) ∧ ∀ j, j < 12 → Z' 80 (12 * l + j) = lv j := by
  intro k
  induction k with
  | zero =>
    intro c n Z hc hn f1 f2 f3
    obtain ⟨m, rfl⟩ : ∃ m, n = m + 1 := ⟨n - 1, by omega⟩
    have : c = 12 := by omega
    subst this
    exact ⟨Z, by simp [kX4_begins_2, show (12 : Int32) ≤ nI 12 by decide], f1, f2, f3⟩
  | succ k ih =>
    intro c n Z hc hn f1 f2 f3
    obtain ⟨m, rfl⟩ : ∃ m, n = m + 1 := ⟨n - 1, by omega⟩
    have n1 : ¬ (12 : Int32) ≤ nI c := nI_ge (b := 12) (by omega) (by omega)
    have hc9 : c < 12 := by omega
    have gc := ld_gn (show 12 * l + c < 24 by omega) (show 24 < 2147483648 by omega)
    have cc := nI_clamp (show 12 * l + c < 2147483648 by omega)
    have e1 : kX4_levelOf Z (nI l) (nI c) = some (lv c) := by
      rw [p_levcgM hl hc9 f1 (f2 80 _ (by omega)) (f2 81 _ (by omega))]
      exact hlv c hc9
    obtain ⟨Z', i1, i2⟩ := ih (c + 1) m (ld_up (ld_up Z 80 (12 * l + c) (lv c)) 81 (12 * l + c) 0) (by omega) (by omega) (fun i j q1 q2 => by rw [ld_get_n (by omega), ld_get_n (by omega)]; exact f1 i j q1 q2) (fun i j hj => by rw [ld_get_n (by omega), ld_get_n (by omega)]; exact f2 i j (by omega)) (fun j hj => by
      by_cases e : j = c
      · subst e
        simp [ld_get]
      · rw [ld_get_n (by omega), ld_get_n (by omega)]
        exact f3 j (by omega))
    refine ⟨Z', ?_, i2⟩
    rw [← i1]
    simp [kX4_begins_2, n1, e1, ld_bd, ld_ck, ix12, gc, cc, nI_1]
theorem p_begM2 {M : ld_M} {l q : Nat} (hl : l < 2) (hq : q < 10) : ∀ k c n (Z : ld_M), c + k = 12 → k < n → (∀ i j, ¬ i = 81 → ¬ i = 72 → Z i j = M i j) → (∀ j, ¬ (12 * l ≤ j ∧ j < 12 * l + c) → Z 81 j = M 81 j) → (∀ j, c ≤ j → Z 72 j = M 72 j) → (∀ j, j < c → Z 81 (12 * l + j) = M 77 (12 * (10 * l + q) + j) ∧ Z 72 j = if M 77 (12 * (10 * l + q) + j) ≤ 0 then M 72 j else nI l) → ∃ Z', kX4_begins_45 (nI l) (nI q) n Z (nI c) = some Z' ∧ Z' 78 l = nI q ∧ Z' 79 l = M 67 12 ∧ (∀ i j, ¬ i = 81 → ¬ i = 72 → ¬ (i = 78 ∧ j = l) → ¬ (i = 79 ∧ j = l) → Z' i j = M i j) ∧ (∀ j, ¬ (12 * l ≤ j ∧ j < 12 * l + 12) → Z' 81 j = M 81 j) ∧ ∀ j, j < 12 → Z' 81 (12 * l + j) = M 77 (12 * (10 * l + q) + j) ∧ Z' 72 j = if M 77 (12 * (10 * l + q) + j) ≤ 0 then M 72 j else nI l := by
  intro k
  induction k with
  | zero =>
    intro c n Z hc hn f1 f2 f3 f4
    obtain ⟨m, rfl⟩ : ∃ m, n = m + 1 := ⟨n - 1, by omega⟩
    have : c = 12 := by omega
    subst this
    have gl := ld_gn hl (show 2 < 2147483648 by omega)
    have cl := nI_clamp (show l < 2147483648 by omega)
    have e67 := f1 67 12 (by omega) (by omega)
    refine ⟨ld_up (ld_up Z 78 l (nI q)) 79 l (M 67 12), by simp [kX4_begins_45, show (12 : Int32) ≤ nI 12 by decide, ld_ck, gl, cl, ld_get, e67], by simp [ld_get], by simp [ld_get], fun i j q1 q2 q3 q4 => ?_, fun j hj => ?_, fun j hj => ?_⟩
    · rw [ld_get_n (by omega), ld_get_n (by omega)]
      exact f1 i j q1 q2
    · rw [ld_get_n (by omega), ld_get_n (by omega)]
      exact f2 j hj
    · rw [ld_get_n (by omega), ld_get_n (by omega), ld_get_n (by omega), ld_get_n (by omega)]
      exact f4 j hj
  | succ k ih =>
    intro c n Z hc hn f1 f2 f3 f4
    obtain ⟨m, rfl⟩ : ∃ m, n = m + 1 := ⟨n - 1, by omega⟩
    have n1 : ¬ (12 : Int32) ≤ nI c := nI_ge (b := 12) (by omega) (by omega)
    have hc9 : c < 12 := by omega
    have gc := ld_gn (show 12 * l + c < 24 by omega) (show 24 < 2147483648 by omega)
    have cc := nI_clamp (show 12 * l + c < 2147483648 by omega)
    have gd := ld_gn hc9 (show 12 < 2147483648 by omega)
    have cd := nI_clamp (show c < 2147483648 by omega)
    have gg := ld_gn (show 12 * (10 * l + q) + c < 240 by omega) (show 240 < 2147483648 by omega)
    have cg := nI_clamp (show 12 * (10 * l + q) + c < 2147483648 by omega)
    have e77 := f1 77 (12 * (10 * l + q) + c) (by omega) (by omega)
    have e72 := f3 c (Nat.le_refl _)
    obtain ⟨Z', i1, i2⟩ := ih (c + 1) m (ld_up (ld_up Z 81 (12 * l + c) (M 77 (12 * (10 * l + q) + c))) 72 c (if M 77 (12 * (10 * l + q) + c) ≤ 0 then M 72 c else nI l)) (by omega) (by omega) (fun i j q1 q2 => by rw [ld_get_n (by omega), ld_get_n (by omega)]; exact f1 i j q1 q2) (fun j hj => by rw [ld_get_n (by omega), ld_get_n (by omega)]; exact f2 j (by omega)) (fun j hj => by rw [ld_get_n (by omega), ld_get_n (by omega)]; exact f3 j (by omega)) (fun j hj => by
      by_cases e : j = c
      · subst e
        simp [ld_get]
      · rw [ld_get_n (by omega), ld_get_n (by omega), ld_get_n (by omega), ld_get_n (by omega)]
        exact f4 j (by omega))
    refine ⟨Z', ?_, i2⟩
    rw [← i1]
    by_cases e : M 77 (12 * (10 * l + q) + c) ≤ 0
    · simp [kX4_begins_45, n1, ix10, ix12, gc, cc, gd, cd, gg, cg, e77, e, ld_ck, kX4_begins_102, ld_get, e72, nI_1]
    · simp [kX4_begins_45, n1, ix10, ix12, gc, cc, gd, cd, gg, cg, e77, e, ld_ck, kX4_begins_102, nI_1]
theorem lr_begin {T L t l q : Nat} {C ts : Nat → Nat} {D M : ld_M} (hl : l < 2) (hV : lr_V T L t C ts D M) (hts : ts l = t) (htB : t < 2147483648) (hq : q < C l) : ∃ D1 D2 M2, kX0_begin D (11 + 17 * l) (nI q) = some D1 ∧ kX3_noteLatest D1 (nI l) (nI q) = some D2 ∧ kX4_begins M (nI l) (nI q) = some M2 ∧ lr_V T L t C ts D2 M2 ∧ D2 (11 + 17 * l) 7 = nI q ∧ D2 (11 + 17 * l) 8 = nI 0 ∧ M2 78 l = nI q ∧ M2 79 l = nI t ∧ lr_FD D D2 ∧ lr_FM M M2 ∧ M2 67 22 = M 67 22 := by
  obtain ⟨r0, ht, r1, r2, r3, r4, r5⟩ := hV
  have k3 := r3 l hl
  have k4 := r4 l hl
  rw [hts] at k4
  have hK := k3.1
  have hlev : ∀ c, ∃ v, c < 12 → kX0_levelNow D (11 + 17 * l) (nI c) = some v ∧ kX4_levelOf M (nI l) (nI c) = some v := by
    intro c
    by_cases hc : c < 12
    · obtain ⟨v, v1, v2⟩ := lr_lev (t := t) hl k3 k4 ht htB hc
      exact ⟨v, fun _ => ⟨v1, v2⟩⟩
    · exact ⟨0, fun q => absurd q hc⟩
  obtain ⟨lv, hlv⟩ := Classical.axiomOfChoice hlev
  have hcu := ld_cuL hl
  obtain ⟨D1, a1, a2, a3, a4, a5⟩ := p_begD k3.2.1 hK hq lv (fun c hc => (hlv c hc).1) 12 0 ld_fu D (by omega) (by unfold ld_fu; omega) (fun _ _ _ _ => rfl) (fun _ _ => ⟨rfl, rfl⟩) (fun j hj => by omega)
  obtain ⟨D2, b1, b2, b3⟩ := p_latD (D := D1) (l := l) (b := 11 + 17 * l) (K := C l) (q := q) hcu (by omega) (by rw [a4 _ _ (by omega) (by omega) (by omega)]; exact k3.2.1) hK hq 12 0 ld_fu D1 (by omega) (by unfold ld_fu; omega) (fun _ _ _ => rfl) (fun _ _ => rfl) (fun j hj => by omega)
  obtain ⟨M1, c1, c2, c3, c4⟩ := p_begM1 (q := q) hl lv (fun c hc => (hlv c hc).2) 12 0 ld_fu M (by omega) (by unfold ld_fu; omega) (fun _ _ _ _ => rfl) (fun _ _ _ => rfl) (fun j hj => by omega)
  obtain ⟨M2, d1, d2, d3, d4, d5, d6⟩ := p_begM2 (M := M1) (q := q) hl (by omega) 12 0 ld_fu M1 (by omega) (by unfold ld_fu; omega) (fun _ _ _ _ => rfl) (fun _ _ => rfl) (fun _ _ => rfl) (fun j hj => by omega)
  have fD : ∀ i j, ¬ i = 2 → ¬ i = 11 + 17 * l + 5 → ¬ i = 11 + 17 * l + 6 → ¬ (i = 11 + 17 * l ∧ 7 ≤ j ∧ j ≤ 8) → D2 i j = D i j := fun i j q1 q2 q3 q4 => by rw [b2 i j q1, a4 i j q2 q3 q4]
  have fM : ∀ i j, ¬ i = 72 → ¬ ((i = 80 ∨ i = 81) ∧ 12 * l ≤ j ∧ j < 12 * l + 12) → ¬ (i = 78 ∧ j = l) → ¬ (i = 79 ∧ j = l) → M2 i j = M i j := by
    intro i j q1 q2 q3 q4
    have e1 : M2 i j = M1 i j := by
      by_cases e : i = 81
      · subst e
        exact d5 j (by omega)
      · exact d4 i j e q1 q3 q4
    rw [e1]
    by_cases e : 12 * l ≤ j ∧ j < 12 * l + 12
    · exact c2 i j (by omega) (by omega)
    · exact c3 i j e
  have h79 : M2 79 l = nI t := by rw [d3, c2 67 12 (by omega) (by omega), ht]
  have h77 : ∀ j, M1 77 j = M 77 j := fun j => c2 77 j (by omega) (by omega)
  have h78 : D2 (11 + 17 * l) 7 = nI q := by rw [b2 _ _ (by omega)]; exact a2
  have h80 : D2 (11 + 17 * l) 8 = nI 0 := by rw [b2 _ _ (by omega)]; exact a3
  obtain ⟨⟨dd, ff, i1, i2, i3, i4, i5, i6⟩, -⟩ := k3.2.2.2.1 q (by omega)
  refine ⟨D1, D2, M2, a1, b1, c1.trans d1, ⟨r0, by rw [fM 67 12 (by omega) (by omega) (by omega) (by omega)]; exact ht, r1.cg (fun i j _ => fD i j (by omega) (by omega) (by omega) (by omega)) (fun i j _ => fM i j (by omega) (by omega) (by omega) (by omega)), ?_, fun l' hl' => (r3 l' hl').cg (fun i j _ => fD i j (by omega) (by omega) (by omega) (by omega)) (fun i j _ => fM i j (by omega) (by omega) (by omega) (by omega)), fun l' hl' => ?_, r5.cg (Nat.le_refl _) (Nat.le_refl _) (Nat.le_refl _) (fun i j _ => fD i j (by omega) (by omega) (by omega) (by omega)) (fun i j _ => fM i j (by omega) (by omega) (by omega) (by omega))⟩, h78, h80, d2, h79, fun i hi => funext fun j => fD i j (by omega) (by omega) (by omega) (by omega), fun i hi => funext fun j => fM i j (by omega) (by omega) (by omega) (by omega), fM 67 22 (by omega) (by omega) (by omega) (by omega)⟩
  · obtain ⟨⟨n, hn, g1, g2⟩, g3⟩ := r2
    refine ⟨⟨n, hn, by rw [fD 0 6 (by omega) (by omega) (by omega) (by omega)]; exact g1, by rw [fM 67 4 (by omega) (by omega) (by omega) (by omega)]; exact g2⟩, fun c hc => ?_⟩
    obtain ⟨g4, g5, g6⟩ := g3 c hc
    rw [fD 1 c (by omega) (by omega) (by omega) (by omega), fM 71 c (by omega) (by omega) (by omega) (by omega)]
    refine ⟨g4, g5, ?_⟩
    rw [b3 c hc, (d6 c hc).2, a4 _ c (by omega) (by omega) (by omega), a4 2 c (by omega) (by omega) (by omega), h77, c2 72 c (by omega) (by omega)]
    obtain ⟨e1, e2⟩ := k3.2.2.2.2 q c (by omega) hc
    rcases e2 with e2 | ⟨v, hv, e2⟩
    · rw [e1, e2, if_pos (by decide), if_pos rfl]
      exact g6
    · rw [e1, e2, nI_1, if_neg (nI_nle (by omega) (by omega)), if_neg (ld_nm1 (by omega))]
  · by_cases el : l' = l
    · subst el
      rw [hts]
      refine Or.inr ⟨q, t, 0, dd, ff, hq, h78, d2, h79, Nat.le_refl _, h80, by rw [fD _ _ (by omega) (by omega) (by omega) (by omega)]; exact i3, by rw [fD _ _ (by omega) (by omega) (by omega) (by omega)]; exact i5, by rw [fM _ _ (by omega) (by omega) (by omega) (by omega)]; exact i4, by rw [fM _ _ (by omega) (by omega) (by omega) (by omega)]; exact i6, i1, i2, by omega, fun c hc => ?_⟩
      have e9 : M2 80 (12 * l' + c) = lv c := by rw [d4 80 _ (by omega) (by omega) (by omega) (by omega)]; exact c4 c hc
      rw [b2 _ c (by omega), b2 _ c (by omega), e9, (a5 c hc).1, (a5 c hc).2, (d6 c hc).1, h77]
      refine ⟨rfl, ?_⟩
      obtain ⟨e1, e2⟩ := k3.2.2.2.2 q c (by omega) hc
      rcases e2 with e2 | ⟨v, hv, e2⟩
      · rw [e1, e2, if_pos rfl]
        exact Or.inl ⟨by decide, rfl⟩
      · rw [e1, e2, nI_1, if_neg (ld_nm1 (by omega))]
        exact Or.inr ⟨v, hv, rfl, rfl⟩
    · exact (r4 l' hl').cg (r3 l' hl').1 (fun i j _ => fD i j (by omega) (by omega) (by omega) (by omega)) (fun i j _ => fM i j (by omega) (by omega) (by omega) (by omega))
