theorem lr_h.mv {L C0 C1 r j r' j' : Nat} {D M D' M' : ld_M} (h : lr_h L C0 C1 r j D M) (hD : ∀ x, D' r' x = D r x) (hM : ∀ i, 82 ≤ i → i ≤ 85 → M' i j' = M i j) : lr_h L C0 C1 r' j' D' M' := by
  unfold lr_h at h ⊢
  rw [hD 0, hD 1, hD 2, hD 3, hD 4, hM 82 (by omega) (by omega), hM 83 (by omega) (by omega), hM 84 (by omega) (by omega), hM 85 (by omega) (by omega)]
  exact h
theorem ld_e20 : nI 20 = (20 : Int32) := by decide
theorem ld_e19 : (19 : Int32) = nI 19 := by decide
theorem ld_g05 : ld_g 0 5 = true ∧ ld_g 1 5 = true ∧ ld_g 2 5 = true ∧ ld_g 3 5 = true ∧ ld_g 4 5 = true := by decide
theorem ld_n5 : (5 : Int32) = nI 5 := by decide
theorem p_place {Z : ld_M} {r j : Nat} (hr : r < 20) (hj : j < 5) : kX1_isPlace Z (nI r) (nI j) = some 1 := by
  unfold kX1_isPlace
  rw [if_neg (nI_pos (by omega)), ld_n20, if_neg (nI_ge hr (by omega)), if_neg (nI_pos (by omega)), ld_n5, if_neg (nI_ge hj (by omega))]
  rfl
theorem p_row {D : ld_M} {n j : Nat} (hn : n < 20) (hj : j < 5) (h1 : D 45 1 = nI n) (a : Int32) : kX1_put D (nI j) a = some (ld_up D (47 + n) j a) := by
  have p1 := p_place (Z := D) hn hj
  have g1 := ld_gn hn (show 20 < 2147483648 by omega)
  have g2 := ld_gn hj (show 5 < 2147483648 by omega)
  have c1 := nI_clamp (show n < 2147483648 by omega)
  have c2 := nI_clamp (show j < 2147483648 by omega)
  simp [kX1_put, h1, p1, ld_bd, ld_ck, g1, g2, c1, c2, kX1_put_23]
theorem p_next {D : ld_M} {n k : Nat} (hn : n < 20) (hk : k ≤ 20) (h1 : D 45 1 = nI n) (h2 : D 45 2 = nI k) (a1 a2 a3 a4 a5 : Int32) : (if (20 : Int32) ≤ ((D 45 1) + 1) then (kX1_note_54 a1 a2 a3 a4 a5 D 0) else (kX1_note_54 a1 a2 a3 a4 a5 D ((D 45 1) + 1))) = some (ld_up (ld_up D 45 1 (nI ((n + 1) % 20))) 45 2 (nI (min 20 (k + 1)))) := by
  have e2 : (if (20 : Int32) < nI (k + 1) then (20 : Int32) else nI (k + 1)) = nI (min 20 (k + 1)) := by
    by_cases e : k = 20
    · subst e; decide
    · rw [if_neg (show ¬ (20 : Int32) < nI (k + 1) from nI_nlt (a := 20) (b := k + 1) (by omega) (by omega)), show min 20 (k + 1) = k + 1 by omega]
  have key : ∀ x : Int32, kX1_note_54 a1 a2 a3 a4 a5 D x = some (ld_up (ld_up D 45 1 x) 45 2 (nI (min 20 (k + 1)))) := by
    intro x
    unfold kX1_note_54
    rw [ld_get_n (show ¬ (45 = 45 ∧ 2 = 1) by omega), h2, nI_1, e2]
  rw [key, key, h1, nI_1]
  by_cases e : n = 19
  · subst e
    rw [if_pos (show (20 : Int32) ≤ nI (19 + 1) by decide)]
    rfl
  · rw [if_neg (show ¬ (20 : Int32) ≤ nI (n + 1) from nI_ge (b := 20) (by omega) (by omega)), show (n + 1) % 20 = n + 1 by omega]
theorem p_note {D : ld_M} {n k : Nat} (hn : n < 20) (hk : k ≤ 20) (h1 : D 45 1 = nI n) (h2 : D 45 2 = nI k) (a1 a2 a3 a4 a5 : Int32) : kX1_note D a1 a2 a3 a4 a5 = some (ld_up (ld_up (ld_up (ld_up (ld_up (ld_up (ld_up D (47 + n) 0 a1) (47 + n) 1 a2) (47 + n) 2 a3) (47 + n) 3 a4) (47 + n) 4 a5) 45 1 (nI ((n + 1) % 20))) 45 2 (nI (min 20 (k + 1)))) := by
  have r : ∀ (X : ld_M) (i j : Nat) (x : Int32), ld_up X (47 + n) i x 45 j = X 45 j := fun X i j x => ld_get_n (by omega)
  have q0 : kX1_put D 0 a1 = some (ld_up D (47 + n) 0 a1) := p_row (j := 0) hn (by omega) h1 a1
  have q1 : kX1_put (ld_up D (47 + n) 0 a1) 1 a2 = some (ld_up (ld_up D (47 + n) 0 a1) (47 + n) 1 a2) := p_row (j := 1) hn (by omega) (by rw [r]; exact h1) a2
  have q2 : kX1_put (ld_up (ld_up D (47 + n) 0 a1) (47 + n) 1 a2) 2 a3 = some (ld_up (ld_up (ld_up D (47 + n) 0 a1) (47 + n) 1 a2) (47 + n) 2 a3) := p_row (j := 2) hn (by omega) (by rw [r, r]; exact h1) a3
  have q3 : kX1_put (ld_up (ld_up (ld_up D (47 + n) 0 a1) (47 + n) 1 a2) (47 + n) 2 a3) 3 a4 = some (ld_up (ld_up (ld_up (ld_up D (47 + n) 0 a1) (47 + n) 1 a2) (47 + n) 2 a3) (47 + n) 3 a4) := p_row (j := 3) hn (by omega) (by rw [r, r, r]; exact h1) a4
  have q4 : kX1_put (ld_up (ld_up (ld_up (ld_up D (47 + n) 0 a1) (47 + n) 1 a2) (47 + n) 2 a3) (47 + n) 3 a4) 4 a5 = some (ld_up (ld_up (ld_up (ld_up (ld_up D (47 + n) 0 a1) (47 + n) 1 a2) (47 + n) 2 a3) (47 + n) 3 a4) (47 + n) 4 a5) := p_row (j := 4) hn (by omega) (by rw [r, r, r, r]; exact h1) a5
  unfold kX1_note
  rw [q0]
  show ld_bd (kX1_put _ 1 a2) _ = _
  rw [q1]
  show ld_bd (kX1_put _ 2 a3) _ = _
  rw [q2]
  show ld_bd (kX1_put _ 3 a4) _ = _
  rw [q3]
  show ld_bd (kX1_put _ 4 a5) _ = _
  rw [q4]
  exact p_next hn hk (by rw [r, r, r, r, r]; exact h1) (by rw [r, r, r, r, r]; exact h2) a1 a2 a3 a4 a5
theorem p_put {M : ld_M} {k : Nat} (hk : k < 20) (h : M 67 17 = nI k) (a1 a2 a3 a4 : Int32) : kX4_keeps_99 a1 a2 a3 a4 M = some (ld_up (ld_up (ld_up (ld_up (ld_up M 82 k a1) 83 k a2) 84 k a3) 85 k a4) 67 17 (nI (k + 1))) := by
  have gk := ld_gn hk (show 20 < 2147483648 by omega)
  have ck := nI_clamp (show k < 2147483648 by omega)
  simp [kX4_keeps_99, h, ld_get, gk, ck, ld_ck, nI_1]
theorem p_shift (a1 a2 a3 a4 : Int32) : ∀ k v n (Z : ld_M), v + 1 + k = 20 → k < n → ∃ Z', kX4_keeps_12 a1 a2 a3 a4 n Z (nI (v + 1)) = kX4_keeps_99 a1 a2 a3 a4 (ld_up Z' 67 17 (Z' 67 17 - 1)) ∧ (∀ i j, ¬ (82 ≤ i ∧ i ≤ 85) → Z' i j = Z i j) ∧ ∀ i, 82 ≤ i → i ≤ 85 → ∀ j, (v ≤ j → j < 19 → Z' i j = Z i (j + 1)) ∧ (j < v → Z' i j = Z i j) := by
  intro k
  induction k with
  | zero =>
    intro v n Z hv hn
    obtain ⟨m, rfl⟩ : ∃ m, n = m + 1 := ⟨n - 1, by omega⟩
    have : v = 19 := by omega
    subst this
    exact ⟨Z, by simp [kX4_keeps_12, ld_e20], fun _ _ _ => rfl, fun i _ _ j => ⟨fun h1 h2 => by omega, fun _ => rfl⟩⟩
  | succ k ih =>
    intro v n Z hv hn
    obtain ⟨m, rfl⟩ : ∃ m, n = m + 1 := ⟨n - 1, by omega⟩
    have gv := ld_gn (show v < 20 by omega) (show 20 < 2147483648 by omega)
    have cv := nI_clamp (show v < 2147483648 by omega)
    have gv1 := ld_gn (show v + 1 < 20 by omega) (show 20 < 2147483648 by omega)
    have cv1 := nI_clamp (show v + 1 < 2147483648 by omega)
    have n1 : ¬ (20 : Int32) ≤ nI (v + 1) := nI_ge (b := 20) (by omega) (by omega)
    obtain ⟨Z', h1, h2, h3⟩ := ih (v + 1) m (ld_up (ld_up (ld_up (ld_up Z 82 v (Z 82 (v + 1))) 83 v (Z 83 (v + 1))) 84 v (Z 84 (v + 1))) 85 v (Z 85 (v + 1))) (by omega) (by omega)
    refine ⟨Z', ?_, fun i j q => ?_, fun i i1 i2 j => ⟨fun j1 j2 => ?_, fun j1 => ?_⟩⟩
    · simp [kX4_keeps_12, n1, gv, cv, gv1, cv1, nI_pred, ld_ck, nI_1, ld_get]
      exact h1
    · rw [h2 i j q]
      rw [ld_get_n (by omega), ld_get_n (by omega), ld_get_n (by omega), ld_get_n (by omega)]
    · by_cases e : j = v
      · subst e
        rw [(h3 i i1 i2 j).2 (by omega)]
        rcases (show i = 82 ∨ i = 83 ∨ i = 84 ∨ i = 85 by omega) with rfl | rfl | rfl | rfl <;> simp [ld_get]
      · rw [(h3 i i1 i2 j).1 (by omega) j2, ld_get_n (by omega), ld_get_n (by omega), ld_get_n (by omega), ld_get_n (by omega)]
    · rw [(h3 i i1 i2 j).2 (by omega), ld_get_n (by omega), ld_get_n (by omega), ld_get_n (by omega), ld_get_n (by omega)]
theorem p_keeps {M : ld_M} {k : Nat} (hk : k ≤ 20) (h : M 67 17 = nI k) (a1 a2 a3 a4 : Int32) : ∃ M' z o, kX4_keeps M a1 a2 a3 a4 = some M' ∧ z + o = k ∧ (o = 0 ∧ k < 20 ∨ o = 1 ∧ k = 20) ∧ M' 67 17 = nI (min 20 (k + 1)) ∧ (∀ i j, ¬ (i = 67 ∧ j = 17) → ¬ (82 ≤ i ∧ i ≤ 85) → M' i j = M i j) ∧ (∀ j, j < z → ∀ i, 82 ≤ i → i ≤ 85 → M' i j = M i (j + o)) ∧ M' 82 z = a1 ∧ M' 83 z = a2 ∧ M' 84 z = a3 ∧ M' 85 z = a4 := by
  by_cases e : k = 20
  · subst e
    obtain ⟨Z', h1, h2, h3⟩ := p_shift a1 a2 a3 a4 19 0 ld_fu M (by omega) (by unfold ld_fu; omega)
    have h17 := h2 67 17 (by omega)
    have p1 := p_put (M := ld_up Z' 67 17 (Z' 67 17 - 1)) (k := 19) (by omega) (by rw [ld_get, if_pos ⟨rfl, rfl⟩, h17, h]; decide) a1 a2 a3 a4
    refine ⟨_, 19, 1, (by
      have h1 : kX4_keeps_12 a1 a2 a3 a4 ld_fu M 1 = _ := h1
      unfold kX4_keeps
      rw [h, ld_e20, if_pos rfl, h1]
      exact p1), rfl, Or.inr ⟨rfl, rfl⟩, by simp [ld_get], fun i j q1 q2 => ?_, fun j hj i i1 i2 => ?_, by simp [ld_get], by simp [ld_get], by simp [ld_get], by simp [ld_get]⟩
    · rw [ld_get_n (by omega), ld_get_n (by omega), ld_get_n (by omega), ld_get_n (by omega), ld_get_n (by omega), ld_get_n (by omega)]
      exact h2 i j q2
    · rw [ld_get_n (by omega), ld_get_n (by omega), ld_get_n (by omega), ld_get_n (by omega), ld_get_n (by omega), ld_get_n (by omega)]
      exact (h3 i i1 i2 j).1 (by omega) (by omega)
  · have n1 : ¬ nI k = (20 : Int32) := fun q => e ((nI_eq (b := 20) (by omega) (by omega)).mp q)
    refine ⟨_, k, 0, (by
      unfold kX4_keeps
      rw [h, if_neg n1]
      exact p_put (by omega) h a1 a2 a3 a4), rfl, Or.inl ⟨rfl, by omega⟩, ?_, fun i j q1 q2 => ?_, fun j hj i i1 i2 => ?_, by simp [ld_get], by simp [ld_get], by simp [ld_get], by simp [ld_get]⟩
    · rw [show min 20 (k + 1) = k + 1 by omega]
      simp [ld_get]
    · rw [ld_get_n (by omega), ld_get_n (by omega), ld_get_n (by omega), ld_get_n (by omega), ld_get_n (by omega)]
    · rw [ld_get_n (by omega), ld_get_n (by omega), ld_get_n (by omega), ld_get_n (by omega), ld_get_n (by omega)]
      rfl
theorem lr_note {L C0 C1 : Nat} {D M : ld_M} (h : lr_5 L C0 C1 D M) (a1 a2 a3 a4 a5 m1 m2 m3 m4 : Int32) (hh : ∀ r j (D' M' : ld_M), D' r 0 = a1 → D' r 1 = a2 → D' r 2 = a3 → D' r 3 = a4 → D' r 4 = a5 → M' 82 j = m1 → M' 83 j = m2 → M' 84 j = m3 → M' 85 j = m4 → lr_h L C0 C1 r j D' M') : ∃ D' M', kX1_note D a1 a2 a3 a4 a5 = some D' ∧ kX4_keeps M m1 m2 m3 m4 = some M' ∧ lr_5 L C0 C1 D' M' ∧ (∀ i j, ¬ (i = 45 ∧ 1 ≤ j ∧ j ≤ 2) → ¬ (47 ≤ i ∧ i ≤ 66) → D' i j = D i j) ∧ (∀ i j, ¬ (i = 67 ∧ j = 17) → ¬ (82 ≤ i ∧ i ≤ 85) → M' i j = M i j) := by
  obtain ⟨k, n, hk, hn, g1, g2, g3, g4⟩ := h
  obtain ⟨M', z, o, e1, e2, e3, e4, e5, e6, e7, e8, e9, e10⟩ := p_keeps hk g3 m1 m2 m3 m4
  refine ⟨_, M', p_note hn hk g1 g2 a1 a2 a3 a4 a5, e1, ⟨min 20 (k + 1), (n + 1) % 20, by omega, by omega, by simp [ld_get], by simp [ld_get], e4, fun j hj => ?_⟩, fun i j q1 q2 => ?_, e5⟩
  · by_cases e : j = z
    · subst e
      have er : 47 + ((n + 1) % 20 + 20 - min 20 (k + 1) + j) % 20 = 47 + n := by omega
      rw [er]
      have hx : ¬ 47 + n = 45 := by omega
      exact hh _ _ _ _ (by simp [ld_get, hx]) (by simp [ld_get, hx]) (by simp [ld_get, hx]) (by simp [ld_get, hx]) (by simp [ld_get, hx]) e7 e8 e9 e10
    · have er : 47 + ((n + 1) % 20 + 20 - min 20 (k + 1) + j) % 20 = 47 + (n + 20 - k + (j + o)) % 20 := by omega
      rw [er]
      have hne : ¬ 47 + (n + 20 - k + (j + o)) % 20 = 47 + n := by omega
      refine (g4 (j + o) (by omega)).mv (fun x => ?_) (fun i i1 i2 => e6 j (by omega) i i1 i2)
      rw [ld_get_n (by omega), ld_get_n (by omega), ld_get_n (by omega), ld_get_n (by omega), ld_get_n (by omega), ld_get_n (by omega), ld_get_n (by omega)]
  · rw [ld_get_n (by omega), ld_get_n (by omega), ld_get_n (by omega), ld_get_n (by omega), ld_get_n (by omega), ld_get_n (by omega), ld_get_n (by omega)]
theorem lr_1.kind {L a : Nat} {D M : ld_M} (h : lr_1 L D M) (p g : Int32) : lr_1 L (ld_up (ld_up D 4 a p) 5 a g) (ld_up (ld_up M 68 a p) 69 a g) := by
  obtain ⟨h1, h2, h3, h4, h5⟩ := h
  refine ⟨h1, by simp [ld_get, h2], by simp [ld_get, h3], fun j hj => ?_, fun n j hn hj => ?_⟩
  · have := h4 j hj
    by_cases e : j = a
    · subst e; simp [ld_get]
    · simp [ld_get, e]; exact this
  · have e9 : ∀ x, ld_up (ld_up D 4 a p) 5 a g (7 + n) x = D (7 + n) x := by
      intro x; rw [ld_get_n (by omega), ld_get_n (by omega)]
    rw [e9, ld_get_n (by omega), ld_get_n (by omega)]
    exact h5 n j hn hj
theorem lr_1.chan {L n a : Nat} {D M : ld_M} (h : lr_1 L D M) (hn : n < 4) (ha : a < 20) (v : Int32) (hv : v = -1 ∨ ∃ c, c < 12 ∧ v = nI c) : lr_1 L (ld_up D (7 + n) a v) (ld_up M 70 (20 * n + a) (v + 1)) := by
  obtain ⟨h1, h2, h3, h4, h5⟩ := h
  refine ⟨h1, by rw [ld_get_n (by omega)]; exact h2, by rw [ld_get_n (by omega)]; exact h3, fun j hj => ?_, fun m j hm hj => ?_⟩
  · rw [ld_get_n (by omega), ld_get_n (by omega), ld_get_n (by omega), ld_get_n (by omega)]
    exact h4 j hj
  · by_cases e : m = n ∧ j = a
    · obtain ⟨rfl, rfl⟩ := e
      simp [ld_get]
      exact hv
    · rw [ld_get_n (by omega), ld_get_n (by omega)]
      exact h5 m j hm hj
theorem lr_3.lev {l b C q c : Nat} {D M : ld_M} (h : lr_3 l b C D M) (hq : q < 10) (hc : c < 12) (v : Int32) (hv : v = -1 ∨ ∃ x, x ≤ 100 ∧ v = nI x) : lr_3 l b C (ld_up D (b + 7 + q) c v) (ld_up M 77 (12 * (10 * l + q) + c) (v + 1)) := by
  obtain ⟨h1, h2, h3, h4, h5⟩ := h
  refine ⟨h1, by rw [ld_get_n (by omega)]; exact h2, by rw [ld_get_n (by omega)]; exact h3, fun j hj => ?_, fun m j hm hj => ?_⟩
  · rw [ld_get_n (by omega), ld_get_n (by omega), ld_get_n (by omega), ld_get_n (by omega), ld_get_n (by omega), ld_get_n (by omega)]
    exact h4 j hj
  · by_cases e : m = q ∧ j = c
    · obtain ⟨rfl, rfl⟩ := e
      simp [ld_get]
      exact hv
    · rw [ld_get_n (by omega), ld_get_n (by omega)]
      exact h5 m j hm hj
theorem p_tell {D : ld_M} {b K q c : Nat} (h6 : D b 6 = nI K) (hK : K ≤ 10) (hq : q < K) (hc : c < 12) (v : Int32) : kX0_tell D b (nI q) (nI c) v = some (ld_up D (b + 7 + q) c v) := by
  have p1 := p_has0t (b := b) (j := q) h6 (by omega) hq
  have p2 := p_chn (Z := D) hc
  have g1 := ld_gn (show q < 10 by omega) (show 10 < 2147483648 by omega)
  have g2 := ld_gn hc (show 12 < 2147483648 by omega)
  have c1 := nI_clamp (show q < 2147483648 by omega)
  have c2 := nI_clamp (show c < 2147483648 by omega)
  simp [kX0_tell, p1, p2, ld_bd, ld_ck, g1, g2, c1, c2, kX0_tell_24]
theorem p_setKind {D : ld_M} {L j : Nat} (h : D 3 3 = nI L) (hL : L ≤ 20) (hj : j < L) (p g : Int32) : kX2_setKind D (nI j) p g = some (ld_up (ld_up D 4 j p) 5 j g) := by
  have p2 := p_has2t h (by omega) hj
  have g2 := ld_gn (show j < 20 by omega) (show 20 < 2147483648 by omega)
  have c2 := nI_clamp (show j < 2147483648 by omega)
  simp [kX2_setKind, p2, ld_bd, ld_ck, g2, c2, kX2_setKind_22]
theorem p_setChan {D : ld_M} {L n j : Nat} (h : D 3 3 = nI L) (hL : L ≤ 20) (hn : n < 4) (hj : j < L) (v : Int32) : kX2_setChannel D (nI n) (nI j) v = some (ld_up D (7 + n) j v) := by
  have p1 := p_ngt2 (Z := D) hn
  have p2 := p_has2t h (by omega) hj
  have g1 := ld_gn hn (show 4 < 2147483648 by omega)
  have g2 := ld_gn (show j < 20 by omega) (show 20 < 2147483648 by omega)
  have c1 := nI_clamp (show n < 2147483648 by omega)
  have c2 := nI_clamp (show j < 2147483648 by omega)
  simp [kX2_setChannel, p1, p2, ld_bd, ld_ck, g1, g2, c1, c2, kX2_setChannel_24]
theorem op_setLevel {T : Nat} {D M : ld_M} (h : lr_T T D M) (a q c v : Int32) : lr_S T D M (kX3_setLevel D a q c v) (kX4_setLevel M a q c v) (lr_c2 0 2) := by
  rcases p_liL D M a with ⟨l, hl, rfl⟩ | ⟨h1, h2⟩
  · obtain ⟨q1, q2⟩ := p_liT D M hl
    rcases p_ch D M c with ⟨h1, h2, c, hc, rfl⟩ | ⟨h1, h2⟩
    · rcases p_lev D M v with ⟨h3, h4, hv⟩ | ⟨h3, h4⟩
      · obtain ⟨L, t, C, r0, ht, r1, r2, r3, r4, r5⟩ := h.V
        have gl := ld_gn hl (show 2 < 2147483648 by omega)
        have cl := nI_clamp (show l < 2147483648 by omega)
        have hcu := ld_cuL hl
        have k3 := r3 l hl
        rcases p_cue (M := M) hl k3.2.1 k3.1 q with ⟨x, hx, rfl, h5, h6⟩ | ⟨h5, h6⟩
        · have hx10 : x < 10 := by have := k3.1; omega
          have gg := ld_gn (show 12 * (10 * l + x) + c < 240 by omega) (show 240 < 2147483648 by omega)
          have cc := nI_clamp (show 12 * (10 * l + x) + c < 2147483648 by omega)
          have pt := p_told k3.2.1 k3.1 hx hc
          obtain ⟨e1, e2⟩ := k3.2.2.2.2 x c hx10 hc
          have s5 : lr_5 L (C 0) (C 1) D (ld_up M 67 22 0) := r5.cg (Nat.le_refl _) (Nat.le_refl _) (Nat.le_refl _) (fun _ _ _ => by first | rfl | (repeat rw [ld_get_n (by omega)])) (fun _ _ _ => by first | rfl | (repeat rw [ld_get_n (by omega)]))
          obtain ⟨D', M', n1, n2, n3, n4, n5⟩ := lr_note s5 2 (nI l) (nI x) (nI c) (D (11 + 17 * l + 7 + x) c) 2 (nI (12 * (10 * l + x) + c)) (D (11 + 17 * l + 7 + x) c + 1) 0 (fun r j D9 M9 z1 z2 z3 z4 z5 z6 z7 z8 z9 => Or.inr (Or.inr ⟨z1, z6, l, x, c, (by
            rcases (show l = 0 ∨ l = 1 by omega) with rfl | rfl
            · exact Or.inl ⟨rfl, hx⟩
            · exact Or.inr ⟨rfl, hx⟩), hc, z2, z3, z4, z7, by rw [z8, z5], by rw [z5]; exact e2⟩))
          have d6 : D' (11 + 17 * l) 6 = nI (C l) := by rw [n4 _ _ (by omega) (by omega)]; exact k3.2.1
          have p9 := p_tell d6 k3.1 hx hc v
          refine lr_S.ok (D (11 + 17 * l + 7 + x) c) (ld_up D' (11 + 17 * l + 7 + x) c v) (ld_up M' 77 (12 * (10 * l + x) + c) (v + 1)) ?_ ?_ (fun i hi => funext fun j => by rw [ld_get_n (by omega), n4 i j (by omega) (by omega)]) (fun i hi => funext fun j => by rw [ld_get_n (by omega), n5 i j (by omega) (by omega), ld_get_n (by omega)]) (by rw [ld_get_n (by omega), n5 67 22 (by omega) (by omega), ld_get, if_pos ⟨rfl, rfl⟩]) (lr_V.T (L := L) (t := t) (C := C) (ts := fun _ => t) ⟨r0, by rw [ld_get_n (by omega), n5 67 12 (by omega) (by omega), ld_get_n (by omega)]; exact ht, r1.cg (fun i j _ => by rw [ld_get_n (by omega), n4 i j (by omega) (by omega)]) (fun i j _ => by rw [ld_get_n (by omega), n5 i j (by omega) (by omega), ld_get_n (by omega)]), r2.cg (fun i j _ => by rw [ld_get_n (by omega), n4 i j (by omega) (by omega)]) (fun i j _ => by rw [ld_get_n (by omega), n5 i j (by omega) (by omega), ld_get_n (by omega)]), fun l' hl' => ?_, fun l' hl' => (r4 l' hl').cg (r3 l' hl').1 (fun i j _ => by rw [ld_get_n (by omega), n4 i j (by omega) (by omega)]) (fun i j _ => by rw [ld_get_n (by omega), n5 i j (by omega) (by omega), ld_get_n (by omega)]), n3.cg (Nat.le_refl _) (Nat.le_refl _) (Nat.le_refl _) (fun _ _ _ => by first | rfl | (repeat rw [ld_get_n (by omega)])) (fun _ _ _ => by first | rfl | (repeat rw [ld_get_n (by omega)]))⟩ rfl rfl)
          · simp [kX3_setLevel, q1, h1, h3, h5, ld_bx, hcu, pt, ld_bd, n1, p9]
          · simp [kX4_setLevel, q2, h2, h4, k3.2.2.1, h6, ld_bd, ld_ck, gl, cl, kX4_setLevel_51, ld_get, ix10, ix12, gg, cc, e1, n2]
          · by_cases el : l' = l
            · subst el
              exact (k3.cg (fun i j _ => n4 i j (by omega) (by omega)) (fun i j _ => by rw [n5 i j (by omega) (by omega), ld_get_n (by omega)])).lev hx10 hc v hv
            · exact (r3 l' hl').cg (fun i j _ => by rw [ld_get_n (by omega), n4 i j (by omega) (by omega)]) (fun i j _ => by rw [ld_get_n (by omega), n5 i j (by omega) (by omega), ld_get_n (by omega)])
        · exact lr_S.no h 2 (by decide) (by simp [kX3_setLevel, q1, h1, h3, h5, ld_bx]) (by simp [kX4_setLevel, q2, h2, h4, k3.2.2.1, h6, ld_bd, ld_ck, gl, cl, kX4_setLevel_51, ld_get, lr_c2])
      · exact lr_S.no h 0 (by decide) (by simp [kX3_setLevel, q1, h1, h3, ld_bx]) (by simp [kX4_setLevel, q2, h2, h4, ld_bd, kX4_setLevel_26, kX4_setLevel_51, ld_get, lr_c2])
    · exact lr_S.no h 0 (by decide) (by simp [kX3_setLevel, q1, h1, ld_bx]) (by simp [kX4_setLevel, q2, h2, ld_bd, kX4_setLevel_26, kX4_setLevel_51, ld_get, lr_c2])
  · exact lr_S.no h 0 (by decide) (by simp [kX3_setLevel, h1, ld_bx]) (by simp [kX4_setLevel, h2, ld_bd, kX4_setLevel_26, kX4_setLevel_51, ld_get, lr_c2])
