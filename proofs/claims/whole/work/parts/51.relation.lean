/-! what the desk's cells (in D) and the reference's cells (in M) have to do with each other -/
def lr_1 (L : Nat) (D M : ld_M) : Prop := L ≤ 20 ∧ D 3 3 = nI L ∧ M 67 0 = nI L ∧ (∀ j, j < 20 → M 68 j = D 4 j ∧ M 69 j = D 5 j) ∧ ∀ n j, n < 4 → j < 20 → M 70 (20 * n + j) = D (7 + n) j + 1 ∧ (D (7 + n) j = -1 ∨ ∃ c, c < 12 ∧ D (7 + n) j = nI c)
def lr_2 (D M : ld_M) : Prop := (∃ n, n < 4 ∧ D 0 6 = nI n ∧ M 67 4 = nI n) ∧ ∀ c, c < 12 → (D 1 c = 0 ∨ D 1 c = 1) ∧ M 71 c = D 1 c ∧ M 72 c = D 2 c
def lr_3 (l b C : Nat) (D M : ld_M) : Prop := C ≤ 10 ∧ D b 6 = nI C ∧ M 73 l = nI C ∧ (∀ q, q < 10 → (∃ d f, d ≤ 100 ∧ f ≤ 100 ∧ D (b + 1) q = nI d ∧ M 74 (10 * l + q) = nI d ∧ D (b + 2) q = nI f ∧ M 75 (10 * l + q) = nI f) ∧ M 76 (10 * l + q) = D (b + 3) q ∧ (D (b + 3) q = 0 ∨ D (b + 3) q = 1)) ∧ ∀ q c, q < 10 → c < 12 → M 77 (12 * (10 * l + q) + c) = D (b + 7 + q) c + 1 ∧ (D (b + 7 + q) c = -1 ∨ ∃ v, v ≤ 100 ∧ D (b + 7 + q) c = nI v)
def lr_4 (l b C t : Nat) (D M : ld_M) : Prop := (D b 7 = -1 ∧ M 78 l = -1 ∧ ∀ c, c < 12 → M 81 (12 * l + c) = 0 ∧ M 80 (12 * l + c) = 0) ∨
  ∃ q s e d f, q < C ∧ D b 7 = nI q ∧ M 78 l = nI q ∧ M 79 l = nI s ∧ s ≤ t ∧ D b 8 = nI e ∧ D (b + 1) q = nI d ∧ D (b + 2) q = nI f ∧ M 74 (10 * l + q) = nI d ∧ M 75 (10 * l + q) = nI f ∧ d ≤ 100 ∧ f ≤ 100 ∧ e = min (t - s) (d + f) ∧ ∀ c, c < 12 → D (b + 5) c = M 80 (12 * l + c) ∧ ((M 81 (12 * l + c) = 0 ∧ D (b + 6) c = D (b + 5) c) ∨ ∃ v, v ≤ 100 ∧ M 81 (12 * l + c) = nI (v + 1) ∧ D (b + 6) c = nI v)
/-- the j-th change of k, counted from the oldest, when n is the next place -/
def lr_h (L C0 C1 : Nat) (r j : Nat) (D M : ld_M) : Prop :=
  (D r 0 = 0 ∧ M 82 j = 0 ∧ ∃ a, a < L ∧ D r 1 = nI a ∧ M 83 j = nI a ∧ M 84 j = D r 2 ∧ M 85 j = D r 3) ∨
  (D r 0 = 1 ∧ M 82 j = 1 ∧ ∃ n a, n < 4 ∧ a < L ∧ D r 1 = nI n ∧ D r 2 = nI a ∧ M 83 j = nI (20 * n + a) ∧ M 84 j = D r 3 + 1 ∧ (D r 3 = -1 ∨ ∃ c, c < 12 ∧ D r 3 = nI c)) ∨
  (D r 0 = 2 ∧ M 82 j = 2 ∧ ∃ l q c, ((l = 0 ∧ q < C0) ∨ (l = 1 ∧ q < C1)) ∧ c < 12 ∧ D r 1 = nI l ∧ D r 2 = nI q ∧ D r 3 = nI c ∧ M 83 j = nI (12 * (10 * l + q) + c) ∧ M 84 j = D r 4 + 1 ∧ (D r 4 = -1 ∨ ∃ v, v ≤ 100 ∧ D r 4 = nI v))
def lr_5 (L C0 C1 : Nat) (D M : ld_M) : Prop := ∃ k n, k ≤ 20 ∧ n < 20 ∧ D 45 1 = nI n ∧ D 45 2 = nI k ∧ M 67 17 = nI k ∧ ∀ j, j < k → lr_h L C0 C1 (47 + (n + 20 - k + j) % 20) j D M
def lr_T (T : Nat) (D M : ld_M) : Prop := ∃ L C0 C1 t, t ≤ T ∧ M 67 12 = nI t ∧ lr_1 L D M ∧ lr_2 D M ∧ lr_3 0 11 C0 D M ∧ lr_3 1 28 C1 D M ∧ lr_4 0 11 C0 t D M ∧ lr_4 1 28 C1 t D M ∧ lr_5 L C0 C1 D M
theorem lr_1.cg {L : Nat} {D M D' M' : ld_M} (h : lr_1 L D M) (hD : ∀ i j, (i = 3 ∧ j = 3) ∨ i = 4 ∨ i = 5 ∨ (7 ≤ i ∧ i ≤ 10) → D' i j = D i j) (hM : ∀ i j, (i = 67 ∧ j = 0) ∨ i = 68 ∨ i = 69 ∨ i = 70 → M' i j = M i j) : lr_1 L D' M' := by
  obtain ⟨h1, h2, h3, h4, h5⟩ := h
  refine ⟨h1, by rw [hD 3 3 (by omega)]; exact h2, by rw [hM 67 0 (by omega)]; exact h3, fun j hj => ?_, fun n j hn hj => ?_⟩
  · rw [hM 68 j (by omega), hM 69 j (by omega), hD 4 j (by omega), hD 5 j (by omega)]
    exact h4 j hj
  · rw [hM 70 _ (by omega), hD (7 + n) j (by omega)]
    exact h5 n j hn hj
theorem lr_2.cg {D M D' M' : ld_M} (h : lr_2 D M) (hD : ∀ i j, (i = 0 ∧ j = 6) ∨ i = 1 ∨ i = 2 → D' i j = D i j) (hM : ∀ i j, (i = 67 ∧ j = 4) ∨ i = 71 ∨ i = 72 → M' i j = M i j) : lr_2 D' M' := by
  obtain ⟨⟨n, h1, h2, h3⟩, h4⟩ := h
  refine ⟨⟨n, h1, by rw [hD 0 6 (by omega)]; exact h2, by rw [hM 67 4 (by omega)]; exact h3⟩, fun c hc => ?_⟩
  rw [hM 71 c (by omega), hM 72 c (by omega), hD 1 c (by omega), hD 2 c (by omega)]
  exact h4 c hc
theorem lr_3.cg {l b C : Nat} {D M D' M' : ld_M} (h : lr_3 l b C D M) (hD : ∀ i j, (i = b ∧ j = 6) ∨ (b + 1 ≤ i ∧ i ≤ b + 3) ∨ (b + 7 ≤ i ∧ i ≤ b + 16) → D' i j = D i j) (hM : ∀ i j, (i = 73 ∧ j = l) ∨ (74 ≤ i ∧ i ≤ 76 ∧ 10 * l ≤ j ∧ j < 10 * l + 10) ∨ (i = 77 ∧ 120 * l ≤ j ∧ j < 120 * l + 120) → M' i j = M i j) : lr_3 l b C D' M' := by
  obtain ⟨h1, h2, h3, h4, h5⟩ := h
  refine ⟨h1, by rw [hD b 6 (by omega)]; exact h2, by rw [hM 73 l (by omega)]; exact h3, fun q hq => ?_, fun q c hq hc => ?_⟩
  · rw [hM 74 _ (by omega), hM 75 _ (by omega), hM 76 _ (by omega), hD (b + 1) q (by omega), hD (b + 2) q (by omega), hD (b + 3) q (by omega)]
    exact h4 q hq
  · rw [hM 77 _ (by omega), hD (b + 7 + q) c (by omega)]
    exact h5 q c hq hc
theorem lr_4.cg {l b C t : Nat} {D M D' M' : ld_M} (hC : C ≤ 10) (h : lr_4 l b C t D M) (hD : ∀ i j, (i = b ∧ 7 ≤ j ∧ j ≤ 8) ∨ i = b + 1 ∨ i = b + 2 ∨ i = b + 5 ∨ i = b + 6 → D' i j = D i j) (hM : ∀ i j, (i = 78 ∧ j = l) ∨ (i = 79 ∧ j = l) ∨ ((i = 74 ∨ i = 75) ∧ 10 * l ≤ j ∧ j < 10 * l + 10) ∨ ((i = 80 ∨ i = 81) ∧ 12 * l ≤ j ∧ j < 12 * l + 12) → M' i j = M i j) : lr_4 l b C t D' M' := by
  rcases h with ⟨h1, h2, h3⟩ | ⟨q, s, e, d, f, hq, h1, h2, h3, h4, h5, h6, h7, h8, h9, h10, h11, h12, h13⟩
  · refine Or.inl ⟨by rw [hD b 7 (by omega)]; exact h1, by rw [hM 78 l (by omega)]; exact h2, fun c hc => ?_⟩
    rw [hM 81 _ (by omega), hM 80 _ (by omega)]
    exact h3 c hc
  · refine Or.inr ⟨q, s, e, d, f, hq, by rw [hD b 7 (by omega)]; exact h1, by rw [hM 78 l (by omega)]; exact h2, by rw [hM 79 l (by omega)]; exact h3, h4, by rw [hD b 8 (by omega)]; exact h5, by rw [hD (b + 1) q (by omega)]; exact h6, by rw [hD (b + 2) q (by omega)]; exact h7, by rw [hM 74 _ (by omega)]; exact h8, by rw [hM 75 _ (by omega)]; exact h9, h10, h11, h12, fun c hc => ?_⟩
    rw [hM 81 _ (by omega), hM 80 _ (by omega), hD (b + 5) c (by omega), hD (b + 6) c (by omega)]
    exact h13 c hc
theorem lr_h.cg {L C0 C1 r j L' C0' C1' : Nat} {D M D' M' : ld_M} (h : lr_h L C0 C1 r j D M) (hL : L ≤ L') (h0 : C0 ≤ C0') (h1 : C1 ≤ C1') (hD : ∀ x, D' r x = D r x) (hM : ∀ i, 82 ≤ i → i ≤ 85 → M' i j = M i j) : lr_h L' C0' C1' r j D' M' := by
  unfold lr_h at h ⊢
  rw [hD 0, hD 1, hD 2, hD 3, hD 4, hM 82 (by omega) (by omega), hM 83 (by omega) (by omega), hM 84 (by omega) (by omega), hM 85 (by omega) (by omega)]
  rcases h with ⟨g1, g2, a, g3, g4⟩ | ⟨g1, g2, n, a, g3, g4, g5⟩ | ⟨g1, g2, l, q, c, g3, g4⟩
  · exact Or.inl ⟨g1, g2, a, by omega, g4⟩
  · exact Or.inr (Or.inl ⟨g1, g2, n, a, g3, by omega, g5⟩)
  · exact Or.inr (Or.inr ⟨g1, g2, l, q, c, by omega, g4⟩)
theorem lr_5.cg {L C0 C1 L' C0' C1' : Nat} {D M D' M' : ld_M} (h : lr_5 L C0 C1 D M) (hL : L ≤ L') (h0 : C0 ≤ C0') (h1 : C1 ≤ C1') (hD : ∀ i j, (i = 45 ∧ 1 ≤ j ∧ j ≤ 2) ∨ (47 ≤ i ∧ i ≤ 66) → D' i j = D i j) (hM : ∀ i j, (i = 67 ∧ j = 17) ∨ (82 ≤ i ∧ i ≤ 85) → M' i j = M i j) : lr_5 L' C0' C1' D' M' := by
  obtain ⟨k, n, hk, hn, g1, g2, g3, g4⟩ := h
  refine ⟨k, n, hk, hn, by rw [hD 45 1 (by omega)]; exact g1, by rw [hD 45 2 (by omega)]; exact g2, by rw [hM 67 17 (by omega)]; exact g3, fun j hj => ?_⟩
  exact (g4 j hj).cg hL h0 h1 (fun x => hD _ x (by omega)) (fun i h2 h3 => hM i j (by omega))
theorem lr_T.cg {T T' : Nat} {D M D' M' : ld_M} (h : lr_T T D M) (hT : T ≤ T') (hD : ∀ i, i < 67 → D' i = D i) (hM : ∀ i j, 67 ≤ i → i ≤ 85 → ¬ (i = 67 ∧ j = 22) → M' i j = M i j) : lr_T T' D' M' := by
  obtain ⟨L, C0, C1, t, h0, ht, h1, h2, h3, h4, h5, h6, h7⟩ := h
  exact ⟨L, C0, C1, t, by omega, by rw [hM 67 12 (by omega) (by omega) (by omega)]; exact ht, h1.cg (fun i j q => by rw [hD i (by omega)]) (fun i j q => hM i j (by omega) (by omega) (by omega)), h2.cg (fun i j q => by rw [hD i (by omega)]) (fun i j q => hM i j (by omega) (by omega) (by omega)), h3.cg (fun i j q => by rw [hD i (by omega)]) (fun i j q => hM i j (by omega) (by omega) (by omega)), h4.cg (fun i j q => by rw [hD i (by omega)]) (fun i j q => hM i j (by omega) (by omega) (by omega)), h5.cg h3.1 (fun i j q => by rw [hD i (by omega)]) (fun i j q => hM i j (by omega) (by omega) (by omega)), h6.cg h4.1 (fun i j q => by rw [hD i (by omega)]) (fun i j q => hM i j (by omega) (by omega) (by omega)), h7.cg (Nat.le_refl _) (Nat.le_refl _) (Nat.le_refl _) (fun i j q => by rw [hD i (by omega)]) (fun i j q => hM i j (by omega) (by omega) (by omega))⟩
theorem lr_T.thr {T : Nat} {D M : ld_M} (h : lr_T T D M) (x : Int32) : lr_T T D (ld_up M 67 22 x) := h.cg (Nat.le_refl _) (fun _ _ => rfl) (fun i j _ _ q => ld_get_n q)
/-- what a call of either side leaves alone -/
def lr_FD (D D' : ld_M) : Prop := ∀ i, 67 ≤ i → D' i = D i
def lr_FM (M M' : ld_M) : Prop := ∀ i, i < 67 ∨ i = 86 → M' i = M i
theorem lr_FD.rf {D : ld_M} : lr_FD D D := fun _ _ => rfl
theorem lr_FM.rf {M : ld_M} : lr_FM M M := fun _ _ => rfl
theorem lr_FD.tr {D D' D'' : ld_M} (h : lr_FD D D') (h2 : lr_FD D' D'') : lr_FD D D'' := fun i hi => (h2 i hi).trans (h i hi)
theorem lr_FM.tr {D D' D'' : ld_M} (h : lr_FM D D') (h2 : lr_FM D' D'') : lr_FM D D'' := fun i hi => (h2 i hi).trans (h i hi)
theorem lr_FD.up {D D' : ld_M} {i j : Nat} {x : Int32} (h : lr_FD D D') (hi : i < 67) : lr_FD D (ld_up D' i j x) := fun a ha => by rw [ld_up_n (by omega)]; exact h a ha
theorem lr_FM.up {D D' : ld_M} {i j : Nat} {x : Int32} (h : lr_FM D D') (hi : 67 ≤ i) (hj : i ≤ 85) : lr_FM D (ld_up D' i j x) := fun a ha => by rw [ld_up_n (by omega)]; exact h a ha
/-- the answers of a call agree: rd the desk's, rm the reference's; code: which number the reference has for which exception -/
def lr_S (T : Nat) (D M : ld_M) (rd : Option ((Int32 × ld_M) ⊕ Nat)) (rm : Option (Int32 × ld_M)) (code : Nat → Int32) : Prop := ∃ bv M', rm = some (bv, M') ∧ lr_FM M M' ∧ ((∃ D', rd = some (.inl (bv, D')) ∧ lr_FD D D' ∧ M' 67 22 = 0 ∧ lr_T T D' M') ∨ ∃ e, rd = some (.inr e) ∧ code e ≠ 0 ∧ M' 67 22 = code e ∧ lr_T T D M')
theorem lr_S.no {T : Nat} {D M : ld_M} {rd : Option ((Int32 × ld_M) ⊕ Nat)} {rm : Option (Int32 × ld_M)} {code : Nat → Int32} (h : lr_T T D M) (e : Nat) (he : code e ≠ 0) (h1 : rd = some (.inr e)) (h2 : rm = some (0, ld_up M 67 22 (code e))) : lr_S T D M rd rm code :=
  ⟨0, _, h2, lr_FM.rf.up (by decide) (by decide), Or.inr ⟨e, h1, he, by rw [ld_get, if_pos ⟨rfl, rfl⟩], h.thr _⟩⟩
/-- .. in the law's helper, and then the reference: what the law compares -/
def lr_G (T : Nat) (h : Option (Int32 × ld_M)) (m : ld_M → Option (Int32 × ld_M)) : Prop := ∃ k Z1 bv Z2, h = some (k, Z1) ∧ m Z1 = some (bv, Z2) ∧ Z2 67 22 = k ∧ (k = 0 → Z2 86 0 = bv) ∧ lr_T T Z2 Z2
theorem lr_glue {T T' : Nat} {Z : ld_M} {d : ld_M → Option ((Int32 × ld_M) ⊕ Nat)} {m : ld_M → Option (Int32 × ld_M)} {code : Nat → Int32} {hf : Nat → Option (Int32 × ld_M)} (hS : ∀ M, lr_T T Z M → lr_S T' Z M (d Z) (m M) code) (hR : lr_T T Z Z) (hne : ∀ e, code e ≠ 0 → hf e = some (code e, Z)) :
    lr_G T' (ld_bh (d Z) (fun x => ld_ck (ld_g 0 1) (some (0, ld_up x.2 86 (0 : Int32).toNatClampNeg x.1))) hf) m := by
  obtain ⟨bv, M1, h1, hF1, h2⟩ := hS Z hR
  rcases h2 with ⟨D', hd, hFD, h3, h4⟩ | ⟨e, hd, he, h3, h4⟩
  · have hR2 : lr_T T Z (ld_up D' 86 0 bv) := hR.cg (Nat.le_refl _) (fun _ _ => rfl) (fun i j h5 h6 _ => by rw [ld_up_n (by omega), hFD i h5])
    obtain ⟨bv2, M2, g1, gF, g2⟩ := hS _ hR2
    rcases g2 with ⟨D2, gd, gFD, g3, g4⟩ | ⟨e, gd, -⟩
    · rw [hd] at gd
      cases gd
      refine ⟨0, ld_up D' 86 0 bv, bv, M2, ?_, g1, g3, fun _ => ?_, ?_⟩
      · rw [hd]
        show ld_ck (ld_g 0 1) (some (0, ld_up D' 86 (0 : Int32).toNatClampNeg bv)) = _
        rw [ld_ck_t (by decide), ld_c0]
      · rw [gF 86 (by omega), ld_get, if_pos ⟨rfl, rfl⟩]
      · exact g4.cg (Nat.le_refl _) (fun i hi => by rw [gF i (by omega), ld_up_n (by omega)]) (fun _ _ _ _ _ => rfl)
    · rw [hd] at gd
      cases gd
  · have g1 := hne e he
    refine ⟨code e, Z, bv, M1, ?_, h1, h3, fun q => absurd q he, h4.cg (Nat.le_refl _) (fun i hi => hF1 i (by omega)) (fun _ _ _ _ _ => rfl)⟩
    rw [hd]
    exact g1
