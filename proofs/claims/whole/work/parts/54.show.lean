theorem p_cue {D M : ld_M} {l K : Nat} (hl : l < 2) (g2 : D (11 + 17 * l) 6 = nI K) (hK : K ≤ 10) (a : Int32) : (∃ q, q < K ∧ a = nI q ∧ kX3_needCue D (nI l) a = some (.inl ()) ∧ kX4_in M a 0 (nI K - 1) = some 1) ∨ (kX3_needCue D (nI l) a = some (.inr 2) ∧ kX4_in M a 0 (nI K - 1) = some 0) := by
  have hcu := ld_cuL hl
  rcases ld_arg a with h | ⟨q, hq, rfl⟩
  · have p1 := p_has0n (Z := D) (b := 11 + 17 * l) h
    exact Or.inr ⟨by simp [kX3_needCue, hcu, p1, ld_bd], p_in_f1 h⟩
  · by_cases e : q < K
    · have p1 := p_has0t (b := 11 + 17 * l) (j := q) g2 (by omega) e
      exact Or.inl ⟨q, e, rfl, by simp [kX3_needCue, hcu, p1, ld_bd], by rw [p_inL hq (by omega), if_pos e]⟩
    · have p1 := p_has0f (b := 11 + 17 * l) (j := q) g2 hq (by omega)
      exact Or.inr ⟨by simp [kX3_needCue, hcu, p1, ld_bd], by rw [p_inL hq (by omega), if_neg e]⟩
theorem p_lamp {D M : ld_M} {L : Nat} (g2 : D 3 3 = nI L) (g3 : M 67 0 = nI L) (hL : L ≤ 20) (a : Int32) : (∃ j, j < L ∧ a = nI j ∧ kX3_needLamp D a = some (.inl ()) ∧ kX4_isLamp M a = some 1) ∨ (kX3_needLamp D a = some (.inr 2) ∧ kX4_isLamp M a = some 0) := by
  rcases ld_arg a with h | ⟨q, hq, rfl⟩
  · have p1 := p_has2n (Z := D) h
    exact Or.inr ⟨by simp [kX3_needLamp, p1, ld_bd], p_lamp4n h⟩
  · by_cases e : q < L
    · have p1 := p_has2t (j := q) g2 (by omega) e
      exact Or.inl ⟨q, e, rfl, by simp [kX3_needLamp, p1, ld_bd], by rw [p_lamp4 g3 hq (by omega), if_pos e]⟩
    · have p1 := p_has2f (j := q) g2 hq (by omega)
      exact Or.inr ⟨by simp [kX3_needLamp, p1, ld_bd], by rw [p_lamp4 g3 hq (by omega), if_neg e]⟩
theorem p_told {D : ld_M} {b K q c : Nat} (h6 : D b 6 = nI K) (hK : K ≤ 10) (hq : q < K) (hc : c < 12) : kX0_told D b (nI q) (nI c) = some (D (b + 7 + q) c) := by
  have p1 := p_has0t (b := b) (j := q) h6 (by omega) hq
  have p2 := p_chn (Z := D) hc
  have g1 := ld_gn (show q < 10 by omega) (show 10 < 2147483648 by omega)
  have g2 := ld_gn hc (show 12 < 2147483648 by omega)
  have c1 := nI_clamp (show q < 2147483648 by omega)
  have c2 := nI_clamp (show c < 2147483648 by omega)
  simp [kX0_told, p1, p2, ld_bd, ld_ck, g1, g2, c1, c2, kX0_told_27]
theorem p_toldZ {D : ld_M} {b K q c : Nat} (h6 : D b 6 = nI K) (hK : K ≤ 10) (hq : q < K) (hc : c < 12) : (D (b + 7 + q) c = -1 → kX0_toldOrZero D b (nI q) (nI c) = some 0) ∧ ∀ v, v ≤ 100 → D (b + 7 + q) c = nI v → kX0_toldOrZero D b (nI q) (nI c) = some (nI v) := by
  have p1 := p_told h6 hK hq hc
  refine ⟨fun e => ?_, fun v hv e => ?_⟩
  · simp [kX0_toldOrZero, p1, ld_bd, e, show ¬ (0 : Int32) < -1 by decide]
  · by_cases h0 : v = 0
    · subst h0
      simp [kX0_toldOrZero, p1, ld_bd, e, nI_0]
    · have n1 : (0 : Int32) < nI v := nI_lt (a := 0) (by omega) (by omega)
      simp [kX0_toldOrZero, p1, ld_bd, e, n1]
theorem lr_prev {L n l b K q : Nat} {D M : ld_M} (hl : l < 2) (h1 : lr_1 L D M) (hn : n < 4) (h3 : lr_3 l b K D M) (hq : q < K) (hb : ld_cu (nI l) = b) : ∀ k c n9 n8 v, c + k = 12 → k < n9 → k < n8 → ∃ w, kX3_preview_27 (nI l) (nI q) (nI n) n9 D v (nI c) = some (.inl w) ∧ kX4_shown_6 (nI l) (nI q) (nI n) n8 M v (nI c) = some w := by
  have h1' := h1
  obtain ⟨hK, g2, g3, g4, g5⟩ := h3
  intro k
  induction k with
  | zero =>
    intro c n9 n8 v hc h9 h8
    obtain ⟨m9, rfl⟩ : ∃ m, n9 = m + 1 := ⟨n9 - 1, by omega⟩
    obtain ⟨m8, rfl⟩ : ∃ m, n8 = m + 1 := ⟨n8 - 1, by omega⟩
    have : c = 12 := by omega
    subst this
    exact ⟨v, by simp [kX3_preview_27, show (12 : Int32) ≤ nI 12 by decide], by simp [kX4_shown_6, show (12 : Int32) ≤ nI 12 by decide]⟩
  | succ k ih =>
    intro c n9 n8 v hc h9 h8
    obtain ⟨m9, rfl⟩ : ∃ m, n9 = m + 1 := ⟨n9 - 1, by omega⟩
    obtain ⟨m8, rfl⟩ : ∃ m, n8 = m + 1 := ⟨n8 - 1, by omega⟩
    have n1 : ¬ (12 : Int32) ≤ nI c := nI_ge (b := 12) (by omega) (by omega)
    have hc9 : c < 12 := by omega
    obtain ⟨t1, t2⟩ := p_toldZ g2 hK hq hc9
    obtain ⟨e1, e2⟩ := g5 q c (by omega) hc9
    have gg := ld_gn (show 12 * (10 * l + q) + c < 240 by omega) (show 240 < 2147483648 by omega)
    have cc := nI_clamp (show 12 * (10 * l + q) + c < 2147483648 by omega)
    rcases e2 with e2 | ⟨x, hx, e2⟩
    · have t3 := t1 e2
      have s1 := lr_drk h1 hn (nI c)
      obtain ⟨w, i1, i2⟩ := ih (c + 1) m9 m8 v (by omega) (by omega) (by omega)
      rw [e2] at e1
      have e3 : M 77 (12 * (10 * l + q) + c) = 0 := e1
      refine ⟨w, ?_, ?_⟩
      · simp [kX3_preview_27, n1, hb, t3, ld_bd, s1, nI_1]
        exact i1
      · simp [kX4_shown_6, n1, ix10, ix12, gg, cc, ld_ck, e3, kX4_shown_54, nI_1]
        exact i2
    · have t3 := t2 x hx e2
      obtain ⟨y, y1, y2⟩ := lr_lit h1 hn (nI c) (nI x)
      obtain ⟨w, i1, i2⟩ := ih (c + 1) m9 m8 (v + y) (by omega) (by omega) (by omega)
      rw [e2, nI_1] at e1
      have n2 : ¬ nI (x + 1) ≤ 0 := nI_nle (by omega) (by omega)
      refine ⟨w, ?_, ?_⟩
      · simp [kX3_preview_27, n1, hb, t3, ld_bd, y1, nI_1]
        exact i1
      · simp [kX4_shown_6, n1, ix10, ix12, gg, cc, ld_ck, e1, n2, nI_pred, y2, ld_bd, kX4_shown_54, nI_1]
        exact i2
theorem op_preview {T : Nat} {D M : ld_M} (h : lr_T T D M) (a q n : Int32) : lr_S T D M (lr_cv D (kX3_preview D a q n)) (kX4_preview M a q n) (lr_c2 0 2) := by
  rcases p_liL D M a with ⟨l, hl, rfl⟩ | ⟨h1, h2⟩
  · obtain ⟨q1, q2⟩ := p_liT D M hl
    rcases p_nt D M n with ⟨h1, h2, j, hj, rfl⟩ | ⟨h1, h2⟩
    · obtain ⟨L, t, C, r0, ht, r1, r2, r3, r4, r5⟩ := h.V
      have gl := ld_gn hl (show 2 < 2147483648 by omega)
      have cl := nI_clamp (show l < 2147483648 by omega)
      have k3 := r3 l hl
      rcases p_cue (M := M) hl k3.2.1 k3.1 q with ⟨x, hx, rfl, h3, h4⟩ | ⟨h3, h4⟩
      · obtain ⟨w, w1, w2⟩ := lr_prev (M := ld_up M 67 22 0) hl (r1.cg (fun _ _ _ => by first | rfl | (repeat rw [ld_get_n (by omega)])) (fun _ _ _ => by first | rfl | (repeat rw [ld_get_n (by omega)]))) hj (k3.cg (fun _ _ _ => by first | rfl | (repeat rw [ld_get_n (by omega)])) (fun _ _ _ => by first | rfl | (repeat rw [ld_get_n (by omega)]))) hx (ld_cuL hl) 12 0 ld_fu ld_fu 0 (by omega) (by unfold ld_fu; omega) (by unfold ld_fu; omega)
        have w2 : kX4_shown (ld_up M 67 22 0) (nI l) (nI x) (nI j) = some w := w2
        exact lr_S.rd h w (by simp [kX3_preview, q1, h1, h3, ld_bx]; exact w1) (by simp [kX4_preview, q2, h2, ld_bd, ld_ck, gl, cl, k3.2.2.1, h4, kX4_preview_40, kX4_preview_61, ld_get, w2])
      · exact lr_S.rn h 2 (by decide) (by simp [kX3_preview, q1, h1, h3, ld_bx]) (by simp [kX4_preview, q2, h2, ld_bd, ld_ck, gl, cl, k3.2.2.1, h4, kX4_preview_40, kX4_preview_61, ld_get, lr_c2])
    · exact lr_S.rn h 0 (by decide) (by simp [kX3_preview, q1, h1, ld_bx]) (by simp [kX4_preview, q2, h2, ld_bd, kX4_preview_15, kX4_preview_40, kX4_preview_61, ld_get, lr_c2])
  · exact lr_S.rn h 0 (by decide) (by simp [kX3_preview, h1, ld_bx]) (by simp [kX4_preview, h2, ld_bd, kX4_preview_15, kX4_preview_40, kX4_preview_61, ld_get, lr_c2])
theorem ld_dm {l q : Nat} (hl : l < 2) (hq : q < 10) : nI (10 * l + q) / 10 = nI l ∧ nI (10 * l + q) - nI l * 10 = nI q := by
  constructor
  · rw [ld_n10, pk_div (by omega) (by omega) (by omega), show (10 * l + q) / 10 = l by omega]
  · rw [Int32.mul_comm, ld_n10, pk_mul, ld_sub (by omega), show 10 * l + q - 10 * l = q by omega]
theorem lr_tch {L n l b K j ch : Nat} {D M : ld_M} (hl : l < 2) (h1 : lr_1 L D M) (hn : n < 4) (hj : j < L) (h3 : lr_3 l b K D M) (hch : ch < 12) (h7 : D (7 + n) j = nI ch) (h22 : M 67 22 = 0) (p g : Int32) : ∀ k q vd, q + k = 10 → ∃ w, (∀ n9, k < n9 → kX3_countTouched_6 b (nI j) p g (nI ch) n9 D vd (nI q) = some (vd + w)) ∧ ∀ n8 vm, kX4_touched_43 (nI j) p g (nI n) (n8 + k) M vm (nI (10 * l + q)) = kX4_touched_43 (nI j) p g (nI n) n8 M (vm + w) (nI (10 * l + 10)) := by
  obtain ⟨hK, g2, g3, g4, g5⟩ := h3
  obtain ⟨f1, f2, f3, f4, f5⟩ := h1
  intro k
  induction k with
  | zero =>
    intro q vd hq
    have : q = 10 := by omega
    subst this
    refine ⟨0, fun n9 h9 => ?_, fun n8 vm => ?_⟩
    · obtain ⟨m9, rfl⟩ : ∃ m, n9 = m + 1 := ⟨n9 - 1, by omega⟩
      have n1 : nI K ≤ nI 10 := nI_le hK (by omega)
      simp [kX3_countTouched_6, kX0_size, g2, ld_bd, n1]
    · simp
  | succ k ih =>
    intro q vd hq
    have gj := ld_gn (show j < 20 by omega) (show 20 < 2147483648 by omega)
    have cj := nI_clamp (show j < 2147483648 by omega)
    have gr := ld_gn (show 20 * n + j < 80 by omega) (show 80 < 2147483648 by omega)
    have cr := nI_clamp (show 20 * n + j < 2147483648 by omega)
    have gl := ld_gn hl (show 2 < 2147483648 by omega)
    have cl := nI_clamp (show l < 2147483648 by omega)
    have gg := ld_gn (show 12 * (10 * l + q) + ch < 240 by omega) (show 240 < 2147483648 by omega)
    have cc := nI_clamp (show 12 * (10 * l + q) + ch < 2147483648 by omega)
    obtain ⟨d1, d2⟩ := ld_dm hl (show q < 10 by omega)
    have n20 : ¬ (20 : Int32) ≤ nI (10 * l + q) := nI_ge (b := 20) (by omega) (by omega)
    have n10 : ¬ (10 : Int32) = 0 := by decide
    have e7 := (f5 n j hn (by omega)).1
    rw [h7, nI_1] at e7
    have nch : ¬ nI ch = -1 := ld_nm1 (by omega)
    by_cases hK2 : K ≤ q
    · obtain ⟨w, i1, i2⟩ := ih (q + 1) vd (by omega)
      have n1 : nI K ≤ nI q := nI_le hK2 (by omega)
      have n2 : nI K ≤ nI (q + 1) := nI_le (by omega) (by omega)
      have w0 := i1 (k + 1) (by omega)
      simp only [kX3_countTouched_6, kX0_size, g2, ld_bd, n2, if_true] at w0
      refine ⟨w, fun n9 h9 => ?_, fun n8 vm => ?_⟩
      · obtain ⟨m9, rfl⟩ : ∃ m, n9 = m + 1 := ⟨n9 - 1, by omega⟩
        rw [← w0]
        simp [kX3_countTouched_6, kX0_size, g2, ld_bd, n1]
      · have i3 := i2 n8 vm
        rw [show n8 + (k + 1) = (n8 + k) + 1 from rfl]
        simp [kX4_touched_43, n20, h22, ix20, gr, cr, d1, d2, gl, cl, g3, n1, ld_ck, kX4_touched_101, kX4_touched_102, kX4_touched_128, kX4_touched_169, kX4_touched_170, nI_1]
        exact i3
    · have n1 : ¬ nI K ≤ nI q := nI_ge (by omega) (by omega)
      obtain ⟨t1, t2⟩ := p_toldZ g2 hK (show q < K by omega) hch
      obtain ⟨e1, e2⟩ := g5 q ch (by omega) hch
      obtain ⟨l1, l2⟩ := f4 j (by omega)
      rcases e2 with e2 | ⟨x, hx, e2⟩
      · have t3 := t1 e2
        rw [e2] at e1
        have e3 : M 77 (12 * (10 * l + q) + ch) = 0 := e1
        have s1 := p_shine f2 f1 hj 0
        obtain ⟨w, i1, i2⟩ := ih (q + 1) vd (by omega)
        refine ⟨w, fun n9 h9 => ?_, fun n8 vm => ?_⟩
        · obtain ⟨m9, rfl⟩ : ∃ m, n9 = m + 1 := ⟨n9 - 1, by omega⟩
          have i3 := i1 m9 (by omega)
          simp [kX3_countTouched_6, kX0_size, g2, ld_bd, n1, t3, s1, kX2_shineOfKind, ld_ck, kX3_countTouched_49, nI_1]
          exact i3
        · have i3 := i2 n8 vm
          rw [show n8 + (k + 1) = (n8 + k) + 1 from rfl]
          simp [kX4_touched_43, n20, h22, ix20, gr, cr, d1, d2, gl, cl, g3, n1, ld_ck, e7, nI_pred, nch, kX4_touched_102, ix12, gg, cc, e3, kX4_touched_128, kX4_touched_169, kX4_touched_170, nI_1]
          exact i3
      · have t3 := t2 x hx e2
        rw [e2, nI_1] at e1
        have s1 := p_shine f2 f1 hj (nI x)
        have nx : ¬ nI x = -1 := ld_nm1 (by omega)
        by_cases eq : D 4 j * nI x * (100 - 5 * D 5 j) / 100 = p * nI x * (100 - 5 * g) / 100
        · obtain ⟨w, i1, i2⟩ := ih (q + 1) vd (by omega)
          refine ⟨w, fun n9 h9 => ?_, fun n8 vm => ?_⟩
          · obtain ⟨m9, rfl⟩ : ∃ m, n9 = m + 1 := ⟨n9 - 1, by omega⟩
            have i3 := i1 m9 (by omega)
            simp [kX3_countTouched_6, kX0_size, g2, ld_bd, n1, t3, s1, kX2_shineOfKind, ld_ck, kX3_countTouched_49, nI_1, eq]
            exact i3
          · have i3 := i2 n8 vm
            rw [show n8 + (k + 1) = (n8 + k) + 1 from rfl]
            simp [kX4_touched_43, n20, h22, ix20, gr, cr, d1, d2, gl, cl, g3, n1, ld_ck, e7, nI_pred, nch, kX4_touched_102, ix12, gg, cc, e1, kX4_touched_128, nx, kX4_through, ld_bd, gj, cj, l1, l2, eq, kX4_touched_169, kX4_touched_170, nI_1]
            exact i3
        · have eq' : ¬ p * nI x * (100 - 5 * g) / 100 = D 4 j * nI x * (100 - 5 * D 5 j) / 100 := fun z => eq z.symm
          obtain ⟨w, i1, i2⟩ := ih (q + 1) (vd + 1) (by omega)
          refine ⟨1 + w, fun n9 h9 => ?_, fun n8 vm => ?_⟩
          · obtain ⟨m9, rfl⟩ : ∃ m, n9 = m + 1 := ⟨n9 - 1, by omega⟩
            have i3 := i1 m9 (by omega)
            rw [Int32.add_assoc] at i3
            simp [kX3_countTouched_6, kX0_size, g2, ld_bd, n1, t3, s1, kX2_shineOfKind, ld_ck, kX3_countTouched_49, nI_1, eq]
            exact i3
          · have i3 := i2 n8 (vm + 1)
            rw [Int32.add_assoc] at i3
            rw [show n8 + (k + 1) = (n8 + k) + 1 from rfl]
            simp [kX4_touched_43, n20, h22, ix20, gr, cr, d1, d2, gl, cl, g3, n1, ld_ck, e7, nI_pred, nch, kX4_touched_102, ix12, gg, cc, e1, kX4_touched_128, nx, kX4_through, ld_bd, gj, cj, l1, l2, eq', kX4_touched_169, kX4_touched_170, nI_1]
            exact i3
theorem lr_tch0 {n j : Nat} {M : ld_M} (hn : n < 4) (hj : j < 20) (h7 : M 70 (20 * n + j) = 0) (h22 : M 67 22 = 0) (p g : Int32) : ∀ k m n8 vm, m + k = 20 → kX4_touched_43 (nI j) p g (nI n) (n8 + k) M vm (nI m) = kX4_touched_43 (nI j) p g (nI n) n8 M vm (nI 20) := by
  intro k
  induction k with
  | zero =>
    intro m n8 vm hm
    have : m = 20 := by omega
    subst this
    rfl
  | succ k ih =>
    intro m n8 vm hm
    have gr := ld_gn (show 20 * n + j < 80 by omega) (show 80 < 2147483648 by omega)
    have cr := nI_clamp (show 20 * n + j < 2147483648 by omega)
    have n20 : ¬ (20 : Int32) ≤ nI m := nI_ge (b := 20) (by omega) (by omega)
    have d1 : nI m / 10 = nI (m / 10) := by rw [ld_n10, pk_div (by omega) (by omega) (by omega)]
    have gl := ld_gn (show m / 10 < 2 by omega) (show 2 < 2147483648 by omega)
    have i3 := ih (m + 1) n8 vm (by omega)
    rw [show n8 + (k + 1) = (n8 + k) + 1 from rfl]
    simp [kX4_touched_43, n20, h22, ix20, gr, cr, d1, gl, ld_ck, h7, kX4_touched_101, kX4_touched_102, kX4_touched_128, kX4_touched_169, kX4_touched_170, nI_1]
    exact i3
theorem op_touched {T : Nat} {D M : ld_M} (h : lr_T T D M) (a p g n : Int32) : lr_S T D M (lr_cv D (kX3_touched D a p g n)) (kX4_touched M a p g n) (lr_c2 2 0) := by
  obtain ⟨L, t, C, r0, ht, r1, r2, r3, r4, r5⟩ := h.V
  have hfu : ld_fu = (1979 + 1 + 10) + 10 := rfl
  have hfu1 : ld_fu = 1999 + 1 := rfl
  have n20 : ¬ (20 : Int32) ≤ 0 := by decide
  have m20 : (20 : Int32) ≤ nI 20 := by decide
  rcases p_lamp r1.2.1 r1.2.2.1 r1.1 a with ⟨j, hj, rfl, h1, h2⟩ | ⟨h1, h2⟩
  · rcases p_kind D M p g with ⟨h3, h4⟩ | ⟨h3, h4⟩
    · rcases p_nt D M n with ⟨h5, h6, n, hn, rfl⟩ | ⟨h5, h6⟩
      · have pc := p_chanOf r1.2.1 r1.1 hn hj
        have s1 : lr_1 L D (ld_up M 67 22 0) := r1.cg (fun _ _ _ => by first | rfl | (repeat rw [ld_get_n (by omega)])) (fun _ _ _ => by first | rfl | (repeat rw [ld_get_n (by omega)]))
        obtain ⟨e1, e2⟩ := s1.2.2.2.2 n j hn (by have := r1.1; omega)
        rcases e2 with e2 | ⟨ch, hch, e2⟩
        · rw [e2] at e1
          have e3 : ld_up M 67 22 0 70 (20 * n + j) = 0 := e1
          have k1 := lr_tch0 (M := ld_up M 67 22 0) hn (by have := r1.1; omega) e3 (by simp [ld_get]) p g 20 0 1980 0 (by omega)
          exact lr_S.rd h 0 (by simp [kX3_touched, h1, h3, h5, ld_bx, pc, ld_bd, e2]) (by
            simp only [kX4_touched, h2, h4, h6, ld_bd, kX4_touched_34]
            rw [if_neg (by decide), if_neg (by decide), if_neg (by decide)]
            refine Eq.trans k1 ?_
            rw [show (1980 : Nat) = 1979 + 1 from rfl]
            simp [kX4_touched_43, m20, kX4_touched_179])
        · have nch : ¬ nI ch = -1 := ld_nm1 (by omega)
          have k0 := r3 0 (by omega)
          have k1 := r3 1 (by omega)
          obtain ⟨w0, i1, i2⟩ := lr_tch (M := ld_up M 67 22 0) (l := 0) (by omega) s1 hn hj (k0.cg (fun _ _ _ => by first | rfl | (repeat rw [ld_get_n (by omega)])) (fun _ _ _ => by first | rfl | (repeat rw [ld_get_n (by omega)]))) hch e2 (by simp [ld_get]) p g 10 0 0 (by omega)
          obtain ⟨w1, j1, j2⟩ := lr_tch (M := ld_up M 67 22 0) (l := 1) (by omega) s1 hn hj (k1.cg (fun _ _ _ => by first | rfl | (repeat rw [ld_get_n (by omega)])) (fun _ _ _ => by first | rfl | (repeat rw [ld_get_n (by omega)]))) hch e2 (by simp [ld_get]) p g 10 0 0 (by omega)
          have i1 : kX3_countTouched D 11 (nI j) p g (nI ch) = some w0 := by
            have := i1 ld_fu (by unfold ld_fu; omega)
            rw [Int32.zero_add] at this
            exact this
          have j1 : kX3_countTouched D 28 (nI j) p g (nI ch) = some w1 := by
            have := j1 ld_fu (by unfold ld_fu; omega)
            rw [Int32.zero_add] at this
            exact this
          exact lr_S.rd h (w0 + w1) (by simp [kX3_touched, h1, h3, h5, ld_bx, pc, ld_bd, e2, nch, i1, j1]) (by
            simp only [kX4_touched, h2, h4, h6, ld_bd, kX4_touched_34]
            rw [if_neg (by decide), if_neg (by decide), if_neg (by decide)]
            refine Eq.trans (i2 (1979 + 1 + 10) 0) ?_
            rw [Int32.zero_add]
            refine Eq.trans (j2 (1979 + 1) w0) ?_
            simp [kX4_touched_43, m20, kX4_touched_179])
      · exact lr_S.rn h 0 (by decide) (by simp [kX3_touched, h1, h3, h5, ld_bx]) (by simp [kX4_touched, h2, h4, h6, ld_bd, kX4_touched_29, kX4_touched_34, hfu1, kX4_touched_43, kX4_touched_179, n20, ld_get, lr_c2])
    · exact lr_S.rn h 0 (by decide) (by simp [kX3_touched, h1, h3, ld_bx]) (by simp [kX4_touched, h2, h4, ld_bd, kX4_touched_29, kX4_touched_34, hfu1, kX4_touched_43, kX4_touched_179, n20, ld_get, lr_c2])
  · exact lr_S.rn h 2 (by decide) (by simp [kX3_touched, h1, ld_bx]) (by simp [kX4_touched, h2, ld_bd, kX4_touched_34, hfu1, kX4_touched_43, kX4_touched_179, n20, ld_get, lr_c2])
