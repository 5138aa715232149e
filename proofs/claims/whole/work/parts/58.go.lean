theorem p_over {D : ld_M} {b K q e d f : Nat} (h6 : D b 6 = nI K) (hK : K ≤ 10) (hq : q < K) (h7 : D b 7 = nI q) (h8 : D b 8 = nI e) (h1 : D (b + 1) q = nI d) (h2 : D (b + 2) q = nI f) (hd : d ≤ 100) (hf : f ≤ 100) (he : e < 1000) : kX0_isOver D b = some (if e < d + f then 0 else 1) := by
  have p1 := p_has0t (b := b) (j := q) h6 (by omega) hq
  have g1 := ld_gn (show q < 10 by omega) (show 10 < 2147483648 by omega)
  have c1 := nI_clamp (show q < 2147483648 by omega)
  by_cases e1 : e < d + f
  · have n1 := nI_lt e1 (by omega)
    simp [kX0_isOver, h7, h8, h1, h2, p1, ld_bd, ld_ck, g1, c1, nI_add, n1, e1, kX0_isOver_42, ld_b]
  · have n1 := nI_nlt (show d + f ≤ e by omega) (by omega)
    simp [kX0_isOver, h7, h8, h1, h2, p1, ld_bd, ld_ck, g1, c1, nI_add, n1, e1, kX0_isOver_37, kX0_isOver_42, ld_b]
theorem p_foll {D : ld_M} {b K q : Nat} (h6 : D b 6 = nI K) (hK : K ≤ 10) (hq : q < K) (h7 : D b 7 = nI q) (h3 : D (b + 3) (q + 1) = 0 ∨ D (b + 3) (q + 1) = 1) : kX0_follower D b = some (if q + 1 < K ∧ D (b + 3) (q + 1) = 1 then nI (q + 1) else -1) := by
  have p1 := p_has0t (b := b) (j := q) h6 (by omega) hq
  by_cases e1 : q + 1 < K
  · have p2 := p_has0t (b := b) (j := q + 1) h6 (by omega) e1
    have g1 := ld_gn (show q + 1 < 10 by omega) (show 10 < 2147483648 by omega)
    have c1 := nI_clamp (show q + 1 < 2147483648 by omega)
    rcases h3 with h3 | h3
    · simp [kX0_follower, h7, p1, nI_1, p2, ld_bd, ld_ck, g1, c1, h3, kX0_follower_39, kX0_follower_40]
    · simp [kX0_follower, h7, p1, nI_1, p2, ld_bd, ld_ck, g1, c1, h3, kX0_follower_40, e1]
  · have p2 := p_has0f (b := b) (j := q + 1) h6 (by omega) (by omega)
    simp [kX0_follower, h7, p1, nI_1, p2, ld_bd, e1, kX0_follower_39, kX0_follower_40]
/-- who follows at once -/
def lr_x (M : ld_M) (l K q s d f t : Nat) : Int32 := if s + d + f = t ∧ q + 1 < K ∧ M 76 (10 * l + (q + 1)) = 1 then nI (q + 1) else -1
theorem p_looks {M : ld_M} {l K q s d f t : Nat} (hl : l < 2) (hK : K ≤ 10) (hq : q < K) (h73 : M 73 l = nI K) (h78 : M 78 l = nI q) (h79 : M 79 l = nI s) (h67 : M 67 12 = nI t) (h74 : M 74 (10 * l + q) = nI d) (h75 : M 75 (10 * l + q) = nI f) (hd : d ≤ 100) (hf : f ≤ 100) (hs : s ≤ t) (ht : t < 2000000000) (n : Nat) (v : Int32) : kX4_looks_4 (nI l) (n + 2) M v 1 = if lr_x M l K q s d f t = -1 then some (v, M) else ld_bd (kX4_begins M (nI l) (nI (q + 1))) (fun x => kX4_looks_4 (nI l) (n + 1) x (v + 1) 1) := by
  have gl := ld_gn hl (show 2 < 2147483648 by omega)
  have cl := nI_clamp (show l < 2147483648 by omega)
  have g1 := ld_gn (show 10 * l + q < 20 by omega) (show 20 < 2147483648 by omega)
  have c1 := nI_clamp (show 10 * l + q < 2147483648 by omega)
  have nq : ¬ nI q = -1 := ld_nm1 (by omega)
  have nq1 : ¬ nI (q + 1) = -1 := ld_nm1 (by omega)
  rw [show n + 2 = (n + 1) + 1 from rfl]
  by_cases e1 : s + d + f = t
  · have m1 : nI (s + d + f) = nI t := by rw [e1]
    by_cases e2 : q + 1 < K
    · have n2 : ¬ nI K ≤ nI (q + 1) := nI_ge e2 (by omega)
      have g2 := ld_gn (show 10 * l + q + 1 < 20 by omega) (show 20 < 2147483648 by omega)
      have c2 := nI_clamp (show 10 * l + q + 1 < 2147483648 by omega)
      by_cases e3 : M 76 (10 * l + (q + 1)) = 1
      · have hx : lr_x M l K q s d f t = nI (q + 1) := if_pos ⟨e1, e2, e3⟩
        rw [hx, if_neg nq1]
        have e3' : M 76 (10 * l + q + 1) = 1 := e3
        simp [kX4_looks_4, ld_ck, gl, cl, h78, nq, ix10, g1, c1, h79, h74, h75, nI_add, h67, m1, h73, nI_1, n2, g2, c2, e3', kX4_looks_95, kX4_looks_116]
      · have hx : lr_x M l K q s d f t = -1 := if_neg (fun z => e3 z.2.2)
        rw [hx, if_pos rfl]
        have e3' : ¬ M 76 (10 * l + q + 1) = 1 := e3
        simp [kX4_looks_4, ld_ck, gl, cl, h78, nq, ix10, g1, c1, h79, h74, h75, nI_add, h67, m1, h73, nI_1, n2, g2, c2, e3', kX4_looks_94, kX4_looks_95, kX4_looks_116]
    · have n2 : nI K ≤ nI (q + 1) := nI_le (by omega) (by omega)
      have hx : lr_x M l K q s d f t = -1 := if_neg (fun z => e2 z.2.1)
      rw [hx, if_pos rfl]
      simp [kX4_looks_4, ld_ck, gl, cl, h78, nq, ix10, g1, c1, h79, h74, h75, nI_add, h67, m1, h73, nI_1, n2, kX4_looks_94, kX4_looks_95, kX4_looks_116]
  · have m1 : ¬ nI (s + d + f) = nI t := fun z => e1 ((nI_eq (by omega) (by omega)).mp z)
    have hx : lr_x M l K q s d f t = -1 := if_neg (fun z => e1 z.1)
    rw [hx, if_pos rfl]
    simp [kX4_looks_4, ld_ck, gl, cl, h78, nq, ix10, g1, c1, h79, h74, h75, nI_add, h67, m1, kX4_looks_94, kX4_looks_95, kX4_looks_116]
theorem lr_step {T L t l q : Nat} {C ts : Nat → Nat} {D M : ld_M} (hl : l < 2) (hV : lr_V T L t C ts D M) (hts : ts l = t) (htB : t < 2000000000) (hq : q < C l) : ∃ D2 M2 d f, kX4_begins M (nI l) (nI q) = some M2 ∧ (∀ a2 n v4, v4 < 10 → kX3_beginFrom_12 (nI l) a2 (n + 1) D (nI v4) (nI q) = kX3_beginFrom_12 (nI l) a2 n D2 (nI (v4 + 1)) (lr_x M2 l (C l) q t d f t)) ∧ lr_V T L t C ts D2 M2 ∧ M2 78 l = nI q ∧ M2 79 l = nI t ∧ M2 74 (10 * l + q) = nI d ∧ M2 75 (10 * l + q) = nI f ∧ d ≤ 100 ∧ f ≤ 100 ∧ lr_FD D D2 ∧ lr_FM M M2 ∧ M2 67 22 = M 67 22 := by
  obtain ⟨D1, D2, M2, h1, h2, h3, h4, h5, h6, h7, h8, h9, h10, h11⟩ := lr_begin hl hV hts (by omega) hq
  have k3 := h4.2.2.2.2.1 l hl
  have hK := k3.1
  obtain ⟨⟨d, f, i1, i2, i3, i4, i5, i6⟩, -⟩ := k3.2.2.2.1 q (by omega)
  have po := p_over k3.2.1 hK hq h5 h6 i3 i5 i1 i2 (by omega)
  have hcu := ld_cuL hl
  have nq : ¬ nI q = -1 := ld_nm1 (by omega)
  refine ⟨D2, M2, d, f, h3, fun a2 n v4 hv => ?_, h4, h7, h8, i4, i6, i1, i2, h9, h10, h11⟩
  have n4 : ¬ (10 : Int32) ≤ nI v4 := nI_ge (b := 10) hv (by omega)
  by_cases e1 : 0 < d + f
  · have hx : lr_x M2 l (C l) q t d f t = -1 := if_neg (fun z => by omega)
    rw [if_pos e1] at po
    rw [hx]
    simp [kX3_beginFrom_12, nq, n4, hcu, h1, h2, po, ld_bd, kX3_beginFrom_56, nI_1]
  · rw [if_neg e1] at po
    by_cases e2 : q + 1 < C l
    · have k9 := k3.2.2.2.1 (q + 1) (by omega)
      have pf := p_foll k3.2.1 hK hq h5 k9.2.2
      have hx : lr_x M2 l (C l) q t d f t = if q + 1 < C l ∧ D2 (11 + 17 * l + 3) (q + 1) = 1 then nI (q + 1) else -1 := by
        unfold lr_x
        rw [k9.2.1]
        have : t + d + f = t := by omega
        simp [this]
      rw [hx]
      simp only [kX3_beginFrom_12, if_neg nq, if_neg n4, hcu, h1, h2, po, pf, ld_bd, kX3_beginFrom_56, nI_1]
      simp
    · have p1 := p_has0t (b := 11 + 17 * l) (j := q) k3.2.1 (by omega) hq
      have p2 := p_has0f (b := 11 + 17 * l) (j := q + 1) k3.2.1 (by omega) (by omega)
      have hx : lr_x M2 l (C l) q t d f t = -1 := if_neg (fun z => e2 z.2.1)
      have pf : kX0_follower D2 (11 + 17 * l) = some (-1) := by
        simp [kX0_follower, h5, p1, nI_1, p2, ld_bd, kX0_follower_39, kX0_follower_40]
      rw [hx]
      simp [kX3_beginFrom_12, nq, n4, hcu, h1, h2, po, pf, ld_bd, kX3_beginFrom_56, nI_1]
theorem lr_chain {T L t l : Nat} {C ts : Nat → Nat} (hl : l < 2) (hts : ts l = t) (htB : t < 2000000000) : ∀ k q v4 n9 n8 s d f D M, C l = q + 1 + k → v4 ≤ q + 1 → k < n9 → k + 1 < n8 → lr_V T L t C ts D M → M 78 l = nI q → M 79 l = nI s → s ≤ t → M 74 (10 * l + q) = nI d → M 75 (10 * l + q) = nI f → d ≤ 100 → f ≤ 100 → ∃ m D' M', (∀ a2, kX3_beginFrom_12 (nI l) a2 n9 D (nI v4) (lr_x M l (C l) q s d f t) = some (nI (v4 + m), D')) ∧ (∀ v2, kX4_looks_4 (nI l) n8 M v2 1 = some (v2 + nI m, M')) ∧ lr_V T L t C ts D' M' ∧ lr_FD D D' ∧ lr_FM M M' ∧ M' 67 22 = M 67 22 := by
  intro k
  induction k with
  | zero =>
    intro q v4 n9 n8 s d f D M hC hv h9 h8 hV h78 h79 hs h74 h75 hd hf
    obtain ⟨m9, rfl⟩ : ∃ m, n9 = m + 1 := ⟨n9 - 1, by omega⟩
    obtain ⟨m8, rfl⟩ : ∃ m, n8 = m + 2 := ⟨n8 - 2, by omega⟩
    have k3 := hV.2.2.2.2.1 l hl
    have hx : lr_x M l (C l) q s d f t = -1 := if_neg (fun z => by omega)
    refine ⟨0, D, M, fun a2 => ?_, fun v2 => ?_, hV, lr_FD.rf, lr_FM.rf, rfl⟩
    · rw [hx]
      simp [kX3_beginFrom_12, kX3_beginFrom_61]
    · rw [p_looks hl k3.1 (by omega) k3.2.2.1 h78 h79 hV.2.1 h74 h75 hd hf hs htB, hx, if_pos rfl, nI_0, Int32.add_zero]
  | succ k ih =>
    intro q v4 n9 n8 s d f D M hC hv h9 h8 hV h78 h79 hs h74 h75 hd hf
    obtain ⟨m9, rfl⟩ : ∃ m, n9 = m + 1 := ⟨n9 - 1, by omega⟩
    obtain ⟨m8, rfl⟩ : ∃ m, n8 = m + 2 := ⟨n8 - 2, by omega⟩
    have k3 := hV.2.2.2.2.1 l hl
    by_cases hx : lr_x M l (C l) q s d f t = -1
    · refine ⟨0, D, M, fun a2 => ?_, fun v2 => ?_, hV, lr_FD.rf, lr_FM.rf, rfl⟩
      · rw [hx]
        simp [kX3_beginFrom_12, kX3_beginFrom_61]
      · rw [p_looks hl k3.1 (by omega) k3.2.2.1 h78 h79 hV.2.1 h74 h75 hd hf hs htB, if_pos hx, nI_0, Int32.add_zero]
    · have hx1 : lr_x M l (C l) q s d f t = nI (q + 1) := by
        unfold lr_x at hx ⊢
        by_cases e : s + d + f = t ∧ q + 1 < C l ∧ M 76 (10 * l + (q + 1)) = 1
        · exact if_pos e
        · exact absurd (if_neg e) hx
      have hK := k3.1
      obtain ⟨D2, M2, d2, f2, j1, j2, j3, j4, j5, j6, j7, j8, j9, j10, j11, j12⟩ := lr_step hl hV hts htB (show q + 1 < C l by omega)
      obtain ⟨m, D', M', i1, i2, i3, i4, i5, i6⟩ := ih (q + 1) (v4 + 1) m9 (m8 + 1) t d2 f2 D2 M2 (by omega) (by omega) (by omega) (by omega) j3 j4 j5 (Nat.le_refl _) j6 j7 j8 j9
      refine ⟨m + 1, D', M', fun a2 => ?_, fun v2 => ?_, i3, j10.tr i4, j11.tr i5, i6.trans j12⟩
      · rw [hx1, j2 a2 m9 v4 (by omega), i1 a2, show v4 + 1 + m = v4 + (m + 1) by omega]
      · rw [p_looks hl k3.1 (by omega) k3.2.2.1 h78 h79 hV.2.1 h74 h75 hd hf hs htB, if_neg hx, j1]
        show kX4_looks_4 (nI l) (m8 + 1) M2 (v2 + 1) 1 = _
        rw [i2, Int32.add_assoc, Int32.add_comm 1, nI_1]
theorem lr_cnt {l b K q : Nat} {D M : ld_M} (hl : l < 2) (h3 : lr_3 l b K D M) (hq : q < K) : ∀ k c n9 n8 v, c + k = 12 → k < n9 → k < n8 → ∃ w, kX0_countTold_4 b (nI q) n9 D v (nI c) = some w ∧ kX4_go_50 (nI l) (nI q) n8 M v (nI c) = ld_bd (kX4_begins M (nI l) (nI q)) (fun x94 => ld_bd (kX4_looks x94 (nI l)) (fun x99 => some (w, x99.2))) := by
  obtain ⟨hK, g2, g3, g4, g5⟩ := h3
  intro k
  induction k with
  | zero =>
    intro c n9 n8 v hc h9 h8
    obtain ⟨m9, rfl⟩ : ∃ m, n9 = m + 1 := ⟨n9 - 1, by omega⟩
    obtain ⟨m8, rfl⟩ : ∃ m, n8 = m + 1 := ⟨n8 - 1, by omega⟩
    have : c = 12 := by omega
    subst this
    exact ⟨v, by simp [kX0_countTold_4, show (12 : Int32) ≤ nI 12 by decide], by simp [kX4_go_50, show (12 : Int32) ≤ nI 12 by decide]⟩
  | succ k ih =>
    intro c n9 n8 v hc h9 h8
    obtain ⟨m9, rfl⟩ : ∃ m, n9 = m + 1 := ⟨n9 - 1, by omega⟩
    obtain ⟨m8, rfl⟩ : ∃ m, n8 = m + 1 := ⟨n8 - 1, by omega⟩
    have n1 : ¬ (12 : Int32) ≤ nI c := nI_ge (b := 12) (by omega) (by omega)
    have hc9 : c < 12 := by omega
    have pt := p_told g2 hK hq hc9
    obtain ⟨e1, e2⟩ := g5 q c (by omega) hc9
    have gg := ld_gn (show 12 * (10 * l + q) + c < 240 by omega) (show 240 < 2147483648 by omega)
    have cc := nI_clamp (show 12 * (10 * l + q) + c < 2147483648 by omega)
    rcases e2 with e2 | ⟨x, hx, e2⟩
    · rw [e2] at e1 pt
      have e3 : M 77 (12 * (10 * l + q) + c) = 0 := e1
      obtain ⟨w, i1, i2⟩ := ih (c + 1) m9 m8 v (by omega) (by omega) (by omega)
      refine ⟨w, ?_, ?_⟩
      · rw [← i1]
        simp [kX0_countTold_4, n1, pt, ld_bd, kX0_countTold_23, nI_1]
      · rw [← i2]
        simp [kX4_go_50, n1, ix10, ix12, gg, cc, ld_ck, e3, kX4_go_83, nI_1]
    · rw [e2] at e1 pt
      rw [nI_1] at e1
      have n2 : ¬ nI (x + 1) ≤ 0 := nI_nle (by omega) (by omega)
      have n3 : ¬ nI x = -1 := ld_nm1 (by omega)
      obtain ⟨w, i1, i2⟩ := ih (c + 1) m9 m8 (v + 1) (by omega) (by omega) (by omega)
      refine ⟨w, ?_, ?_⟩
      · rw [← i1]
        simp [kX0_countTold_4, n1, pt, ld_bd, n3, kX0_countTold_23, nI_1]
      · rw [← i2]
        simp [kX4_go_50, n1, ix10, ix12, gg, cc, ld_ck, e1, n2, kX4_go_83, nI_1]
theorem op_go {T : Nat} {D M : ld_M} (h : lr_T T D M) (hT : T < 2000000000) (a q : Int32) : lr_S T D M (kX3_go D a q) (kX4_go M a q) (lr_c2 0 2) := by
  rcases p_liL D M a with ⟨l, hl, rfl⟩ | ⟨h1, h2⟩
  · obtain ⟨q1, q2⟩ := p_liT D M hl
    have gl := ld_gn hl (show 2 < 2147483648 by omega)
    have cl := nI_clamp (show l < 2147483648 by omega)
    have hcu := ld_cuL hl
    obtain ⟨L, t, C, hV⟩ := (h.thr 0).V
    have k3 := hV.2.2.2.2.1 l hl
    have g73 : M 73 l = nI (C l) := by
      have := k3.2.2.1
      rw [ld_get_n (by omega)] at this
      exact this
    have ht := hV.1
    rcases p_cue (M := M) hl k3.2.1 k3.1 q with ⟨q, hq, rfl, h3, h4⟩ | ⟨h3, h4⟩
    · have hK := k3.1
      obtain ⟨w, w1, w2⟩ := lr_cnt hl k3 hq 12 0 ld_fu ld_fu 0 (by omega) (by unfold ld_fu; omega) (by unfold ld_fu; omega)
      obtain ⟨D2, M2, d2, f2, j1, j2, j3, j4, j5, j6, j7, j8, j9, j10, j11, j12⟩ := lr_step hl hV rfl (by omega) hq
      obtain ⟨m, D', M', i1, i2, i3, i4, i5, i6⟩ := lr_chain (t := t) (C := C) (ts := fun _ => t) hl rfl (by omega) (C l - (q + 1)) q 1 1999 ld_fu t d2 f2 D2 M2 (by omega) (by omega) (by omega) (by unfold ld_fu; omega) j3 j4 j5 (Nat.le_refl _) j6 j7 j8 j9
      have w1 : kX0_countTold D (11 + 17 * l) (nI q) = some w := w1
      have w2 : kX4_go_50 (nI l) (nI q) ld_fu (ld_up M 67 22 0) 0 0 = some (w, M') := by
        refine Eq.trans w2 ?_
        rw [j1]
        show ld_bd (kX4_looks_4 (nI l) ld_fu M2 0 1) _ = _
        rw [i2]
        rfl
      have d1 : kX3_beginFrom D (nI l) (nI q) = some (nI (1 + m), D') := (j2 (nI q) 1999 0 (by omega)).trans (i1 _)
      refine lr_S.ok w D' M' ?_ ?_ (j10.tr i4) ?_ ?_ (i3.T rfl rfl)
      · simp [kX3_go, q1, h3, ld_bx, hcu, w1, d1, ld_bd]
      · simp [kX4_go, q2, g73, h4, ld_bd, ld_ck, gl, cl, kX4_go_33, ld_get, w2]
      · exact (show lr_FM M (ld_up M 67 22 0) from (fun _ _ => by first | rfl | (repeat rw [ld_up_n (by omega)]))).tr (j11.tr i5)
      · rw [i6, j12, ld_get, if_pos ⟨rfl, rfl⟩]
    · exact lr_S.no h 2 (by decide) (by simp [kX3_go, q1, h3, ld_bx]) (by simp [kX4_go, q2, g73, h4, ld_bd, ld_ck, gl, cl, kX4_go_33, ld_get, lr_c2])
  · exact lr_S.no h 0 (by decide) (by simp [kX3_go, h1, ld_bx]) (by simp [kX4_go, h2, ld_bd, kX4_go_33, ld_get, lr_c2])
theorem lr_tick {T L t l : Nat} {C ts : Nat → Nat} {D M : ld_M} (hl : l < 2) (hV : lr_V T L (t + 1) C ts D M) (hts : ts l = t) (htB : t + 1 < 2000000000) : ∃ m D' M', kX3_passTenth D (nI l) = some (nI m, D') ∧ kX4_looks M (nI l) = some (nI m, M') ∧ lr_V T L (t + 1) C (lr_u ts l (t + 1)) D' M' ∧ lr_FD D D' ∧ lr_FM M M' ∧ M' 67 22 = M 67 22 := by
  obtain ⟨r0, ht, r1, r2, r3, r4, r5⟩ := hV
  have k3 := r3 l hl
  have k4 := r4 l hl
  rw [hts] at k4
  have hK := k3.1
  have hcu := ld_cuL hl
  have gl := ld_gn hl (show 2 < 2147483648 by omega)
  have cl := nI_clamp (show l < 2147483648 by omega)
  have hfu : ld_fu = 1998 + 2 := rfl
  rcases k4 with ⟨k1, k2, k5⟩ | ⟨q, s, e, d, f, hq, k1, k2, k5, k4, k6, k7, k8, k9, k10, k11, k12, k13, k14⟩
  · have p1 := p_has0n (Z := D) (b := 11 + 17 * l) (show (-1 : Int32) < 0 by decide)
    refine ⟨0, D, M, ?_, ?_, ⟨r0, ht, r1, r2, r3, fun l' hl' => ?_, r5⟩, lr_FD.rf, lr_FM.rf, rfl⟩
    · simp [kX3_passTenth, hcu, kX0_endsInNextTenth, kX0_isOver, k1, p1, ld_bd, kX0_isOver_37, kX0_isOver_42, ld_ck, ld_b, kX3_passTenth_26, nI_0]
    · simp [kX4_looks, hfu, kX4_looks_4, ld_ck, gl, cl, k2, kX4_looks_94, kX4_looks_95, kX4_looks_116, nI_0]
    · by_cases el : l' = l
      · subst el
        exact Or.inl ⟨k1, k2, k5⟩
      · rw [lr_un el]
        exact r4 l' hl'
  · have po := p_over k3.2.1 hK hq k1 k6 k7 k8 k11 k12 (by omega)
    have hC9 : C l = q + 1 + (C l - (q + 1)) := by omega
    by_cases e1 : e < d + f
    · rw [if_pos e1] at po
      have F : ∀ i j, ¬ (i = 11 + 17 * l ∧ j = 8) → ld_up D (11 + 17 * l) 8 (nI (e + 1)) i j = D i j := fun i j z => ld_get_n z
      have po2 := p_over (D := ld_up D (11 + 17 * l) 8 (nI (e + 1))) (e := e + 1) (by rw [F _ _ (by omega)]; exact k3.2.1) hK hq (by rw [F _ _ (by omega)]; exact k1) (by simp [ld_get]) (by rw [F _ _ (by omega)]; exact k7) (by rw [F _ _ (by omega)]; exact k8) k11 k12 (by omega)
      have hV2 : lr_V T L (t + 1) C (lr_u ts l (t + 1)) (ld_up D (11 + 17 * l) 8 (nI (e + 1))) M := by
        refine ⟨r0, ht, r1.cg (fun _ _ _ => by first | rfl | (repeat rw [ld_get_n (by omega)])) (fun _ _ _ => by first | rfl | (repeat rw [ld_get_n (by omega)])), r2.cg (fun _ _ _ => by first | rfl | (repeat rw [ld_get_n (by omega)])) (fun _ _ _ => by first | rfl | (repeat rw [ld_get_n (by omega)])), fun l' hl' => (r3 l' hl').cg (fun _ _ _ => by first | rfl | (repeat rw [ld_get_n (by omega)])) (fun _ _ _ => by first | rfl | (repeat rw [ld_get_n (by omega)])), fun l' hl' => ?_, r5.cg (Nat.le_refl _) (Nat.le_refl _) (Nat.le_refl _) (fun _ _ _ => by first | rfl | (repeat rw [ld_get_n (by omega)])) (fun _ _ _ => by first | rfl | (repeat rw [ld_get_n (by omega)]))⟩
        by_cases el : l' = l
        · subst el
          rw [lr_us]
          exact Or.inr ⟨q, s, e + 1, d, f, hq, by rw [F _ _ (by omega)]; exact k1, k2, k5, by omega, by simp [ld_get], by rw [F _ _ (by omega)]; exact k7, by rw [F _ _ (by omega)]; exact k8, k9, k10, k11, k12, by omega, fun c hc => by rw [F _ _ (by omega), F _ _ (by omega)]; exact k14 c hc⟩
        · rw [lr_un el]
          exact (r4 l' hl').cg (r3 l' hl').1 (fun _ _ _ => by first | rfl | (repeat rw [ld_get_n (by omega)])) (fun _ _ _ => by first | rfl | (repeat rw [ld_get_n (by omega)]))
      have fD : lr_FD D (ld_up D (11 + 17 * l) 8 (nI (e + 1))) := (fun _ _ => by first | rfl | (repeat rw [ld_up_n (by omega)]))
      obtain ⟨m, D', M', i1, i2, i3, i4, i5, i6⟩ := lr_chain hl (lr_us ts l (t + 1)) htB (C l - (q + 1)) q 0 ld_fu ld_fu s d f (ld_up D (11 + 17 * l) 8 (nI (e + 1))) M hC9 (by omega) (by unfold ld_fu; omega) (by unfold ld_fu; omega) hV2 k2 k5 (by omega) k9 k10 k11 k12
      have i2 : kX4_looks M (nI l) = some (nI m, M') := by
        have := i2 0
        rw [Int32.zero_add] at this
        exact this
      by_cases e2 : e + 1 < d + f
      · rw [if_pos e2] at po2
        have hx : lr_x M l (C l) q s d f (t + 1) = -1 := if_neg (fun z => by omega)
        have i1 := i1 0
        rw [hx, hfu] at i1
        simp [kX3_beginFrom_12, kX3_beginFrom_61] at i1
        obtain ⟨z1, z2⟩ := i1
        subst z2
        refine ⟨m, _, M', ?_, i2, i3, fD, i5, i6⟩
        rw [← z1]
        simp [kX3_passTenth, hcu, kX0_endsInNextTenth, po, k6, nI_1, po2, ld_bd, ld_ck, ld_b, kX3_passTenth_26, nI_0]
      · rw [if_neg e2] at po2
        have pf : kX0_follower (ld_up D (11 + 17 * l) 8 (nI (e + 1))) (11 + 17 * l) = some (lr_x M l (C l) q s d f (t + 1)) := by
          have st : s + d + f = t + 1 := by omega
          by_cases e3 : q + 1 < C l
          · have k15 := k3.2.2.2.1 (q + 1) (by omega)
            rw [p_foll (K := C l) (q := q) (by rw [F _ _ (by omega)]; exact k3.2.1) hK hq (by rw [F _ _ (by omega)]; exact k1) (by rw [F _ _ (by omega)]; exact k15.2.2), F _ _ (by omega)]
            unfold lr_x
            rw [k15.2.1]
            simp [st]
          · have p1 := p_has0t (Z := ld_up D (11 + 17 * l) 8 (nI (e + 1))) (b := 11 + 17 * l) (C := C l) (j := q) (by rw [F _ _ (by omega)]; exact k3.2.1) (by omega) hq
            have p2 := p_has0f (Z := ld_up D (11 + 17 * l) 8 (nI (e + 1))) (b := 11 + 17 * l) (C := C l) (j := q + 1) (by rw [F _ _ (by omega)]; exact k3.2.1) (by omega) (by omega)
            have hx : lr_x M l (C l) q s d f (t + 1) = -1 := if_neg (fun z => e3 z.2.1)
            have h7 : ld_up D (11 + 17 * l) 8 (nI (e + 1)) (11 + 17 * l) 7 = nI q := by rw [F _ _ (by omega)]; exact k1
            rw [hx]
            simp [kX0_follower, h7, p1, nI_1, p2, ld_bd, kX0_follower_39, kX0_follower_40]
        have i1 : kX3_beginFrom (ld_up D (11 + 17 * l) 8 (nI (e + 1))) (nI l) (lr_x M l (C l) q s d f (t + 1)) = some (nI m, D') := by
          have := i1 (lr_x M l (C l) q s d f (t + 1))
          rw [Nat.zero_add] at this
          exact this
        refine ⟨m, D', M', ?_, i2, i3, fD.tr i4, i5, i6⟩
        simp [kX3_passTenth, hcu, kX0_endsInNextTenth, po, k6, nI_1, po2, pf, i1, ld_bd, ld_ck, ld_b, kX3_passTenth_26]
    · rw [if_neg e1] at po
      have hx : lr_x M l (C l) q s d f (t + 1) = -1 := if_neg (fun z => by omega)
      refine ⟨0, D, M, ?_, ?_, ⟨r0, ht, r1, r2, r3, fun l' hl' => ?_, r5⟩, lr_FD.rf, lr_FM.rf, rfl⟩
      · simp [kX3_passTenth, hcu, kX0_endsInNextTenth, po, ld_bd, ld_ck, ld_b, kX3_passTenth_26, nI_0]
      · show kX4_looks_4 (nI l) (1998 + 2) M 0 1 = _
        rw [p_looks hl hK hq k3.2.2.1 k2 k5 ht k9 k10 k11 k12 (by omega) htB, if_pos hx, nI_0]
      · by_cases el : l' = l
        · subst el
          rw [lr_us]
          exact Or.inr ⟨q, s, e, d, f, hq, k1, k2, k5, by omega, k6, k7, k8, k9, k10, k11, k12, by omega, k14⟩
        · rw [lr_un el]
          exact r4 l' hl'
theorem lr_pass {T A : Nat} (hT : T + A < 2000000000) : ∀ k v3 n9 n8 v2 D M, v3 + k = A → k < n9 → k < n8 → lr_T (T + v3) D M → M 67 22 = 0 → ∃ w D' M', kX3_pass_26 (nI A) n9 D v2 (nI v3) = some (.inl (w, D')) ∧ kX4_pass_24 (nI A) n8 M v2 (nI v3) = some (w, M') ∧ lr_T (T + A) D' M' ∧ lr_FD D D' ∧ lr_FM M M' ∧ M' 67 22 = 0 := by
  intro k
  induction k with
  | zero =>
    intro v3 n9 n8 v2 D M hv h9 h8 h h22
    obtain ⟨m9, rfl⟩ : ∃ m, n9 = m + 1 := ⟨n9 - 1, by omega⟩
    obtain ⟨m8, rfl⟩ : ∃ m, n8 = m + 1 := ⟨n8 - 1, by omega⟩
    have : v3 = A := by omega
    subst this
    exact ⟨v2, D, M, by simp [kX3_pass_26], by simp [kX4_pass_24, kX4_pass_68], h, lr_FD.rf, lr_FM.rf, h22⟩
  | succ k ih =>
    intro v3 n9 n8 v2 D M hv h9 h8 h h22
    obtain ⟨m9, rfl⟩ : ∃ m, n9 = m + 1 := ⟨n9 - 1, by omega⟩
    obtain ⟨m8, rfl⟩ : ∃ m, n8 = m + 1 := ⟨n8 - 1, by omega⟩
    have n1 : ¬ nI A ≤ nI v3 := nI_ge (by omega) (by omega)
    obtain ⟨L, t, C, r0, ht, r1, r2, r3, r4, r5⟩ := h.V
    have hV : lr_V (T + (v3 + 1)) L (t + 1) C (fun _ => t) D (ld_up M 67 12 (nI (t + 1))) := ⟨by omega, by simp [ld_get], r1.cg (fun _ _ _ => by first | rfl | (repeat rw [ld_get_n (by omega)])) (fun _ _ _ => by first | rfl | (repeat rw [ld_get_n (by omega)])), r2.cg (fun _ _ _ => by first | rfl | (repeat rw [ld_get_n (by omega)])) (fun _ _ _ => by first | rfl | (repeat rw [ld_get_n (by omega)])), fun l hl => (r3 l hl).cg (fun _ _ _ => by first | rfl | (repeat rw [ld_get_n (by omega)])) (fun _ _ _ => by first | rfl | (repeat rw [ld_get_n (by omega)])), fun l hl => (r4 l hl).cg (r3 l hl).1 (fun _ _ _ => by first | rfl | (repeat rw [ld_get_n (by omega)])) (fun _ _ _ => by first | rfl | (repeat rw [ld_get_n (by omega)])), r5.cg (Nat.le_refl _) (Nat.le_refl _) (Nat.le_refl _) (fun _ _ _ => by first | rfl | (repeat rw [ld_get_n (by omega)])) (fun _ _ _ => by first | rfl | (repeat rw [ld_get_n (by omega)]))⟩
    obtain ⟨x, D1, M1, a1, a2, a3, a4, a5, a6⟩ := lr_tick (l := 0) (by omega) hV rfl (by omega)
    obtain ⟨y, D2, M2, b1, b2, b3, b4, b5, b6⟩ := lr_tick (l := 1) (by omega) a3 (lr_un (by omega)) (by omega)
    have hT2 := b3.T (by rw [lr_un (by omega), lr_us]) (lr_us _ _ _)
    obtain ⟨w, D', M', i1, i2, i3, i4, i5, i6⟩ := ih (v3 + 1) m9 m8 (v2 + nI x + nI y) D2 M2 (by omega) (by omega) (by omega) hT2 (by rw [b6, a6, ld_get_n (by omega)]; exact h22)
    have a1 : kX3_passTenth D 0 = some (nI x, D1) := a1
    have b1 : kX3_passTenth D1 1 = some (nI y, D2) := b1
    have a2 : kX4_looks (ld_up M 67 12 (nI (t + 1))) 0 = some (nI x, M1) := a2
    have b2 : kX4_looks M1 1 = some (nI y, M2) := b2
    refine ⟨w, D', M', ?_, ?_, i3, a4.tr (b4.tr i4), (show lr_FM M (ld_up M 67 12 (nI (t + 1))) from (fun _ _ => by first | rfl | (repeat rw [ld_up_n (by omega)]))).tr (a5.tr (b5.tr i5)), i6⟩
    · rw [← i1]
      simp [kX3_pass_26, n1, a1, b1, ld_bd, nI_1]
    · rw [← i2]
      simp [kX4_pass_24, n1, h22, ht, nI_1, a2, b2, ld_bd]
theorem op_pass {T : Nat} {D M : ld_M} (h : lr_T T D M) (hT : T + 1000 < 2000000000) (a : Int32) : lr_S (T + 1000) D M (kX3_pass D a) (kX4_pass M a) (lr_c1 0) := by
  have hfu : ld_fu = 1999 + 1 := rfl
  have h' : lr_T (T + 1000) D M := h.cg (by omega) (fun _ _ => rfl) (fun _ _ _ _ _ => rfl)
  have no : ¬ (1 : Int32) = 0 := by decide
  by_cases h1 : a < 1
  · have p1 := p_in_f1 (Z := M) (hi := 1000) h1
    refine lr_S.no h' 0 (by decide) (by simp [kX3_pass, h1]) ?_
    by_cases e : a ≤ 0
    · simp [kX4_pass, p1, ld_bd, kX4_pass_17, hfu, kX4_pass_24, kX4_pass_68, e, lr_c1]
    · simp [kX4_pass, p1, ld_bd, kX4_pass_17, hfu, kX4_pass_24, kX4_pass_68, e, ld_get, lr_c1]
  · by_cases h2 : a ≤ 1000
    · have p1 := p_in_t (Z := M) h1 (show ¬ (1000 : Int32) < a by rw [Int32.not_lt]; exact h2)
      obtain ⟨A, hA, rfl⟩ := nI_of2 (M := 1000) (n := 1000) (by decide) (show ¬ a < 0 by
        intro z
        exact h1 (Int32.lt_trans z (by decide))) h2
      obtain ⟨w, D', M', i1, i2, i3, i4, i5, i6⟩ := lr_pass (T := T) (A := A) (by omega) A 0 ld_fu ld_fu 0 D (ld_up M 67 22 0) (by omega) (by unfold ld_fu; omega) (by unfold ld_fu; omega) (h.thr 0) (by simp [ld_get])
      have i1 : kX3_pass_26 (nI A) ld_fu D 0 0 = some (.inl (w, D')) := i1
      have i2 : kX4_pass_24 (nI A) ld_fu (ld_up M 67 22 0) 0 0 = some (w, M') := i2
      refine lr_S.ok w D' M' (by simp [kX3_pass, h1, h2, i1]) (by simp [kX4_pass, p1, ld_bd, kX4_pass_17, i2]) i4 ((show lr_FM M (ld_up M 67 22 0) from (fun _ _ => by first | rfl | (repeat rw [ld_up_n (by omega)]))).tr i5) i6 (i3.cg (by omega) (fun _ _ => rfl) (fun _ _ _ _ _ => rfl))
    · have p1 := p_in_f2 (Z := M) (lo := 1) (show (1000 : Int32) < a by rw [← Int32.not_le]; exact h2)
      refine lr_S.no h' 0 (by decide) (by simp [kX3_pass, h1, h2]) ?_
      by_cases e : a ≤ 0
      · simp [kX4_pass, p1, ld_bd, kX4_pass_17, hfu, kX4_pass_24, kX4_pass_68, e, lr_c1]
      · simp [kX4_pass, p1, ld_bd, kX4_pass_17, hfu, kX4_pass_24, kX4_pass_68, e, ld_get, lr_c1]
