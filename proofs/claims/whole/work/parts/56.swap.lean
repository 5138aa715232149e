def lr_cw (rd : Option (ld_M ⊕ Nat)) : Option ((Int32 × ld_M) ⊕ Nat) := match rd with
  | some (.inl x) => some (.inl (0, x))
  | some (.inr e) => some (.inr e)
  | none => none
def lr_cm (rm : Option ld_M) : Option (Int32 × ld_M) := match rm with
  | some x => some (0, x)
  | none => none
theorem op_swap {T : Nat} {D M : ld_M} (h : lr_T T D M) (a p g : Int32) : lr_S T D M (lr_cw (kX3_swap D a p g)) (lr_cm (kX4_swap M a p g)) (lr_c2 2 0) := by
  obtain ⟨L, t, C, r0, ht, r1, r2, r3, r4, r5⟩ := h.V
  rcases p_lamp r1.2.1 r1.2.2.1 r1.1 a with ⟨j, hj, rfl, h1, h2⟩ | ⟨h1, h2⟩
  · rcases p_kind D M p g with ⟨h3, h4⟩ | ⟨h3, h4⟩
    · have hj20 : j < 20 := by have := r1.1; omega
      have gj := ld_gn hj20 (show 20 < 2147483648 by omega)
      have cj := nI_clamp (show j < 2147483648 by omega)
      obtain ⟨w1, w2⟩ := p_powOf r1.2.1 r1.1 hj
      obtain ⟨w3, w4⟩ := r1.2.2.2.1 j hj20
      have s5 : lr_5 L (C 0) (C 1) D (ld_up M 67 22 0) := r5.cg (Nat.le_refl _) (Nat.le_refl _) (Nat.le_refl _) (fun _ _ _ => by first | rfl | (repeat rw [ld_get_n (by omega)])) (fun _ _ _ => by first | rfl | (repeat rw [ld_get_n (by omega)]))
      obtain ⟨D', M', n1, n2, n3, n4, n5⟩ := lr_note s5 0 (nI j) (D 4 j) (D 5 j) 0 0 (nI j) (D 4 j) (D 5 j) (fun r i D9 M9 z1 z2 z3 z4 z5 z6 z7 z8 z9 => Or.inl ⟨z1, z6, j, hj, z2, z7, by rw [z8, z3], by rw [z9, z4]⟩)
      have d3 : D' 3 3 = nI L := by rw [n4 _ _ (by omega) (by omega)]; exact r1.2.1
      have p9 := p_setKind d3 r1.1 hj p g
      refine lr_S.ok 0 (ld_up (ld_up D' 4 j p) 5 j g) (ld_up (ld_up M' 68 j p) 69 j g) ?_ ?_ (fun i hi => funext fun j => by rw [ld_get_n (by omega), ld_get_n (by omega), n4 i j (by omega) (by omega)]) (fun i hi => funext fun j => by rw [ld_get_n (by omega), ld_get_n (by omega), n5 i j (by omega) (by omega), ld_get_n (by omega)]) (by rw [ld_get_n (by omega), ld_get_n (by omega), n5 67 22 (by omega) (by omega), ld_get, if_pos ⟨rfl, rfl⟩]) (lr_V.T (L := L) (t := t) (C := C) (ts := fun _ => t) ⟨r0, by rw [ld_get_n (by omega), ld_get_n (by omega), n5 67 12 (by omega) (by omega), ld_get_n (by omega)]; exact ht, ?_, r2.cg (fun i j _ => by rw [ld_get_n (by omega), ld_get_n (by omega), n4 i j (by omega) (by omega)]) (fun i j _ => by rw [ld_get_n (by omega), ld_get_n (by omega), n5 i j (by omega) (by omega), ld_get_n (by omega)]), fun l' hl' => (r3 l' hl').cg (fun i j _ => by rw [ld_get_n (by omega), ld_get_n (by omega), n4 i j (by omega) (by omega)]) (fun i j _ => by rw [ld_get_n (by omega), ld_get_n (by omega), n5 i j (by omega) (by omega), ld_get_n (by omega)]), fun l' hl' => (r4 l' hl').cg (r3 l' hl').1 (fun i j _ => by rw [ld_get_n (by omega), ld_get_n (by omega), n4 i j (by omega) (by omega)]) (fun i j _ => by rw [ld_get_n (by omega), ld_get_n (by omega), n5 i j (by omega) (by omega), ld_get_n (by omega)]), n3.cg (Nat.le_refl _) (Nat.le_refl _) (Nat.le_refl _) (fun _ _ _ => by first | rfl | (repeat rw [ld_get_n (by omega)])) (fun _ _ _ => by first | rfl | (repeat rw [ld_get_n (by omega)]))⟩ rfl rfl)
      · simp [kX3_swap, h1, h3, ld_bx, w1, w2, ld_bd, n1, p9, lr_cw]
      · simp [kX4_swap, h2, h4, ld_bd, kX4_swap_26, ld_get, ld_ck, gj, cj, w3, w4, n2, kX4_swap_68, lr_cm]
      · exact (r1.cg (fun i j _ => n4 i j (by omega) (by omega)) (fun i j _ => by rw [n5 i j (by omega) (by omega), ld_get_n (by omega)])).kind p g
    · exact lr_S.no h 0 (by decide) (by simp [kX3_swap, h1, h3, ld_bx, lr_cw]) (by simp [kX4_swap, h2, h4, ld_bd, kX4_swap_26, kX4_swap_68, ld_get, lr_c2, lr_cm])
  · exact lr_S.no h 2 (by decide) (by simp [kX3_swap, h1, ld_bx, lr_cw]) (by simp [kX4_swap, h2, ld_bd, kX4_swap_26, kX4_swap_68, ld_get, lr_c2, lr_cm])
theorem p_chN (D M : ld_M) (a : Int32) : (kX3_needChannelOrNone D a = some (.inl ()) ∧ (a = -1 ∨ ∃ c, c < 12 ∧ a = nI c) ∧ ∀ n j : Int32, (if a = -1 then kX4_hang_36 n j a M else ld_bd (kX4_isChannel M a) (fun x => if x = 0 then kX4_hang_32 n j a M else kX4_hang_36 n j a M)) = kX4_hang_37 n j a M 0) ∨ (kX3_needChannelOrNone D a = some (.inr 0) ∧ ∀ n j : Int32, (if a = -1 then kX4_hang_36 n j a M else ld_bd (kX4_isChannel M a) (fun x => if x = 0 then kX4_hang_32 n j a M else kX4_hang_36 n j a M)) = kX4_hang_37 n j a M 2) := by
  by_cases e : a = -1
  · refine Or.inl ⟨by simp [kX3_needChannelOrNone, e, kX3_needChannelOrNone_9], Or.inl e, fun n j => ?_⟩
    rw [if_pos e]
    rfl
  · rcases p_ch D M a with ⟨h1, h2, c, hc, rfl⟩ | ⟨h1, h2⟩
    · refine Or.inl ⟨by simp [kX3_needChannelOrNone, e, h1, ld_bx, kX3_needChannelOrNone_9], Or.inr ⟨c, hc, rfl⟩, fun n j => ?_⟩
      rw [if_neg e, h2]
      rfl
    · refine Or.inr ⟨by simp [kX3_needChannelOrNone, e, h1, ld_bx], fun n j => ?_⟩
      rw [if_neg e, h2]
      rfl
theorem op_hang {T : Nat} {D M : ld_M} (h : lr_T T D M) (n a c : Int32) : lr_S T D M (kX3_hang D n a c) (kX4_hang M n a c) (lr_c2 2 0) := by
  obtain ⟨L, t, C, r0, ht, r1, r2, r3, r4, r5⟩ := h.V
  rcases p_lamp r1.2.1 r1.2.2.1 r1.1 a with ⟨j, hj, rfl, h1, h2⟩ | ⟨h1, h2⟩
  · rcases p_nt D M n with ⟨h3, h4, n, hn, rfl⟩ | ⟨h3, h4⟩
    · rcases p_chN D M c with ⟨h5, hc, h6⟩ | ⟨h5, h6⟩
      · have h6 := h6 (nI n) (nI j)
        have hj20 : j < 20 := by have := r1.1; omega
        have gg := ld_gn (show 20 * n + j < 80 by omega) (show 80 < 2147483648 by omega)
        have cc := nI_clamp (show 20 * n + j < 2147483648 by omega)
        have w1 := p_chanOf r1.2.1 r1.1 hn hj
        obtain ⟨w3, w4⟩ := r1.2.2.2.2 n j hn hj20
        have s5 : lr_5 L (C 0) (C 1) D (ld_up M 67 22 0) := r5.cg (Nat.le_refl _) (Nat.le_refl _) (Nat.le_refl _) (fun _ _ _ => by first | rfl | (repeat rw [ld_get_n (by omega)])) (fun _ _ _ => by first | rfl | (repeat rw [ld_get_n (by omega)]))
        obtain ⟨D', M', n1, n2, n3, n4, n5⟩ := lr_note s5 1 (nI n) (nI j) (D (7 + n) j) 0 1 (nI (20 * n + j)) (D (7 + n) j + 1) 0 (fun r i D9 M9 z1 z2 z3 z4 z5 z6 z7 z8 z9 => Or.inr (Or.inl ⟨z1, z6, n, j, hn, hj, z2, z3, z7, by rw [z8, z4], by rw [z4]; exact w4⟩))
        have d3 : D' 3 3 = nI L := by rw [n4 _ _ (by omega) (by omega)]; exact r1.2.1
        have p9 := p_setChan d3 r1.1 hn hj c
        refine lr_S.ok (D (7 + n) j) (ld_up D' (7 + n) j c) (ld_up M' 70 (20 * n + j) (c + 1)) ?_ ?_ (fun i hi => funext fun j => by rw [ld_get_n (by omega), n4 i j (by omega) (by omega)]) (fun i hi => funext fun j => by rw [ld_get_n (by omega), n5 i j (by omega) (by omega), ld_get_n (by omega)]) (by rw [ld_get_n (by omega), n5 67 22 (by omega) (by omega), ld_get, if_pos ⟨rfl, rfl⟩]) (lr_V.T (L := L) (t := t) (C := C) (ts := fun _ => t) ⟨r0, by rw [ld_get_n (by omega), n5 67 12 (by omega) (by omega), ld_get_n (by omega)]; exact ht, ?_, r2.cg (fun i j _ => by rw [ld_get_n (by omega), n4 i j (by omega) (by omega)]) (fun i j _ => by rw [ld_get_n (by omega), n5 i j (by omega) (by omega), ld_get_n (by omega)]), fun l' hl' => (r3 l' hl').cg (fun i j _ => by rw [ld_get_n (by omega), n4 i j (by omega) (by omega)]) (fun i j _ => by rw [ld_get_n (by omega), n5 i j (by omega) (by omega), ld_get_n (by omega)]), fun l' hl' => (r4 l' hl').cg (r3 l' hl').1 (fun i j _ => by rw [ld_get_n (by omega), n4 i j (by omega) (by omega)]) (fun i j _ => by rw [ld_get_n (by omega), n5 i j (by omega) (by omega), ld_get_n (by omega)]), n3.cg (Nat.le_refl _) (Nat.le_refl _) (Nat.le_refl _) (fun _ _ _ => by first | rfl | (repeat rw [ld_get_n (by omega)])) (fun _ _ _ => by first | rfl | (repeat rw [ld_get_n (by omega)]))⟩ rfl rfl)
        · simp [kX3_hang, h1, h3, h5, ld_bx, w1, ld_bd, n1, p9]
        · simp only [kX4_hang, h2, h4]
          refine Eq.trans h6 ?_
          simp [kX4_hang_37, ld_bd, ld_get, ld_ck, ix20, gg, cc, w3, n2]
        · exact (r1.cg (fun i j _ => n4 i j (by omega) (by omega)) (fun i j _ => by rw [n5 i j (by omega) (by omega), ld_get_n (by omega)])).chan hn hj20 c hc
      · have h6 := h6 (nI n) (nI j)
        exact lr_S.no h 0 (by decide) (by simp [kX3_hang, h1, h3, h5, ld_bx]) (by
          simp only [kX4_hang, h2, h4]
          refine Eq.trans h6 ?_
          simp [kX4_hang_37, ld_get, lr_c2])
    · exact lr_S.no h 0 (by decide) (by simp [kX3_hang, h1, h3, ld_bx]) (by simp [kX4_hang, h2, h4, ld_bd, kX4_hang_32, kX4_hang_37, ld_get, lr_c2])
  · exact lr_S.no h 2 (by decide) (by simp [kX3_hang, h1, ld_bx]) (by simp [kX4_hang, h2, ld_bd, kX4_hang_37, ld_get, lr_c2])
theorem p_lastRow {D : ld_M} {n : Nat} (hn : n < 20) (h1 : D 45 1 = nI n) : kX1_lastRow D = some (nI ((n + 19) % 20)) := by
  unfold kX1_lastRow kX1_lastRow_18
  rw [h1]
  by_cases e : n = 0
  · subst e
    rw [if_pos (show nI 0 ≤ 0 by decide)]
    rfl
  · obtain ⟨m, rfl⟩ : ∃ m, n = m + 1 := ⟨n - 1, by omega⟩
    rw [if_neg (show ¬ nI (m + 1) ≤ 0 from nI_nle (by omega) (by omega)), nI_pred, show (m + 1 + 19) % 20 = m by omega]
theorem p_lastPart {D : ld_M} {n j : Nat} (hn : n < 20) (hj : j < 5) (h1 : D 45 1 = nI n) : kX1_lastPart D (nI j) = some (D (47 + (n + 19) % 20) j) := by
  have hr : (n + 19) % 20 < 20 := by omega
  have p0 := p_lastRow hn h1
  have p1 := p_place (Z := D) hr hj
  have g1 := ld_gn hr (show 20 < 2147483648 by omega)
  have g2 := ld_gn hj (show 5 < 2147483648 by omega)
  have c1 := nI_clamp (show (n + 19) % 20 < 2147483648 by omega)
  have c2 := nI_clamp (show j < 2147483648 by omega)
  simp [kX1_lastPart, p0, p1, ld_bd, ld_ck, g1, g2, c1, c2, kX1_lastPart_25]
theorem p_drop {D : ld_M} {n k : Nat} (hn : n < 20) (hk : k < 20) (h1 : D 45 1 = nI n) (h2 : D 45 2 = nI (k + 1)) : kX1_dropLast D = some (ld_up (ld_up D 45 1 (nI ((n + 19) % 20))) 45 2 (nI k)) := by
  have n1 : ¬ nI k < 0 := nI_pos (by omega)
  unfold kX1_dropLast
  rw [p_lastRow hn h1]
  show some (ld_up (ld_up D 45 1 (nI ((n + 19) % 20))) 45 2 (if ((ld_up D 45 1 (nI ((n + 19) % 20))) 45 2 - 1) < 0 then 0 else ((ld_up D 45 1 (nI ((n + 19) % 20))) 45 2 - 1))) = _
  rw [ld_get_n (show ¬ (45 = 45 ∧ 2 = 1) by omega), h2, nI_pred, if_neg n1]
theorem op_undo {T : Nat} {D M : ld_M} (h : lr_T T D M) : lr_S T D M (kX3_undo D) (kX4_undo M) (lr_c1 1) := by
  obtain ⟨L, t, C, r0, ht, r1, r2, r3, r4, ⟨k, n, hk, hn, g1, g2, g3, g4⟩⟩ := h.V
  by_cases hk0 : k = 0
  · subst hk0
    rw [nI_0] at g2 g3
    exact lr_S.no h 1 (by decide) (by simp [kX3_undo, kX1_isEmpty, g2, kX1_isEmpty_12, ld_ck, ld_b, ld_bd]) (by simp [kX4_undo, g3, kX4_undo_13, ld_get, lr_c1])
  · obtain ⟨k, rfl⟩ : ∃ m, k = m + 1 := ⟨k - 1, by omega⟩
    have n1 : (0 : Int32) < nI (k + 1) := nI_lt (a := 0) (by omega) (by omega)
    have n2 : ¬ nI (k + 1) = 0 := nI_ne0 (by omega) (by omega)
    have gk := ld_gn (show k < 20 by omega) (show 20 < 2147483648 by omega)
    have ck := nI_clamp (show k < 2147483648 by omega)
    have t0 : kX1_lastPart D 0 = _ := p_lastPart (j := 0) hn (by omega) g1
    have t1 : kX1_lastPart D 1 = _ := p_lastPart (j := 1) hn (by omega) g1
    have t2 : kX1_lastPart D 2 = _ := p_lastPart (j := 2) hn (by omega) g1
    have t3 : kX1_lastPart D 3 = _ := p_lastPart (j := 3) hn (by omega) g1
    have t4 : kX1_lastPart D 4 = _ := p_lastPart (j := 4) hn (by omega) g1
    have er : 47 + (n + 20 - (k + 1) + k) % 20 = 47 + (n + 19) % 20 := by omega
    have hlast := g4 k (by omega)
    rw [er] at hlast
    obtain ⟨r, hr⟩ : ∃ r, r = 47 + (n + 19) % 20 := ⟨_, rfl⟩
    rw [← hr] at hlast t0 t1 t2 t3 t4
    have s5 : ∀ (D' M' : ld_M), (∀ i j, (47 ≤ i ∧ i ≤ 66) → D' i j = D i j) → D' 45 1 = nI ((n + 19) % 20) → D' 45 2 = nI k → M' 67 17 = nI k → (∀ i j, 82 ≤ i → i ≤ 85 → M' i j = M i j) → lr_5 L (C 0) (C 1) D' M' := by
      intro D' M' q1 q2 q3 q4 q5
      refine ⟨k, (n + 19) % 20, by omega, by omega, q2, q3, q4, fun j hj => ?_⟩
      have e9 : 47 + ((n + 19) % 20 + 20 - k + j) % 20 = 47 + (n + 20 - (k + 1) + j) % 20 := by omega
      rw [e9]
      exact (g4 j (by omega)).mv (fun x => q1 _ x (by omega)) (fun i i1 i2 => q5 i j i1 i2)
    have w1 : lr_1 L D (ld_up (ld_up M 67 22 0) 67 17 (nI k)) := r1.cg (fun _ _ _ => by first | rfl | (repeat rw [ld_get_n (by omega)])) (fun _ _ _ => by first | rfl | (repeat rw [ld_get_n (by omega)]))
    -- the desk: what is taken back, and then the row is dropped
    have un : ∀ D2 : ld_M, kX3_takeBackLast D = some D2 → D2 45 1 = D 45 1 → D2 45 2 = D 45 2 → kX3_undo D = some (.inl (nI k, ld_up (ld_up D2 45 1 (nI ((n + 19) % 20))) 45 2 (nI k))) := by
      intro D2 u1 u2 u3
      have u4 := p_drop hn (show k < 20 by omega) (u2.trans g1) (u3.trans g2)
      simp [kX3_undo, kX1_isEmpty, g2, n1, kX1_isEmpty_12, ld_ck, ld_b, ld_bd, u1, u4, kX1_size, ld_get]
    rcases hlast with ⟨z1, z2, a, ha, z3, z4, z5, z6⟩ | ⟨z1, z2, m, a, hm, ha, z3, z4, z5, z6, z7⟩ | ⟨z1, z2, l, q, c, hlq, hc, z3, z4, z5, z6, z7, z8⟩
    · have ga := ld_gn (show a < 20 by have := r1.1; omega) (show 20 < 2147483648 by omega)
      have ca := nI_clamp (show a < 2147483648 by have := r1.1; omega)
      have p2 := p_setKind r1.2.1 r1.1 ha (D r 2) (D r 3)
      have w2 := w1.kind (a := a) (D r 2) (D r 3)
      refine lr_S.ok (nI k) (ld_up (ld_up (ld_up (ld_up D 4 a (D r 2)) 5 a (D r 3)) 45 1 (nI ((n + 19) % 20))) 45 2 (nI k)) (ld_up (ld_up (ld_up (ld_up M 67 22 0) 67 17 (nI k)) 68 a (D r 2)) 69 a (D r 3)) ?_ ?_ (fun _ _ => by first | rfl | (repeat rw [ld_up_n (by omega)])) (fun _ _ => by first | rfl | (repeat rw [ld_up_n (by omega)])) (by simp [ld_get]) (lr_V.T (L := L) (t := t) (C := C) (ts := fun _ => t) ⟨r0, by simp [ld_get, ht], w2.cg (fun _ _ _ => by first | rfl | (repeat rw [ld_get_n (by omega)])) (fun _ _ _ => by first | rfl | (repeat rw [ld_get_n (by omega)])), r2.cg (fun _ _ _ => by first | rfl | (repeat rw [ld_get_n (by omega)])) (fun _ _ _ => by first | rfl | (repeat rw [ld_get_n (by omega)])), fun l' hl' => (r3 l' hl').cg (fun _ _ _ => by first | rfl | (repeat rw [ld_get_n (by omega)])) (fun _ _ _ => by first | rfl | (repeat rw [ld_get_n (by omega)])), fun l' hl' => (r4 l' hl').cg (r3 l' hl').1 (fun _ _ _ => by first | rfl | (repeat rw [ld_get_n (by omega)])) (fun _ _ _ => by first | rfl | (repeat rw [ld_get_n (by omega)])), s5 _ _ (fun _ _ _ => by first | rfl | (repeat rw [ld_get_n (by omega)])) (by simp [ld_get]) (by simp [ld_get]) (by simp [ld_get]) (fun _ _ _ _ => by repeat rw [ld_get_n (by omega)])⟩ rfl rfl)
      · exact un _ (by simp [kX3_takeBackLast, t0, t1, t2, t3, t4, ld_bd, z1, z3, p2, kX3_takeBackLast_110]) (by simp [ld_get]) (by simp [ld_get])
      · simp [kX4_undo, g3, n2, kX4_undo_13, ld_get, nI_pred, gk, ck, ld_ck, z2, z4, ga, ca, z5, z6, kX4_undo_136]
    · have gm := ld_gn (show 20 * m + a < 80 by have := r1.1; omega) (show 80 < 2147483648 by omega)
      have cm := nI_clamp (show 20 * m + a < 2147483648 by have := r1.1; omega)
      have p2 := p_setChan r1.2.1 r1.1 hm ha (D r 3)
      have hx : ¬ 45 = 7 + m := by omega
      have w2 := w1.chan hm (show a < 20 by have := r1.1; omega) _ z7
      refine lr_S.ok (nI k) (ld_up (ld_up (ld_up D (7 + m) a (D r 3)) 45 1 (nI ((n + 19) % 20))) 45 2 (nI k)) (ld_up (ld_up (ld_up M 67 22 0) 67 17 (nI k)) 70 (20 * m + a) (D r 3 + 1)) ?_ ?_ (fun _ _ => by first | rfl | (repeat rw [ld_up_n (by omega)])) (fun _ _ => by first | rfl | (repeat rw [ld_up_n (by omega)])) (by simp [ld_get]) (lr_V.T (L := L) (t := t) (C := C) (ts := fun _ => t) ⟨r0, by simp [ld_get, ht], w2.cg (fun _ _ _ => by first | rfl | (repeat rw [ld_get_n (by omega)])) (fun _ _ _ => by first | rfl | (repeat rw [ld_get_n (by omega)])), r2.cg (fun _ _ _ => by first | rfl | (repeat rw [ld_get_n (by omega)])) (fun _ _ _ => by first | rfl | (repeat rw [ld_get_n (by omega)])), fun l' hl' => (r3 l' hl').cg (fun _ _ _ => by first | rfl | (repeat rw [ld_get_n (by omega)])) (fun _ _ _ => by first | rfl | (repeat rw [ld_get_n (by omega)])), fun l' hl' => (r4 l' hl').cg (r3 l' hl').1 (fun _ _ _ => by first | rfl | (repeat rw [ld_get_n (by omega)])) (fun _ _ _ => by first | rfl | (repeat rw [ld_get_n (by omega)])), s5 _ _ (fun _ _ _ => by first | rfl | (repeat rw [ld_get_n (by omega)])) (by simp [ld_get]) (by simp [ld_get]) (by simp [ld_get]) (fun _ _ _ _ => by repeat rw [ld_get_n (by omega)])⟩ rfl rfl)
      · exact un _ (by simp [kX3_takeBackLast, t0, t1, t2, t3, t4, ld_bd, z1, z3, z4, p2, kX3_takeBackLast_110]) (by simp [ld_get, hx]) (by simp [ld_get, hx])
      · simp [kX4_undo, g3, n2, kX4_undo_13, ld_get, nI_pred, gk, ck, ld_ck, z2, z5, gm, cm, z6, kX4_undo_136]
    · have hl : l < 2 := by omega
      have hq : q < C l := by
        rcases hlq with ⟨rfl, e⟩ | ⟨rfl, e⟩
        · exact e
        · exact e
      have k3 := r3 l hl
      have hq10 : q < 10 := by have := k3.1; omega
      have hcu := ld_cuL hl
      have gm := ld_gn (show 12 * (10 * l + q) + c < 240 by omega) (show 240 < 2147483648 by omega)
      have cm := nI_clamp (show 12 * (10 * l + q) + c < 2147483648 by omega)
      have hx : ¬ 45 = 11 + 17 * l + 7 + q := by omega
      have p2 := p_tell k3.2.1 k3.1 hq hc (D r 4)
      have v1 : lr_3 l (11 + 17 * l) (C l) D (ld_up (ld_up M 67 22 0) 67 17 (nI k)) := k3.cg (fun _ _ _ => by first | rfl | (repeat rw [ld_get_n (by omega)])) (fun _ _ _ => by first | rfl | (repeat rw [ld_get_n (by omega)]))
      have v2 := v1.lev hq10 hc _ z8
      refine lr_S.ok (nI k) (ld_up (ld_up (ld_up D (11 + 17 * l + 7 + q) c (D r 4)) 45 1 (nI ((n + 19) % 20))) 45 2 (nI k)) (ld_up (ld_up (ld_up M 67 22 0) 67 17 (nI k)) 77 (12 * (10 * l + q) + c) (D r 4 + 1)) ?_ ?_ (fun _ _ => by first | rfl | (repeat rw [ld_up_n (by omega)])) (fun _ _ => by first | rfl | (repeat rw [ld_up_n (by omega)])) (by simp [ld_get]) (lr_V.T (L := L) (t := t) (C := C) (ts := fun _ => t) ⟨r0, by simp [ld_get, ht], r1.cg (fun _ _ _ => by first | rfl | (repeat rw [ld_get_n (by omega)])) (fun _ _ _ => by first | rfl | (repeat rw [ld_get_n (by omega)])), r2.cg (fun _ _ _ => by first | rfl | (repeat rw [ld_get_n (by omega)])) (fun _ _ _ => by first | rfl | (repeat rw [ld_get_n (by omega)])), fun l' hl' => ?_, fun l' hl' => (r4 l' hl').cg (r3 l' hl').1 (fun _ _ _ => by first | rfl | (repeat rw [ld_get_n (by omega)])) (fun _ _ _ => by first | rfl | (repeat rw [ld_get_n (by omega)])), s5 _ _ (fun _ _ _ => by first | rfl | (repeat rw [ld_get_n (by omega)])) (by simp [ld_get]) (by simp [ld_get]) (by simp [ld_get]) (fun _ _ _ _ => by repeat rw [ld_get_n (by omega)])⟩ rfl rfl)
      · exact un _ (by simp [kX3_takeBackLast, t0, t1, t2, t3, t4, ld_bd, z1, z3, z4, z5, hcu, p2, kX3_takeBackLast_110]) (by simp [ld_get, hx]) (by simp [ld_get, hx])
      · simp [kX4_undo, g3, n2, kX4_undo_13, ld_get, nI_pred, gk, ck, ld_ck, z2, z6, gm, cm, z7, kX4_undo_136]
      · by_cases el : l' = l
        · subst el
          exact v2.cg (fun _ _ _ => by first | rfl | (repeat rw [ld_get_n (by omega)])) (fun _ _ _ => by first | rfl | (repeat rw [ld_get_n (by omega)]))
        · exact (r3 l' hl').cg (fun _ _ _ => by first | rfl | (repeat rw [ld_get_n (by omega)])) (fun _ _ _ => by first | rfl | (repeat rw [ld_get_n (by omega)]))
