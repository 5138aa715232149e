def lr_cv (D : ld_M) (rd : Option (Int32 ⊕ Nat)) : Option ((Int32 × ld_M) ⊕ Nat) := match rd with
  | some (.inl x) => some (.inl (x, D))
  | some (.inr e) => some (.inr e)
  | none => none
theorem lr_glue1 {T T' : Nat} {Z : ld_M} {d : ld_M → Option (Int32 ⊕ Nat)} {m : ld_M → Option (Int32 × ld_M)} {code : Nat → Int32} {hf : Nat → Option (Int32 × ld_M)} (hS : ∀ M, lr_T T Z M → lr_S T' Z M (lr_cv Z (d Z)) (m M) code) (hR : lr_T T Z Z) (hne : ∀ e, code e ≠ 0 → hf e = some (code e, Z)) :
    lr_G T' (ld_bh (d Z) (fun x => ld_ck (ld_g 0 1) (some (0, ld_up Z 86 (0 : Int32).toNatClampNeg x))) hf) m := by
  have h := lr_glue (d := fun D => lr_cv D (d D)) (code := code) (hf := hf) hS hR hne
  have e : ld_bh (d Z) (fun x => ld_ck (ld_g 0 1) (some (0, ld_up Z 86 (0 : Int32).toNatClampNeg x))) hf = ld_bh (lr_cv Z (d Z)) (fun x => ld_ck (ld_g 0 1) (some (0, ld_up x.2 86 (0 : Int32).toNatClampNeg x.1))) hf := by
    cases hd : d Z with
    | none => rfl
    | some q => cases q <;> rfl
  rw [e]
  exact h
def lr_c1 (e1 : Nat) : Nat → Int32 := fun e => if e = e1 then 1 else 0
def lr_c2 (e1 e2 : Nat) : Nat → Int32 := fun e => if e = e1 then 1 else if e = e2 then 2 else 0
theorem lr_h1 {e1 : Nat} {Z : ld_M} : ∀ e, lr_c1 e1 e ≠ 0 → (fun e9 => if e9 = e1 then (some ((1 : Int32), Z)) else none) e = some (lr_c1 e1 e, Z) := by
  intro e h
  unfold lr_c1 at h ⊢
  by_cases q : e = e1
  · simp [q]
  · simp [q] at h
theorem lr_h2 {e1 e2 : Nat} {Z : ld_M} : ∀ e, lr_c2 e1 e2 e ≠ 0 → (fun e9 => if e9 = e1 then (some ((1 : Int32), Z)) else if e9 = e2 then (some (2, Z)) else none) e = some (lr_c2 e1 e2 e, Z) := by
  intro e h
  unfold lr_c2 at h ⊢
  by_cases q : e = e1
  · simp [q]
  · by_cases q2 : e = e2
    · subst q2
      simp [q]
    · simp [q, q2] at h

theorem op_setNight {T : Nat} {D M : ld_M} (h : lr_T T D M) (a : Int32) : lr_S T D M (kX3_setNight D a) (kX4_setNight M a) (lr_c1 0) := by
  rcases p_nt D M a with ⟨h1, h2, j, hj, rfl⟩ | ⟨h1, h2⟩
  · obtain ⟨L, C0, C1, t, r0, ht, r1, r2, r3, r4, r5, r6, r7⟩ := h
    obtain ⟨⟨n, hn, g1, g2⟩, g3⟩ := r2
    refine ⟨nI n, ld_up (ld_up M 67 22 0) 67 4 (nI j), ?_, ((lr_FM.rf.up (by first | decide | omega) (by first | decide | omega)).up (by first | decide | omega) (by first | decide | omega)), Or.inl ⟨ld_up D 0 6 (nI j), ?_, (lr_FD.rf.up (by first | decide | omega)), by simp [ld_get], L, C0, C1, t, r0, by simp [ld_get, ht], r1.cg (fun i j q => by rw [ld_get_n (by omega)]) (fun i j q => by rw [ld_get_n (by omega), ld_get_n (by omega)]), ?_, r3.cg (fun i j q => by rw [ld_get_n (by omega)]) (fun i j q => by rw [ld_get_n (by omega), ld_get_n (by omega)]), r4.cg (fun i j q => by rw [ld_get_n (by omega)]) (fun i j q => by rw [ld_get_n (by omega), ld_get_n (by omega)]), r5.cg r3.1 (fun i j q => by rw [ld_get_n (by omega)]) (fun i j q => by rw [ld_get_n (by omega), ld_get_n (by omega)]), r6.cg r4.1 (fun i j q => by rw [ld_get_n (by omega)]) (fun i j q => by rw [ld_get_n (by omega), ld_get_n (by omega)]), r7.cg (Nat.le_refl _) (Nat.le_refl _) (Nat.le_refl _) (fun i j q => by rw [ld_get_n (by omega)]) (fun i j q => by rw [ld_get_n (by omega), ld_get_n (by omega)])⟩⟩
    · simp [kX4_setNight, kX4_setNight_13, h2, ld_bd, ld_get, g2]
    · simp [kX3_setNight, h1, ld_bx, g1]
    · refine ⟨⟨j, hj, by simp [ld_get], by simp [ld_get]⟩, fun c hc => ?_⟩
      have := g3 c hc
      simpa [ld_get] using this
  · exact lr_S.no h 0 (by decide) (by simp [kX3_setNight, h1, ld_bx]) (by simp [kX4_setNight, kX4_setNight_13, h2, ld_bd, ld_get, lr_c1])
theorem op_setLatest {T : Nat} {D M : ld_M} (h : lr_T T D M) (a f : Int32) (hf : f = 0 ∨ f = 1) : lr_S T D M (kX3_setLatest D a f) (kX4_setLatest M a f) (lr_c1 0) := by
  rcases p_ch D M a with ⟨h1, h2, j, hj, rfl⟩ | ⟨h1, h2⟩
  · obtain ⟨L, C0, C1, t, r0, ht, r1, r2, r3, r4, r5, r6, r7⟩ := h
    obtain ⟨g3, g4⟩ := r2
    obtain ⟨g5, g6, g7⟩ := g4 j hj
    have hfb : ld_b f = true := by rcases hf with rfl | rfl <;> rfl
    have hgb : ld_b (D 1 j) = true := by rcases g5 with q | q <;> rw [q] <;> rfl
    have hg := ld_gn hj (show 12 < 2147483648 by omega)
    refine ⟨D 1 j, ld_up (ld_up M 67 22 0) 71 j f, ?_, ((lr_FM.rf.up (by first | decide | omega) (by first | decide | omega)).up (by first | decide | omega) (by first | decide | omega)), Or.inl ⟨ld_up D 1 j f, ?_, (lr_FD.rf.up (by first | decide | omega)), by simp [ld_get], L, C0, C1, t, r0, by simp [ld_get, ht], r1.cg (fun i j q => by rw [ld_get_n (by omega)]) (fun i j q => by rw [ld_get_n (by omega), ld_get_n (by omega)]), ?_, r3.cg (fun i j q => by rw [ld_get_n (by omega)]) (fun i j q => by rw [ld_get_n (by omega), ld_get_n (by omega)]), r4.cg (fun i j q => by rw [ld_get_n (by omega)]) (fun i j q => by rw [ld_get_n (by omega), ld_get_n (by omega)]), r5.cg r3.1 (fun i j q => by rw [ld_get_n (by omega)]) (fun i j q => by rw [ld_get_n (by omega), ld_get_n (by omega)]), r6.cg r4.1 (fun i j q => by rw [ld_get_n (by omega)]) (fun i j q => by rw [ld_get_n (by omega), ld_get_n (by omega)]), r7.cg (Nat.le_refl _) (Nat.le_refl _) (Nat.le_refl _) (fun i j q => by rw [ld_get_n (by omega)]) (fun i j q => by rw [ld_get_n (by omega), ld_get_n (by omega)])⟩⟩
    · rcases g5 with q | q <;> rcases hf with rfl | rfl <;> simp [kX4_setLatest, kX4_setLatest_13, kX4_setLatest_40, kX4_setLatest_55, h2, ld_bd, ld_get, hg, ld_ck, nI_clamp (show j < 2147483648 by omega), g6, q, ld_b]
    · simp [kX3_setLatest, h1, ld_bx, hg, hfb, nI_clamp (show j < 2147483648 by omega), hgb, ld_ck]
    · refine ⟨by simpa [ld_get] using g3, fun c hc => ?_⟩
      have := g4 c hc
      by_cases e : c = j
      · subst e
        simp [ld_get]
        exact ⟨hf, this.2.2⟩
      · simp [ld_get, e]
        exact this
  · exact lr_S.no h 0 (by decide) (by simp [kX3_setLatest, h1, ld_bx]) (by simp [kX4_setLatest, kX4_setLatest_13, h2, ld_bd, ld_get, lr_c1, ld_ck, ld_b])
theorem op_addLamp {T : Nat} {D M : ld_M} (h : lr_T T D M) (a g : Int32) : lr_S T D M (kX3_addLamp D a g) (kX4_addLamp M a g) (lr_c2 0 1) := by
  rcases p_kind D M a g with ⟨h1, h2⟩ | ⟨h1, h2⟩
  · have h' := h
    obtain ⟨L, C0, C1, t, r0, ht, r1, r2, r3, r4, r5, r6, r7⟩ := h
    obtain ⟨g1, g2, g3, g4, g5⟩ := r1
    by_cases hL : L = 20
    · subst hL
      exact lr_S.no h' 1 (by decide) (by simp [kX3_addLamp, h1, ld_bx, kX2_isFull, g2, nI_ge, kX2_isFull_14, ld_bd, ld_ck, ld_b, show ¬ (nI 20 < (20 : Int32)) by decide]) (by simp [kX4_addLamp, h2, ld_bd, g3, kX4_addLamp_27, ld_get, lr_c2, show nI 20 = (20 : Int32) by decide])
    · have hlt : L < 20 := by omega
      have e1 : nI L < (20 : Int32) := nI_lt hlt (by omega)
      have e2 : ¬ nI L = (20 : Int32) := fun q => hL ((nI_eq (b := 20) (by omega) (by omega)).mp q)
      have hg := ld_gn hlt (show 20 < 2147483648 by omega)
      have hc := nI_clamp (show L < 2147483648 by omega)
      refine ⟨nI L, ld_up (ld_up (ld_up (ld_up M 67 22 0) 68 L a) 69 L g) 67 0 (nI (L + 1)), ?_, ((((lr_FM.rf.up (by first | decide | omega) (by first | decide | omega)).up (by first | decide | omega) (by first | decide | omega)).up (by first | decide | omega) (by first | decide | omega)).up (by first | decide | omega) (by first | decide | omega)), Or.inl ⟨ld_up (ld_up (ld_up D 3 3 (nI (L + 1))) 4 L a) 5 L g, ?_, (((lr_FD.rf.up (by first | decide | omega)).up (by first | decide | omega)).up (by first | decide | omega)), by simp [ld_get], L + 1, C0, C1, t, r0, by simp [ld_get, ht], ?_, r2.cg (fun i j q => by rw [ld_get_n (by omega), ld_get_n (by omega), ld_get_n (by omega)]) (fun i j q => by rw [ld_get_n (by omega), ld_get_n (by omega), ld_get_n (by omega), ld_get_n (by omega)]), r3.cg (fun i j q => by rw [ld_get_n (by omega), ld_get_n (by omega), ld_get_n (by omega)]) (fun i j q => by rw [ld_get_n (by omega), ld_get_n (by omega), ld_get_n (by omega), ld_get_n (by omega)]), r4.cg (fun i j q => by rw [ld_get_n (by omega), ld_get_n (by omega), ld_get_n (by omega)]) (fun i j q => by rw [ld_get_n (by omega), ld_get_n (by omega), ld_get_n (by omega), ld_get_n (by omega)]), r5.cg r3.1 (fun i j q => by rw [ld_get_n (by omega), ld_get_n (by omega), ld_get_n (by omega)]) (fun i j q => by rw [ld_get_n (by omega), ld_get_n (by omega), ld_get_n (by omega), ld_get_n (by omega)]), r6.cg r4.1 (fun i j q => by rw [ld_get_n (by omega), ld_get_n (by omega), ld_get_n (by omega)]) (fun i j q => by rw [ld_get_n (by omega), ld_get_n (by omega), ld_get_n (by omega), ld_get_n (by omega)]), r7.cg (by omega) (Nat.le_refl _) (Nat.le_refl _) (fun i j q => by rw [ld_get_n (by omega), ld_get_n (by omega), ld_get_n (by omega)]) (fun i j q => by rw [ld_get_n (by omega), ld_get_n (by omega), ld_get_n (by omega), ld_get_n (by omega)])⟩⟩
      · have e3 : nI L + 1 - 1 = nI L := by rw [nI_1, nI_pred]
        simp [kX4_addLamp, h2, ld_bd, g3, e2, kX4_addLamp_27, ld_get, hg, hc, ld_ck, nI_1, nI_pred]
      · have e4 := p_has2t (Z := ld_up D 3 3 (nI (L + 1))) (C := L + 1) (j := L) (by simp [ld_get]) (by omega) (by omega)
        simp [kX3_addLamp, h1, ld_bx, kX2_isFull, g2, e1, kX2_isFull_14, ld_bd, ld_ck, ld_b, kX2_add, nI_1, kX2_setKind, e4, hg, hc, kX2_setKind_22]
      · refine ⟨by omega, by simp [ld_get], by simp [ld_get], fun j hj => ?_, fun n j hn hj => ?_⟩
        · have := g4 j hj
          by_cases e : j = L
          · subst e; simp [ld_get]
          · simp [ld_get, e]; exact this
        · have := g5 n j hn hj
          rw [ld_get_n (by omega), ld_get_n (by omega), ld_get_n (by omega), ld_get_n (by omega), ld_get_n (by omega), ld_get_n (by omega), ld_get_n (by omega)]
          exact this
  · exact lr_S.no h 0 (by decide) (by simp [kX3_addLamp, h1, ld_bx]) (by simp [kX4_addLamp, kX4_addLamp_27, h2, ld_bd, ld_get, lr_c2])
theorem op_addCue0 {T : Nat} {D M : ld_M} (h : lr_T T D M) (d f w : Int32) (hw : w = 0 ∨ w = 1) : lr_S T D M (kX3_addCue D (nI 0) d f w) (kX4_addCue M (nI 0) d f w) (lr_c2 0 1) := by
  have q1 : kX3_needList D (nI 0) = some (.inl ()) := by decide
  have q2 : kX4_isList M (nI 0) = some 1 := p_list4 (by omega)
  rcases p_tenths D M d with ⟨h1, h2, dd, hd, rfl⟩ | ⟨h1, h2⟩
  · rcases p_tenths D M f with ⟨h3, h4, ff, hf, rfl⟩ | ⟨h3, h4⟩
    · have h' := h
      obtain ⟨L, C0, C1, t, r0, ht, r1, r2, r3, r4, r5, r6, r7⟩ := h
      obtain ⟨g1, g2, g3, g4, g5⟩ := r3
      have cl : (nI 0).toNatClampNeg = 0 := by decide
      have gl : ld_g (nI 0) 2 = true := by decide
      by_cases hC : C0 = 10
      · subst hC
        exact lr_S.no h' 1 (by decide) (by simp [kX3_addCue, q1, h1, h3, ld_bx, ld_cu0, kX0_isFull, g2, kX0_isFull_14, ld_bd, ld_ck, ld_b, show ¬ (nI 10 < (10 : Int32)) by decide]) (by simp [kX4_addCue, q2, h2, h4, ld_bd, g3, kX4_addCue_33, kX4_fails, ld_get, ld_ck, gl, cl, lr_c2, show nI 10 = (10 : Int32) by decide]; rfl)
      · have hlt : C0 < 10 := by omega
        have e1 : nI C0 < (10 : Int32) := nI_lt hlt (by omega)
        have e2 : ¬ nI C0 = (10 : Int32) := fun q => hC ((nI_eq (b := 10) (by omega) (by omega)).mp q)
        have hg := ld_gn hlt (show 10 < 2147483648 by omega)
        have hg20 := ld_gn (show 10 * 0 + C0 < 20 by omega) (show 20 < 2147483648 by omega)
        have hc := nI_clamp (show C0 < 2147483648 by omega)
        have hc20 := nI_clamp (show 10 * 0 + C0 < 2147483648 by omega)
        have ei : (10 : Int32) * nI 0 + nI C0 = nI (10 * 0 + C0) := ld_idx (k := 10) (n := 20) (by omega) (by omega)
        have hwb : ld_b w = true := by rcases hw with rfl | rfl <;> rfl
        refine ⟨nI C0, ld_up (ld_up (ld_up (ld_up (ld_up M 67 22 0) 74 (10 * 0 + C0) (nI dd)) 75 (10 * 0 + C0) (nI ff)) 76 (10 * 0 + C0) w) 73 0 (nI (C0 + 1)), ?_, (((((lr_FM.rf.up (by first | decide | omega) (by first | decide | omega)).up (by first | decide | omega) (by first | decide | omega)).up (by first | decide | omega) (by first | decide | omega)).up (by first | decide | omega) (by first | decide | omega)).up (by first | decide | omega) (by first | decide | omega)), Or.inl ⟨ld_up (ld_up (ld_up (ld_up D 11 6 (nI (C0 + 1))) (11 + 1) C0 (nI dd)) (11 + 2) C0 (nI ff)) (11 + 3) C0 w, ?_, ((((lr_FD.rf.up (by first | decide | omega)).up (by first | decide | omega)).up (by first | decide | omega)).up (by first | decide | omega)), by simp [ld_get], L, C0 + 1, C1, t, r0, by simp [ld_get, ht], r1.cg (fun i j q => by rw [ld_get_n (by omega), ld_get_n (by omega), ld_get_n (by omega), ld_get_n (by omega)]) (fun i j q => by rw [ld_get_n (by omega), ld_get_n (by omega), ld_get_n (by omega), ld_get_n (by omega), ld_get_n (by omega)]), r2.cg (fun i j q => by rw [ld_get_n (by omega), ld_get_n (by omega), ld_get_n (by omega), ld_get_n (by omega)]) (fun i j q => by rw [ld_get_n (by omega), ld_get_n (by omega), ld_get_n (by omega), ld_get_n (by omega), ld_get_n (by omega)]), ?_, r4.cg (fun i j q => by rw [ld_get_n (by omega), ld_get_n (by omega), ld_get_n (by omega), ld_get_n (by omega)]) (fun i j q => by rw [ld_get_n (by omega), ld_get_n (by omega), ld_get_n (by omega), ld_get_n (by omega), ld_get_n (by omega)]), ?_, r6.cg r4.1 (fun i j q => by rw [ld_get_n (by omega), ld_get_n (by omega), ld_get_n (by omega), ld_get_n (by omega)]) (fun i j q => by rw [ld_get_n (by omega), ld_get_n (by omega), ld_get_n (by omega), ld_get_n (by omega), ld_get_n (by omega)]), r7.cg (Nat.le_refl _) (by omega) (by omega) (fun i j q => by rw [ld_get_n (by omega), ld_get_n (by omega), ld_get_n (by omega), ld_get_n (by omega)]) (fun i j q => by rw [ld_get_n (by omega), ld_get_n (by omega), ld_get_n (by omega), ld_get_n (by omega), ld_get_n (by omega)])⟩⟩
        · rcases hw with rfl | rfl <;> simp [kX4_addCue, q2, h2, h4, ld_bd, g3, e2, kX4_addCue_33, kX4_addCue_107, ld_get, ld_ck, gl, cl, ei, hg20, hc20, nI_1, nI_pred]
        · simp [kX3_addCue, q1, h1, h3, ld_bx, ld_cu0, kX0_isFull, g2, kX0_isFull_14, e1, ld_bd, ld_ck, ld_b, kX0_add, hg, hc, nI_1]
          intro q; rcases hw with rfl | rfl <;> simp at q
        · refine ⟨by omega, by simp [ld_get], by simp [ld_get], fun q hq => ?_, fun q c hq hc9 => ?_⟩
          · have := g4 q hq
            by_cases e : q = C0
            · subst e
              refine ⟨⟨dd, ff, hd, hf, by simp [ld_get], by simp [ld_get], by simp [ld_get], by simp [ld_get]⟩, by simp [ld_get], by simp [ld_get]; exact hw⟩
            · have e9 : ¬ 10 * 0 + q = 10 * 0 + C0 := by omega
              simp [ld_get, e]
              simpa using this
          · have := g5 q c hq hc9
            rw [ld_get_n (by omega), ld_get_n (by omega), ld_get_n (by omega), ld_get_n (by omega), ld_get_n (by omega), ld_get_n (by omega), ld_get_n (by omega), ld_get_n (by omega), ld_get_n (by omega)]
            exact this
        · rcases r5 with ⟨k1, k2, k3⟩ | ⟨q, s, e, d, f, hq, k1, k2, k3, k4, k5, k6, k7, k8, k9, k10, k11, k12, k13⟩
          · refine Or.inl ⟨by simp [ld_get, k1], by simp [ld_get, k2], fun c hc9 => ?_⟩
            have := k3 c hc9
            simpa [ld_get] using this
          · have eq : ¬ q = C0 := by omega
            refine Or.inr ⟨q, s, e, d, f, by omega, by simp [ld_get, k1], by simp [ld_get, k2], by simp [ld_get, k3], k4, by simp [ld_get, k5], by simp [ld_get, eq]; exact k6, by simp [ld_get, eq]; exact k7, by simp [ld_get, eq]; simpa using k8, by simp [ld_get, eq]; simpa using k9, k10, k11, k12, fun c hc9 => ?_⟩
            have := k13 c hc9
            simpa [ld_get] using this
    · refine lr_S.no h 0 (by decide) (by simp [kX3_addCue, q1, h1, h3, ld_bx]) (by simp [kX4_addCue, q2, h2, h4, ld_bd, kX4_addCue_28, kX4_addCue_33, ld_get, lr_c2])
  · exact lr_S.no h 0 (by decide) (by simp [kX3_addCue, q1, h1, ld_bx]) (by simp [kX4_addCue, q2, h2, ld_bd, kX4_addCue_28, kX4_addCue_33, ld_get, lr_c2])
theorem op_addCue1 {T : Nat} {D M : ld_M} (h : lr_T T D M) (d f w : Int32) (hw : w = 0 ∨ w = 1) : lr_S T D M (kX3_addCue D (nI 1) d f w) (kX4_addCue M (nI 1) d f w) (lr_c2 0 1) := by
  have q1 : kX3_needList D (nI 1) = some (.inl ()) := by decide
  have q2 : kX4_isList M (nI 1) = some 1 := p_list4 (by omega)
  rcases p_tenths D M d with ⟨h1, h2, dd, hd, rfl⟩ | ⟨h1, h2⟩
  · rcases p_tenths D M f with ⟨h3, h4, ff, hf, rfl⟩ | ⟨h3, h4⟩
    · have h' := h
      obtain ⟨L, C0, C1, t, r0, ht, r1, r2, r3, r4, r5, r6, r7⟩ := h
      obtain ⟨g1, g2, g3, g4, g5⟩ := r4
      have cl : (nI 1).toNatClampNeg = 1 := by decide
      have gl : ld_g (nI 1) 2 = true := by decide
      by_cases hC : C1 = 10
      · subst hC
        exact lr_S.no h' 1 (by decide) (by simp [kX3_addCue, q1, h1, h3, ld_bx, ld_cu1, kX0_isFull, g2, kX0_isFull_14, ld_bd, ld_ck, ld_b, show ¬ (nI 10 < (10 : Int32)) by decide]) (by simp [kX4_addCue, q2, h2, h4, ld_bd, g3, kX4_addCue_33, kX4_fails, ld_get, ld_ck, gl, cl, lr_c2, show nI 10 = (10 : Int32) by decide]; rfl)
      · have hlt : C1 < 10 := by omega
        have e1 : nI C1 < (10 : Int32) := nI_lt hlt (by omega)
        have e2 : ¬ nI C1 = (10 : Int32) := fun q => hC ((nI_eq (b := 10) (by omega) (by omega)).mp q)
        have hg := ld_gn hlt (show 10 < 2147483648 by omega)
        have hg20 := ld_gn (show 10 * 1 + C1 < 20 by omega) (show 20 < 2147483648 by omega)
        have hc := nI_clamp (show C1 < 2147483648 by omega)
        have hc20 := nI_clamp (show 10 * 1 + C1 < 2147483648 by omega)
        have ei : (10 : Int32) * nI 1 + nI C1 = nI (10 * 1 + C1) := ld_idx (k := 10) (n := 20) (by omega) (by omega)
        have hwb : ld_b w = true := by rcases hw with rfl | rfl <;> rfl
        refine ⟨nI C1, ld_up (ld_up (ld_up (ld_up (ld_up M 67 22 0) 74 (10 * 1 + C1) (nI dd)) 75 (10 * 1 + C1) (nI ff)) 76 (10 * 1 + C1) w) 73 1 (nI (C1 + 1)), ?_, (((((lr_FM.rf.up (by first | decide | omega) (by first | decide | omega)).up (by first | decide | omega) (by first | decide | omega)).up (by first | decide | omega) (by first | decide | omega)).up (by first | decide | omega) (by first | decide | omega)).up (by first | decide | omega) (by first | decide | omega)), Or.inl ⟨ld_up (ld_up (ld_up (ld_up D 28 6 (nI (C1 + 1))) (28 + 1) C1 (nI dd)) (28 + 2) C1 (nI ff)) (28 + 3) C1 w, ?_, ((((lr_FD.rf.up (by first | decide | omega)).up (by first | decide | omega)).up (by first | decide | omega)).up (by first | decide | omega)), by simp [ld_get], L, C0, C1 + 1, t, r0, by simp [ld_get, ht], r1.cg (fun i j q => by rw [ld_get_n (by omega), ld_get_n (by omega), ld_get_n (by omega), ld_get_n (by omega)]) (fun i j q => by rw [ld_get_n (by omega), ld_get_n (by omega), ld_get_n (by omega), ld_get_n (by omega), ld_get_n (by omega)]), r2.cg (fun i j q => by rw [ld_get_n (by omega), ld_get_n (by omega), ld_get_n (by omega), ld_get_n (by omega)]) (fun i j q => by rw [ld_get_n (by omega), ld_get_n (by omega), ld_get_n (by omega), ld_get_n (by omega), ld_get_n (by omega)]), r3.cg (fun i j q => by rw [ld_get_n (by omega), ld_get_n (by omega), ld_get_n (by omega), ld_get_n (by omega)]) (fun i j q => by rw [ld_get_n (by omega), ld_get_n (by omega), ld_get_n (by omega), ld_get_n (by omega), ld_get_n (by omega)]), ?_, r5.cg r3.1 (fun i j q => by rw [ld_get_n (by omega), ld_get_n (by omega), ld_get_n (by omega), ld_get_n (by omega)]) (fun i j q => by rw [ld_get_n (by omega), ld_get_n (by omega), ld_get_n (by omega), ld_get_n (by omega), ld_get_n (by omega)]), ?_, r7.cg (Nat.le_refl _) (by omega) (by omega) (fun i j q => by rw [ld_get_n (by omega), ld_get_n (by omega), ld_get_n (by omega), ld_get_n (by omega)]) (fun i j q => by rw [ld_get_n (by omega), ld_get_n (by omega), ld_get_n (by omega), ld_get_n (by omega), ld_get_n (by omega)])⟩⟩
        · rcases hw with rfl | rfl <;> simp [kX4_addCue, q2, h2, h4, ld_bd, g3, e2, kX4_addCue_33, kX4_addCue_107, ld_get, ld_ck, gl, cl, ei, hg20, hc20, nI_1, nI_pred]
        · simp [kX3_addCue, q1, h1, h3, ld_bx, ld_cu1, kX0_isFull, g2, kX0_isFull_14, e1, ld_bd, ld_ck, ld_b, kX0_add, hg, hc, nI_1]
          intro q; rcases hw with rfl | rfl <;> simp at q
        · refine ⟨by omega, by simp [ld_get], by simp [ld_get], fun q hq => ?_, fun q c hq hc9 => ?_⟩
          · have := g4 q hq
            by_cases e : q = C1
            · subst e
              refine ⟨⟨dd, ff, hd, hf, by simp [ld_get], by simp [ld_get], by simp [ld_get], by simp [ld_get]⟩, by simp [ld_get], by simp [ld_get]; exact hw⟩
            · have e9 : ¬ 10 * 1 + q = 10 * 1 + C1 := by omega
              simp [ld_get, e]
              simpa using this
          · have := g5 q c hq hc9
            rw [ld_get_n (by omega), ld_get_n (by omega), ld_get_n (by omega), ld_get_n (by omega), ld_get_n (by omega), ld_get_n (by omega), ld_get_n (by omega), ld_get_n (by omega), ld_get_n (by omega)]
            exact this
        · rcases r6 with ⟨k1, k2, k3⟩ | ⟨q, s, e, d, f, hq, k1, k2, k3, k4, k5, k6, k7, k8, k9, k10, k11, k12, k13⟩
          · refine Or.inl ⟨by simp [ld_get, k1], by simp [ld_get, k2], fun c hc9 => ?_⟩
            have := k3 c hc9
            simpa [ld_get] using this
          · have eq : ¬ q = C1 := by omega
            refine Or.inr ⟨q, s, e, d, f, by omega, by simp [ld_get, k1], by simp [ld_get, k2], by simp [ld_get, k3], k4, by simp [ld_get, k5], by simp [ld_get, eq]; exact k6, by simp [ld_get, eq]; exact k7, by simp [ld_get, eq]; simpa using k8, by simp [ld_get, eq]; simpa using k9, k10, k11, k12, fun c hc9 => ?_⟩
            have := k13 c hc9
            simpa [ld_get] using this
    · refine lr_S.no h 0 (by decide) (by simp [kX3_addCue, q1, h1, h3, ld_bx]) (by simp [kX4_addCue, q2, h2, h4, ld_bd, kX4_addCue_28, kX4_addCue_33, ld_get, lr_c2])
  · exact lr_S.no h 0 (by decide) (by simp [kX3_addCue, q1, h1, ld_bx]) (by simp [kX4_addCue, q2, h2, ld_bd, kX4_addCue_28, kX4_addCue_33, ld_get, lr_c2])
theorem op_addCue {T : Nat} {D M : ld_M} (h : lr_T T D M) (a d f w : Int32) (hw : w = 0 ∨ w = 1) : lr_S T D M (kX3_addCue D a d f w) (kX4_addCue M a d f w) (lr_c2 0 1) := by
  rcases p_li D M a with ⟨h1, h2, rfl | rfl⟩ | ⟨h1, h2⟩
  · exact op_addCue0 h d f w hw
  · exact op_addCue1 h d f w hw
  · exact lr_S.no h 0 (by decide) (by simp [kX3_addCue, h1, ld_bx]) (by simp [kX4_addCue, h2, ld_bd, kX4_addCue_28, kX4_addCue_33, ld_get, lr_c2])
