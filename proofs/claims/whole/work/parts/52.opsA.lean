def lr_cv (D : ld_M) (rd : Option (Int32 ⊕ Nat)) : Option ((Int32 × ld_M) ⊕ Nat) := match rd with
  | some (.inl x) => some (.inl (x, D))
  | some (.inr e) => some (.inr e)
  | none => none
theorem lr_glue1 {T T' : Nat} {Z : ld_M} {d : ld_M → Option (Int32 ⊕ Nat)} {m : ld_M → Option (Int32 × ld_M)} {code : Nat → Int32} {hf : Nat → Option (Int32 × ld_M)} (hS : ∀ M, lr_T T Z M → lr_S T' Z M (lr_cv Z (d Z)) (m M) code) (hR : lr_T T Z Z) (hne : ∀ e, code e ≠ 0 → hf e = some (code e, Z)) :
    lr_G T' (ld_bh (d Z) (fun x => ld_ck (ld_g 0 1) (some (0, ld_up Z 86 (0 : Int32).toNatClampNeg x))) hf) m := by
  have h := lr_glue (d := fun D => lr_cv D (d D)) (code := code) (hf := hf) hS hR hne
  have e : ld_bh (d Z) (fun x => ld_ck (ld_g 0 1) (some (0, ld_up Z 86 (0 : Int32).toNatClampNeg x))) hf = ld_bh (lr_cv Z (d Z)) (fun x => ld_ck (ld_g 0 1) (some (0, ld_up x.2 86 (0 : Int32).toNatClampNeg x.1))) hf := by
    cases hd : d Z with
    | none => rfl
    | some q => cases q <;> rfl
  rw [e]
  exact h
def lr_c1 (e1 : Nat) : Nat → Int32 := fun e => if e = e1 then 1 else 0
def lr_c2 (e1 e2 : Nat) : Nat → Int32 := fun e => if e = e1 then 1 else if e = e2 then 2 else 0
theorem lr_h1 {e1 : Nat} {Z : ld_M} : ∀ e, lr_c1 e1 e ≠ 0 → (fun e9 => if e9 = e1 then (some ((1 : Int32), Z)) else none) e = some (lr_c1 e1 e, Z) := by
  intro e h
  unfold lr_c1 at h ⊢
  by_cases q : e = e1
  · simp [q]
  · simp [q] at h
theorem lr_h2 {e1 e2 : Nat} {Z : ld_M} : ∀ e, lr_c2 e1 e2 e ≠ 0 → (fun e9 => if e9 = e1 then (some ((1 : Int32), Z)) else if e9 = e2 then (some (2, Z)) else none) e = some (lr_c2 e1 e2 e, Z) := by
  intro e h
  unfold lr_c2 at h ⊢
  by_cases q : e = e1
  · simp [q]
  · by_cases q2 : e = e2
    · subst q2
      simp [q]
    · simp [q, q2] at h
theorem ix10 (l q : Nat) : (10 : Int32) * nI l + nI q = nI (10 * l + q) := by rw [ld_n10, pk_mul, nI_add]
theorem ix12 (l q : Nat) : (12 : Int32) * nI l + nI q = nI (12 * l + q) := by rw [ld_n12, pk_mul, nI_add]
theorem ix20 (l q : Nat) : (20 : Int32) * nI l + nI q = nI (20 * l + q) := by rw [ld_n20, pk_mul, nI_add]
theorem ld_cuL {l : Nat} (hl : l < 2) : ld_cu (nI l) = 11 + 17 * l := by
  rcases (show l = 0 ∨ l = 1 by omega) with rfl | rfl
  · exact ld_cu0
  · exact ld_cu1
theorem p_liT (D M : ld_M) {l : Nat} (hl : l < 2) : kX3_needList D (nI l) = some (.inl ()) ∧ kX4_isList M (nI l) = some 1 := by
  rcases p_li D M (nI l) with ⟨h1, h2, -⟩ | ⟨h1, h2⟩
  · exact ⟨h1, h2⟩
  · rw [p_list4 (by omega), if_pos (by omega)] at h2
    cases h2
theorem p_liL (D M : ld_M) (a : Int32) : (∃ l, l < 2 ∧ a = nI l) ∨ (kX3_needList D a = some (.inr 0) ∧ kX4_isList M a = some 0) := by
  rcases p_li D M a with ⟨-, -, h | h⟩ | h
  · exact Or.inl ⟨0, by omega, h⟩
  · exact Or.inl ⟨1, by omega, h⟩
  · exact Or.inr h
theorem lr_S.ok {T : Nat} {D M : ld_M} {rd : Option ((Int32 × ld_M) ⊕ Nat)} {rm : Option (Int32 × ld_M)} {code : Nat → Int32} (bv : Int32) (D' M' : ld_M) (h1 : rd = some (.inl (bv, D'))) (h2 : rm = some (bv, M')) (h3 : lr_FD D D') (h4 : lr_FM M M') (h5 : M' 67 22 = 0) (h6 : lr_T T D' M') : lr_S T D M rd rm code := ⟨bv, M', h2, h4, Or.inl ⟨D', h1, h3, h5, h6⟩⟩
theorem lr_S.no2 {T : Nat} {D M : ld_M} {rd : Option ((Int32 × ld_M) ⊕ Nat)} {rm : Option (Int32 × ld_M)} {code : Nat → Int32} (h : lr_T T D M) (e : Nat) (he : code e ≠ 0) (M' : ld_M) (h1 : rd = some (.inr e)) (h2 : rm = some (0, M')) (hM : ∀ i j, ¬ (i = 67 ∧ j = 22) → M' i j = M i j) (h22 : M' 67 22 = code e) : lr_S T D M rd rm code :=
  ⟨0, M', h2, fun i hi => funext fun j => hM i j (by omega), Or.inr ⟨e, h1, he, h22, h.cg (Nat.le_refl _) (fun _ _ => rfl) (fun i j _ _ q => hM i j q)⟩⟩
def lr_V (T L t : Nat) (C ts : Nat → Nat) (D M : ld_M) : Prop := t ≤ T ∧ M 67 12 = nI t ∧ lr_1 L D M ∧ lr_2 D M ∧ (∀ l, l < 2 → lr_3 l (11 + 17 * l) (C l) D M) ∧ (∀ l, l < 2 → lr_4 l (11 + 17 * l) (C l) (ts l) D M) ∧ lr_5 L (C 0) (C 1) D M
theorem lr_T.V {T : Nat} {D M : ld_M} (h : lr_T T D M) : ∃ L t C, lr_V T L t C (fun _ => t) D M := by
  obtain ⟨L, C0, C1, t, r0, ht, r1, r2, r3, r4, r5, r6, r7⟩ := h
  refine ⟨L, t, fun l => if l = 0 then C0 else C1, r0, ht, r1, r2, fun l hl => ?_, fun l hl => ?_, r7⟩
  · rcases (show l = 0 ∨ l = 1 by omega) with rfl | rfl
    · exact r3
    · exact r4
  · rcases (show l = 0 ∨ l = 1 by omega) with rfl | rfl
    · exact r5
    · exact r6
theorem lr_V.T {T L t : Nat} {C ts : Nat → Nat} {D M : ld_M} (h : lr_V T L t C ts D M) (h0 : ts 0 = t) (h1 : ts 1 = t) : lr_T T D M := by
  obtain ⟨r0, ht, r1, r2, r3, r4, r5⟩ := h
  have a := r4 0 (by omega)
  have b := r4 1 (by omega)
  rw [h0] at a
  rw [h1] at b
  exact ⟨L, C 0, C 1, t, r0, ht, r1, r2, r3 0 (by omega), r3 1 (by omega), a, b, r5⟩
def lr_u (C : Nat → Nat) (l v : Nat) : Nat → Nat := fun x => if x = l then v else C x
theorem lr_us (C : Nat → Nat) (l v : Nat) : lr_u C l v l = v := if_pos rfl
theorem lr_un {C : Nat → Nat} {l v x : Nat} (h : x ≠ l) : lr_u C l v x = C x := if_neg h
theorem lr_ule {C : Nat → Nat} {l v : Nat} (h : C l ≤ v) (x : Nat) : C x ≤ lr_u C l v x := by
  by_cases e : x = l
  · subst e; rw [lr_us]; exact h
  · rw [lr_un e]; omega
theorem op_setNight {T : Nat} {D M : ld_M} (h : lr_T T D M) (a : Int32) : lr_S T D M (kX3_setNight D a) (kX4_setNight M a) (lr_c1 0) := by
  rcases p_nt D M a with ⟨h1, h2, j, hj, rfl⟩ | ⟨h1, h2⟩
  · obtain ⟨L, C0, C1, t, r0, ht, r1, r2, r3, r4, r5, r6, r7⟩ := h
    obtain ⟨⟨n, hn, g1, g2⟩, g3⟩ := r2
    refine lr_S.ok (nI n) (ld_up D 0 6 (nI j)) (ld_up (ld_up M 67 22 0) 67 4 (nI j)) ?_ ?_ (fun _ _ => by first | rfl | (repeat rw [ld_up_n (by omega)])) (fun _ _ => by first | rfl | (repeat rw [ld_up_n (by omega)])) (by simp [ld_get]) ⟨L, C0, C1, t, r0, by simp [ld_get, ht], r1.cg (fun _ _ _ => by first | rfl | (repeat rw [ld_get_n (by omega)])) (fun _ _ _ => by first | rfl | (repeat rw [ld_get_n (by omega)])), ?_, r3.cg (fun _ _ _ => by first | rfl | (repeat rw [ld_get_n (by omega)])) (fun _ _ _ => by first | rfl | (repeat rw [ld_get_n (by omega)])), r4.cg (fun _ _ _ => by first | rfl | (repeat rw [ld_get_n (by omega)])) (fun _ _ _ => by first | rfl | (repeat rw [ld_get_n (by omega)])), r5.cg r3.1 (fun _ _ _ => by first | rfl | (repeat rw [ld_get_n (by omega)])) (fun _ _ _ => by first | rfl | (repeat rw [ld_get_n (by omega)])), r6.cg r4.1 (fun _ _ _ => by first | rfl | (repeat rw [ld_get_n (by omega)])) (fun _ _ _ => by first | rfl | (repeat rw [ld_get_n (by omega)])), r7.cg (Nat.le_refl _) (Nat.le_refl _) (Nat.le_refl _) (fun _ _ _ => by first | rfl | (repeat rw [ld_get_n (by omega)])) (fun _ _ _ => by first | rfl | (repeat rw [ld_get_n (by omega)]))⟩
    · simp [kX3_setNight, h1, ld_bx, g1]
    · simp [kX4_setNight, kX4_setNight_13, h2, ld_bd, ld_get, g2]
    · refine ⟨⟨j, hj, by simp [ld_get], by simp [ld_get]⟩, fun c hc => ?_⟩
      have := g3 c hc
      simpa [ld_get] using this
  · exact lr_S.no h 0 (by decide) (by simp [kX3_setNight, h1, ld_bx]) (by simp [kX4_setNight, kX4_setNight_13, h2, ld_bd, ld_get, lr_c1])
theorem op_setLatest {T : Nat} {D M : ld_M} (h : lr_T T D M) (a f : Int32) (hf : f = 0 ∨ f = 1) : lr_S T D M (kX3_setLatest D a f) (kX4_setLatest M a f) (lr_c1 0) := by
  rcases p_ch D M a with ⟨h1, h2, j, hj, rfl⟩ | ⟨h1, h2⟩
  · obtain ⟨L, C0, C1, t, r0, ht, r1, r2, r3, r4, r5, r6, r7⟩ := h
    obtain ⟨g3, g4⟩ := r2
    obtain ⟨g5, g6, g7⟩ := g4 j hj
    have hfb : ld_b f = true := by rcases hf with rfl | rfl <;> rfl
    have hgb : ld_b (D 1 j) = true := by rcases g5 with q | q <;> rw [q] <;> rfl
    have hg := ld_gn hj (show 12 < 2147483648 by omega)
    refine lr_S.ok (D 1 j) (ld_up D 1 j f) (ld_up (ld_up M 67 22 0) 71 j f) ?_ ?_ (fun _ _ => by first | rfl | (repeat rw [ld_up_n (by omega)])) (fun _ _ => by first | rfl | (repeat rw [ld_up_n (by omega)])) (by simp [ld_get]) ⟨L, C0, C1, t, r0, by simp [ld_get, ht], r1.cg (fun _ _ _ => by first | rfl | (repeat rw [ld_get_n (by omega)])) (fun _ _ _ => by first | rfl | (repeat rw [ld_get_n (by omega)])), ?_, r3.cg (fun _ _ _ => by first | rfl | (repeat rw [ld_get_n (by omega)])) (fun _ _ _ => by first | rfl | (repeat rw [ld_get_n (by omega)])), r4.cg (fun _ _ _ => by first | rfl | (repeat rw [ld_get_n (by omega)])) (fun _ _ _ => by first | rfl | (repeat rw [ld_get_n (by omega)])), r5.cg r3.1 (fun _ _ _ => by first | rfl | (repeat rw [ld_get_n (by omega)])) (fun _ _ _ => by first | rfl | (repeat rw [ld_get_n (by omega)])), r6.cg r4.1 (fun _ _ _ => by first | rfl | (repeat rw [ld_get_n (by omega)])) (fun _ _ _ => by first | rfl | (repeat rw [ld_get_n (by omega)])), r7.cg (Nat.le_refl _) (Nat.le_refl _) (Nat.le_refl _) (fun _ _ _ => by first | rfl | (repeat rw [ld_get_n (by omega)])) (fun _ _ _ => by first | rfl | (repeat rw [ld_get_n (by omega)]))⟩
    · simp [kX3_setLatest, h1, ld_bx, hg, hfb, nI_clamp (show j < 2147483648 by omega), hgb, ld_ck]
    · rcases g5 with q | q <;> rcases hf with rfl | rfl <;> simp [kX4_setLatest, kX4_setLatest_13, kX4_setLatest_40, kX4_setLatest_55, h2, ld_bd, ld_get, hg, ld_ck, nI_clamp (show j < 2147483648 by omega), g6, q, ld_b]
    · refine ⟨by simpa [ld_get] using g3, fun c hc => ?_⟩
      have := g4 c hc
      by_cases e : c = j
      · subst e
        simp [ld_get]
        exact ⟨hf, this.2.2⟩
      · simp [ld_get, e]
        exact this
  · exact lr_S.no h 0 (by decide) (by simp [kX3_setLatest, h1, ld_bx]) (by simp [kX4_setLatest, kX4_setLatest_13, h2, ld_bd, ld_get, lr_c1, ld_ck, ld_b])
theorem op_addLamp {T : Nat} {D M : ld_M} (h : lr_T T D M) (a g : Int32) : lr_S T D M (kX3_addLamp D a g) (kX4_addLamp M a g) (lr_c2 0 1) := by
  rcases p_kind D M a g with ⟨h1, h2⟩ | ⟨h1, h2⟩
  · have h' := h
    obtain ⟨L, C0, C1, t, r0, ht, r1, r2, r3, r4, r5, r6, r7⟩ := h
    obtain ⟨g1, g2, g3, g4, g5⟩ := r1
    by_cases hL : L = 20
    · subst hL
      exact lr_S.no h' 1 (by decide) (by simp [kX3_addLamp, h1, ld_bx, kX2_isFull, g2, kX2_isFull_14, ld_bd, ld_ck, ld_b, show ¬ (nI 20 < (20 : Int32)) by decide]) (by simp [kX4_addLamp, h2, ld_bd, g3, kX4_addLamp_27, ld_get, lr_c2, show nI 20 = (20 : Int32) by decide])
    · have hlt : L < 20 := by omega
      have e1 : nI L < (20 : Int32) := nI_lt (b := 20) hlt (by omega)
      have e2 : ¬ nI L = (20 : Int32) := fun q => hL ((nI_eq (b := 20) (by omega) (by omega)).mp q)
      have hg := ld_gn hlt (show 20 < 2147483648 by omega)
      have hc := nI_clamp (show L < 2147483648 by omega)
      refine lr_S.ok (nI L) (ld_up (ld_up (ld_up D 3 3 (nI (L + 1))) 4 L a) 5 L g) (ld_up (ld_up (ld_up (ld_up M 67 22 0) 68 L a) 69 L g) 67 0 (nI (L + 1))) ?_ ?_ (fun _ _ => by first | rfl | (repeat rw [ld_up_n (by omega)])) (fun _ _ => by first | rfl | (repeat rw [ld_up_n (by omega)])) (by simp [ld_get]) ⟨L + 1, C0, C1, t, r0, by simp [ld_get, ht], ?_, r2.cg (fun _ _ _ => by first | rfl | (repeat rw [ld_get_n (by omega)])) (fun _ _ _ => by first | rfl | (repeat rw [ld_get_n (by omega)])), r3.cg (fun _ _ _ => by first | rfl | (repeat rw [ld_get_n (by omega)])) (fun _ _ _ => by first | rfl | (repeat rw [ld_get_n (by omega)])), r4.cg (fun _ _ _ => by first | rfl | (repeat rw [ld_get_n (by omega)])) (fun _ _ _ => by first | rfl | (repeat rw [ld_get_n (by omega)])), r5.cg r3.1 (fun _ _ _ => by first | rfl | (repeat rw [ld_get_n (by omega)])) (fun _ _ _ => by first | rfl | (repeat rw [ld_get_n (by omega)])), r6.cg r4.1 (fun _ _ _ => by first | rfl | (repeat rw [ld_get_n (by omega)])) (fun _ _ _ => by first | rfl | (repeat rw [ld_get_n (by omega)])), r7.cg (by omega) (Nat.le_refl _) (Nat.le_refl _) (fun _ _ _ => by first | rfl | (repeat rw [ld_get_n (by omega)])) (fun _ _ _ => by first | rfl | (repeat rw [ld_get_n (by omega)]))⟩
      · have e4 := p_has2t (Z := ld_up D 3 3 (nI (L + 1))) (C := L + 1) (j := L) (by simp [ld_get]) (by omega) (by omega)
        simp [kX3_addLamp, h1, ld_bx, kX2_isFull, g2, e1, nI_pos (show L < 2147483648 by omega), kX2_isFull_14, ld_bd, ld_ck, ld_b, kX2_add, nI_1, kX2_setKind, e4, hg, hc, kX2_setKind_22]
      · simp [kX4_addLamp, h2, ld_bd, g3, e2, kX4_addLamp_27, ld_get, hg, hc, ld_ck, nI_1, nI_pred]
      · refine ⟨by omega, by simp [ld_get], by simp [ld_get], fun j hj => ?_, fun n j hn hj => ?_⟩
        · have := g4 j hj
          by_cases e : j = L
          · subst e; simp [ld_get]
          · simp [ld_get, e]; exact this
        · have := g5 n j hn hj
          have e9 : ∀ x, ld_up (ld_up (ld_up D 3 3 (nI (L + 1))) 4 L a) 5 L g (7 + n) x = D (7 + n) x := by
            intro x; rw [ld_get_n (by omega), ld_get_n (by omega), ld_get_n (by omega)]
          rw [e9, ld_get_n (by omega), ld_get_n (by omega), ld_get_n (by omega), ld_get_n (by omega)]
          exact this
  · exact lr_S.no h 0 (by decide) (by simp [kX3_addLamp, h1, ld_bx]) (by simp [kX4_addLamp, kX4_addLamp_27, h2, ld_bd, ld_get, lr_c2])
theorem op_addCueL {T : Nat} {D M : ld_M} (h : lr_T T D M) {l : Nat} (hl : l < 2) (d f w : Int32) (hw : w = 0 ∨ w = 1) : lr_S T D M (kX3_addCue D (nI l) d f w) (kX4_addCue M (nI l) d f w) (lr_c2 0 1) := by
  obtain ⟨q1, q2⟩ := p_liT D M hl
  rcases p_tenths D M d with ⟨h1, h2, dd, hd, rfl⟩ | ⟨h1, h2⟩
  · rcases p_tenths D M f with ⟨h3, h4, ff, hf, rfl⟩ | ⟨h3, h4⟩
    · obtain ⟨L, t, C, r0, ht, r1, r2, r3, r4, r5⟩ := h.V
      obtain ⟨g1, g2, g3, g4, g5⟩ := r3 l hl
      have k4 := r4 l hl
      have cl : (nI l).toNatClampNeg = l := nI_clamp (by omega)
      have gl := ld_gn hl (show 2 < 2147483648 by omega)
      have hcu := ld_cuL hl
      obtain ⟨b, hb⟩ : ∃ b, b = 11 + 17 * l := ⟨_, rfl⟩
      rw [← hb] at hcu g2 g4 g5 k4
      by_cases hC : C l = 10
      · rw [hC] at g2 g3
        refine lr_S.no2 h 1 (by decide) (ld_up (ld_up M 67 22 0) 67 22 2) ?_ ?_ (fun _ _ _ => by first | rfl | (repeat rw [ld_get_n (by omega)])) (by simp [ld_get, lr_c2])
        · simp [kX3_addCue, q1, h1, h3, ld_bx, hcu, kX0_isFull, g2, kX0_isFull_14, ld_bd, ld_ck, ld_b, show ¬ (nI 10 < (10 : Int32)) by decide]
        · simp [kX4_addCue, q2, h2, h4, ld_bd, g3, kX4_addCue_33, kX4_fails, ld_get, ld_ck, gl, cl, show nI 10 = (10 : Int32) by decide]
      · have hlt : C l < 10 := by omega
        have e1 : nI (C l) < (10 : Int32) := nI_lt (b := 10) hlt (by omega)
        have e2 : ¬ nI (C l) = (10 : Int32) := fun q => hC ((nI_eq (b := 10) (by omega) (by omega)).mp q)
        have hg := ld_gn hlt (show 10 < 2147483648 by omega)
        have hg20 := ld_gn (show 10 * l + C l < 20 by omega) (show 20 < 2147483648 by omega)
        have hc := nI_clamp (show C l < 2147483648 by omega)
        have hc20 := nI_clamp (show 10 * l + C l < 2147483648 by omega)
        have hwb : ld_b w = true := by rcases hw with rfl | rfl <;> rfl
        have hle := lr_ule (C := C) (l := l) (v := C l + 1) (by omega)
        refine lr_S.ok (nI (C l)) (ld_up (ld_up (ld_up (ld_up D b 6 (nI (C l + 1))) (b + 1) (C l) (nI dd)) (b + 2) (C l) (nI ff)) (b + 3) (C l) w) (ld_up (ld_up (ld_up (ld_up (ld_up M 67 22 0) 74 (10 * l + C l) (nI dd)) 75 (10 * l + C l) (nI ff)) 76 (10 * l + C l) w) 73 l (nI (C l + 1))) ?_ ?_ (fun _ _ => by first | rfl | (repeat rw [ld_up_n (by omega)])) (fun _ _ => by first | rfl | (repeat rw [ld_up_n (by omega)])) (by simp [ld_get]) (lr_V.T (L := L) (t := t) (C := lr_u C l (C l + 1)) (ts := fun _ => t) ⟨r0, by simp [ld_get, ht], r1.cg (fun _ _ _ => by first | rfl | (repeat rw [ld_get_n (by omega)])) (fun _ _ _ => by first | rfl | (repeat rw [ld_get_n (by omega)])), r2.cg (fun _ _ _ => by first | rfl | (repeat rw [ld_get_n (by omega)])) (fun _ _ _ => by first | rfl | (repeat rw [ld_get_n (by omega)])), fun l' hl' => ?_, fun l' hl' => ?_, r5.cg (Nat.le_refl _) (hle 0) (hle 1) (fun _ _ _ => by first | rfl | (repeat rw [ld_get_n (by omega)])) (fun _ _ _ => by first | rfl | (repeat rw [ld_get_n (by omega)]))⟩ rfl rfl)
        · simp [kX3_addCue, q1, h1, h3, ld_bx, hcu, kX0_isFull, g2, kX0_isFull_14, e1, nI_pos (show C l < 2147483648 by omega), ld_bd, ld_ck, ld_b, kX0_add, hg, hc, nI_1, hw]
        · rcases hw with rfl | rfl <;> simp [kX4_addCue, q2, h2, h4, ld_bd, g3, e2, kX4_addCue_33, kX4_addCue_107, ld_get, ld_ck, gl, cl, ix10, hg20, hc20, nI_1, nI_pred]
        · by_cases el : l' = l
          · subst el
            rw [← hb, lr_us]
            refine ⟨by omega, by simp [ld_get], by simp [ld_get], fun q hq => ?_, fun q c hq hc9 => ?_⟩
            · obtain ⟨⟨d9, f9, i1, i2, i3, i4, i5, i6⟩, i7, i8⟩ := g4 q hq
              by_cases e : q = C l'
              · subst e
                refine ⟨⟨dd, ff, hd, hf, by simp [ld_get], by simp [ld_get], by simp [ld_get], by simp [ld_get]⟩, by simp [ld_get], by simp [ld_get]; exact hw⟩
              · refine ⟨⟨d9, f9, i1, i2, by simp [ld_get, e]; exact i3, by simp [ld_get, e]; exact i4, by simp [ld_get, e]; exact i5, by simp [ld_get, e]; exact i6⟩, by simp [ld_get, e]; exact i7, by simp [ld_get, e]; exact i8⟩
            · have := g5 q c hq hc9
              have e9 : ∀ x, ld_up (ld_up (ld_up (ld_up D b 6 (nI (C l' + 1))) (b + 1) (C l') (nI dd)) (b + 2) (C l') (nI ff)) (b + 3) (C l') w (b + 7 + q) x = D (b + 7 + q) x := by
                intro x; rw [ld_get_n (by omega), ld_get_n (by omega), ld_get_n (by omega), ld_get_n (by omega)]
              rw [e9, ld_get_n (by omega), ld_get_n (by omega), ld_get_n (by omega), ld_get_n (by omega), ld_get_n (by omega)]
              exact this
          · rw [lr_un el]
            exact (r3 l' hl').cg (fun _ _ _ => by first | rfl | (repeat rw [ld_get_n (by omega)])) (fun _ _ _ => by first | rfl | (repeat rw [ld_get_n (by omega)]))
        · by_cases el : l' = l
          · subst el
            rw [← hb, lr_us]
            rcases k4 with ⟨k1, k2, k3⟩ | ⟨q, s, e, d, f, hq, k1, k2, k3, k4, k5, k6, k7, k8, k9, k10, k11, k12, k13⟩
            · refine Or.inl ⟨by simp [ld_get, k1], by simp [ld_get, k2], fun c hc9 => ?_⟩
              have := k3 c hc9
              simpa [ld_get] using this
            · have eq : ¬ q = C l' := by omega
              refine Or.inr ⟨q, s, e, d, f, by omega, by simp [ld_get, k1], by simp [ld_get, k2], by simp [ld_get, k3], k4, by simp [ld_get, k5], by simp [ld_get, eq]; exact k6, by simp [ld_get, eq]; exact k7, by simp [ld_get, eq]; exact k8, by simp [ld_get, eq]; exact k9, k10, k11, k12, fun c hc9 => ?_⟩
              have := k13 c hc9
              simpa [ld_get] using this
          · rw [lr_un el]
            exact (r4 l' hl').cg (r3 l' hl').1 (fun _ _ _ => by first | rfl | (repeat rw [ld_get_n (by omega)])) (fun _ _ _ => by first | rfl | (repeat rw [ld_get_n (by omega)]))
    · refine lr_S.no h 0 (by decide) (by simp [kX3_addCue, q1, h1, h3, ld_bx]) (by simp [kX4_addCue, q2, h2, h4, ld_bd, kX4_addCue_28, kX4_addCue_33, ld_get, lr_c2])
  · exact lr_S.no h 0 (by decide) (by simp [kX3_addCue, q1, h1, ld_bx]) (by simp [kX4_addCue, q2, h2, ld_bd, kX4_addCue_28, kX4_addCue_33, ld_get, lr_c2])
theorem op_addCue {T : Nat} {D M : ld_M} (h : lr_T T D M) (a d f w : Int32) (hw : w = 0 ∨ w = 1) : lr_S T D M (kX3_addCue D a d f w) (kX4_addCue M a d f w) (lr_c2 0 1) := by
  rcases p_liL D M a with ⟨l, hl, rfl⟩ | ⟨h1, h2⟩
  · exact op_addCueL h hl d f w hw
  · exact lr_S.no h 0 (by decide) (by simp [kX3_addCue, h1, ld_bx]) (by simp [kX4_addCue, h2, ld_bd, kX4_addCue_28, kX4_addCue_33, ld_get, lr_c2])
