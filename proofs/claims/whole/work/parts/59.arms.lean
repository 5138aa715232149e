theorem ld_cmp (x : Int64) : lg_cmp x x = 0 := by
  unfold lg_cmp
  simp
theorem lr_T.up {T T' : Nat} {D M : ld_M} (h : lr_T T D M) (hT : T ≤ T') : lr_T T' D M := h.cg hT (fun _ _ => rfl) (fun _ _ _ _ _ => rfl)
theorem lr_T.two {T : Nat} {Z : ld_M} (h : lr_T T Z Z) {D : ld_M} (hD : lr_FD Z D) (x : Int32) (hD2 : lr_T T D Z) : lr_T T (ld_up D 86 0 x) (ld_up D 86 0 x) := hD2.cg (Nat.le_refl _) (fun i hi => by rw [ld_up_n (by omega)]) (fun i j h1 h2 _ => by rw [ld_up_n (by omega), hD i h1])
theorem lr_G_addLamp {T : Nat} {Z : ld_M} (hR : lr_T T Z Z) (hT : T + 1000 < 2000000000) (a b : Int32) : lr_G T (kL_addLamp Z a b) (fun M => kX4_addLamp M a b) :=
  lr_glue (d := fun D => kX3_addLamp D a b) (code := lr_c2 0 1) (hf := (fun e9 => if e9 = 0 then (some ((1 : Int32), Z)) else if e9 = 1 then (some (2, Z)) else none)) (fun M hM => op_addLamp hM a b) hR lr_h2
theorem lr_a_120 {T L : Nat} {xs : Nat → Int32} {k : ld_M → Int32 → Option Int32} {Z : ld_M} {v : Int32} (hR : lr_T T Z Z) (hT : T + 1000 < 2000000000) (h1 : ld_g (v + 1) L = true) (h2 : ld_g (v + 2) L = true) (h3 : ld_g (v + 3) L = true) (h4 : ld_g (v + 4) L = true) : ∃ Z2, lr_T (T + 1000) Z2 Z2 ∧ kL_law_120 L xs k Z v = k Z2 (v + 5) := by
  obtain ⟨c, Z1, bv, Z2, e1, e2, e3, e4, e5⟩ := lr_G_addLamp hR hT (xs (v + 1).toNatClampNeg) (xs (v + 2).toNatClampNeg)
  have e2 : kX4_addLamp Z1 (xs (v + 1).toNatClampNeg) (xs (v + 2).toNatClampNeg) = some (bv, Z2) := e2
  refine ⟨Z2, e5.up (by omega), ?_⟩
  have g0 : ld_g 0 1 = true := by decide
  by_cases hc : c = 0
  · have e6 := e4 hc
    subst hc
    simp only [kL_law_120, h1, h2, ld_ck_t, e1, e2, ld_bd, kX4_thrown, e3, g0, ld_c0, e6, ld_cmp, if_true, kL_law_185, kL_law_1264]
  · simp only [kL_law_120, h1, h2, ld_ck_t, e1, e2, ld_bd, kX4_thrown, e3, if_true, if_neg hc, kL_law_185, kL_law_1264]
theorem lr_G_hang {T : Nat} {Z : ld_M} (hR : lr_T T Z Z) (hT : T + 1000 < 2000000000) (a b c : Int32) : lr_G T (kL_hang Z a b c) (fun M => kX4_hang M a b c) :=
  lr_glue (d := fun D => kX3_hang D a b c) (code := lr_c2 2 0) (hf := (fun e9 => if e9 = 2 then (some ((1 : Int32), Z)) else if e9 = 0 then (some (2, Z)) else none)) (fun M hM => op_hang hM a b c) hR lr_h2
theorem lr_a_248 {T L : Nat} {xs : Nat → Int32} {k : ld_M → Int32 → Option Int32} {Z : ld_M} {v : Int32} (hR : lr_T T Z Z) (hT : T + 1000 < 2000000000) (h1 : ld_g (v + 1) L = true) (h2 : ld_g (v + 2) L = true) (h3 : ld_g (v + 3) L = true) (h4 : ld_g (v + 4) L = true) : ∃ Z2, lr_T (T + 1000) Z2 Z2 ∧ kL_law_248 L xs k Z v = k Z2 (v + 5) := by
  obtain ⟨c, Z1, bv, Z2, e1, e2, e3, e4, e5⟩ := lr_G_hang hR hT (xs (v + 1).toNatClampNeg) (xs (v + 2).toNatClampNeg) (xs (v + 3).toNatClampNeg)
  have e2 : kX4_hang Z1 (xs (v + 1).toNatClampNeg) (xs (v + 2).toNatClampNeg) (xs (v + 3).toNatClampNeg) = some (bv, Z2) := e2
  refine ⟨Z2, e5.up (by omega), ?_⟩
  have g0 : ld_g 0 1 = true := by decide
  by_cases hc : c = 0
  · have e6 := e4 hc
    subst hc
    simp only [kL_law_248, h1, h2, h3, ld_ck_t, e1, e2, ld_bd, kX4_thrown, e3, g0, ld_c0, e6, ld_cmp, if_true, kL_law_325, kL_law_1264]
  · simp only [kL_law_248, h1, h2, h3, ld_ck_t, e1, e2, ld_bd, kX4_thrown, e3, if_true, if_neg hc, kL_law_325, kL_law_1264]
theorem lr_G_setNight {T : Nat} {Z : ld_M} (hR : lr_T T Z Z) (hT : T + 1000 < 2000000000) (a : Int32) : lr_G T (kL_setNight Z a) (fun M => kX4_setNight M a) :=
  lr_glue (d := fun D => kX3_setNight D a) (code := lr_c1 0) (hf := (fun e9 => if e9 = 0 then (some ((1 : Int32), Z)) else none)) (fun M hM => op_setNight hM a) hR lr_h1
theorem lr_a_328 {T L : Nat} {xs : Nat → Int32} {k : ld_M → Int32 → Option Int32} {Z : ld_M} {v : Int32} (hR : lr_T T Z Z) (hT : T + 1000 < 2000000000) (h1 : ld_g (v + 1) L = true) (h2 : ld_g (v + 2) L = true) (h3 : ld_g (v + 3) L = true) (h4 : ld_g (v + 4) L = true) : ∃ Z2, lr_T (T + 1000) Z2 Z2 ∧ kL_law_328 L xs k Z v = k Z2 (v + 5) := by
  obtain ⟨c, Z1, bv, Z2, e1, e2, e3, e4, e5⟩ := lr_G_setNight hR hT (xs (v + 1).toNatClampNeg)
  have e2 : kX4_setNight Z1 (xs (v + 1).toNatClampNeg) = some (bv, Z2) := e2
  refine ⟨Z2, e5.up (by omega), ?_⟩
  have g0 : ld_g 0 1 = true := by decide
  by_cases hc : c = 0
  · have e6 := e4 hc
    subst hc
    simp only [kL_law_328, h1, ld_ck_t, e1, e2, ld_bd, kX4_thrown, e3, g0, ld_c0, e6, ld_cmp, if_true, kL_law_381, kL_law_1264]
  · simp only [kL_law_328, h1, ld_ck_t, e1, e2, ld_bd, kX4_thrown, e3, if_true, if_neg hc, kL_law_381, kL_law_1264]
theorem lr_G_setLevel {T : Nat} {Z : ld_M} (hR : lr_T T Z Z) (hT : T + 1000 < 2000000000) (a b c d : Int32) : lr_G T (kL_setLevel Z a b c d) (fun M => kX4_setLevel M a b c d) :=
  lr_glue (d := fun D => kX3_setLevel D a b c d) (code := lr_c2 0 2) (hf := (fun e9 => if e9 = 0 then (some ((1 : Int32), Z)) else if e9 = 2 then (some (2, Z)) else none)) (fun M hM => op_setLevel hM a b c d) hR lr_h2
theorem lr_a_583 {T L : Nat} {xs : Nat → Int32} {k : ld_M → Int32 → Option Int32} {Z : ld_M} {v : Int32} (hR : lr_T T Z Z) (hT : T + 1000 < 2000000000) (h1 : ld_g (v + 1) L = true) (h2 : ld_g (v + 2) L = true) (h3 : ld_g (v + 3) L = true) (h4 : ld_g (v + 4) L = true) : ∃ Z2, lr_T (T + 1000) Z2 Z2 ∧ kL_law_583 L xs k Z v = k Z2 (v + 5) := by
  obtain ⟨c, Z1, bv, Z2, e1, e2, e3, e4, e5⟩ := lr_G_setLevel hR hT (xs (v + 1).toNatClampNeg) (xs (v + 2).toNatClampNeg) (xs (v + 3).toNatClampNeg) (xs (v + 4).toNatClampNeg)
  have e2 : kX4_setLevel Z1 (xs (v + 1).toNatClampNeg) (xs (v + 2).toNatClampNeg) (xs (v + 3).toNatClampNeg) (xs (v + 4).toNatClampNeg) = some (bv, Z2) := e2
  refine ⟨Z2, e5.up (by omega), ?_⟩
  have g0 : ld_g 0 1 = true := by decide
  by_cases hc : c = 0
  · have e6 := e4 hc
    subst hc
    simp only [kL_law_583, h1, h2, h3, h4, ld_ck_t, e1, e2, ld_bd, kX4_thrown, e3, g0, ld_c0, e6, ld_cmp, if_true, kL_law_672, kL_law_1264]
  · simp only [kL_law_583, h1, h2, h3, h4, ld_ck_t, e1, e2, ld_bd, kX4_thrown, e3, if_true, if_neg hc, kL_law_672, kL_law_1264]
theorem lr_G_undo {T : Nat} {Z : ld_M} (hR : lr_T T Z Z) (hT : T + 1000 < 2000000000) : lr_G T (kL_undo Z) (fun M => kX4_undo M) :=
  lr_glue (d := fun D => kX3_undo D) (code := lr_c1 1) (hf := (fun e9 => if e9 = 1 then (some ((1 : Int32), Z)) else none)) (fun M hM => op_undo hM) hR lr_h1
theorem lr_a_675 {T L : Nat} {xs : Nat → Int32} {k : ld_M → Int32 → Option Int32} {Z : ld_M} {v : Int32} (hR : lr_T T Z Z) (hT : T + 1000 < 2000000000) (h1 : ld_g (v + 1) L = true) (h2 : ld_g (v + 2) L = true) (h3 : ld_g (v + 3) L = true) (h4 : ld_g (v + 4) L = true) : ∃ Z2, lr_T (T + 1000) Z2 Z2 ∧ kL_law_675 L xs k Z v = k Z2 (v + 5) := by
  obtain ⟨c, Z1, bv, Z2, e1, e2, e3, e4, e5⟩ := lr_G_undo hR hT 
  have e2 : kX4_undo Z1  = some (bv, Z2) := e2
  refine ⟨Z2, e5.up (by omega), ?_⟩
  have g0 : ld_g 0 1 = true := by decide
  by_cases hc : c = 0
  · have e6 := e4 hc
    subst hc
    simp only [kL_law_675, ld_ck_t, e1, e2, ld_bd, kX4_thrown, e3, g0, ld_c0, e6, ld_cmp, if_true, kL_law_716, kL_law_1264]
  · simp only [kL_law_675, ld_ck_t, e1, e2, ld_bd, kX4_thrown, e3, if_true, if_neg hc, kL_law_716, kL_law_1264]
theorem lr_G_go {T : Nat} {Z : ld_M} (hR : lr_T T Z Z) (hT : T + 1000 < 2000000000) (a b : Int32) : lr_G T (kL_go Z a b) (fun M => kX4_go M a b) :=
  lr_glue (d := fun D => kX3_go D a b) (code := lr_c2 0 2) (hf := (fun e9 => if e9 = 0 then (some ((1 : Int32), Z)) else if e9 = 2 then (some (2, Z)) else none)) (fun M hM => op_go hM (by omega) a b) hR lr_h2
theorem lr_a_719 {T L : Nat} {xs : Nat → Int32} {k : ld_M → Int32 → Option Int32} {Z : ld_M} {v : Int32} (hR : lr_T T Z Z) (hT : T + 1000 < 2000000000) (h1 : ld_g (v + 1) L = true) (h2 : ld_g (v + 2) L = true) (h3 : ld_g (v + 3) L = true) (h4 : ld_g (v + 4) L = true) : ∃ Z2, lr_T (T + 1000) Z2 Z2 ∧ kL_law_719 L xs k Z v = k Z2 (v + 5) := by
  obtain ⟨c, Z1, bv, Z2, e1, e2, e3, e4, e5⟩ := lr_G_go hR hT (xs (v + 1).toNatClampNeg) (xs (v + 2).toNatClampNeg)
  have e2 : kX4_go Z1 (xs (v + 1).toNatClampNeg) (xs (v + 2).toNatClampNeg) = some (bv, Z2) := e2
  refine ⟨Z2, e5.up (by omega), ?_⟩
  have g0 : ld_g 0 1 = true := by decide
  by_cases hc : c = 0
  · have e6 := e4 hc
    subst hc
    simp only [kL_law_719, h1, h2, ld_ck_t, e1, e2, ld_bd, kX4_thrown, e3, g0, ld_c0, e6, ld_cmp, if_true, kL_law_784, kL_law_1264]
  · simp only [kL_law_719, h1, h2, ld_ck_t, e1, e2, ld_bd, kX4_thrown, e3, if_true, if_neg hc, kL_law_784, kL_law_1264]
theorem lr_G_pass {T : Nat} {Z : ld_M} (hR : lr_T T Z Z) (hT : T + 1000 < 2000000000) (a : Int32) : lr_G (T + 1000) (kL_pass Z a) (fun M => kX4_pass M a) :=
  lr_glue (d := fun D => kX3_pass D a) (code := lr_c1 0) (hf := (fun e9 => if e9 = 0 then (some ((1 : Int32), Z)) else none)) (fun M hM => op_pass hM (by omega) a) hR lr_h1
theorem lr_a_787 {T L : Nat} {xs : Nat → Int32} {k : ld_M → Int32 → Option Int32} {Z : ld_M} {v : Int32} (hR : lr_T T Z Z) (hT : T + 1000 < 2000000000) (h1 : ld_g (v + 1) L = true) (h2 : ld_g (v + 2) L = true) (h3 : ld_g (v + 3) L = true) (h4 : ld_g (v + 4) L = true) : ∃ Z2, lr_T (T + 1000) Z2 Z2 ∧ kL_law_787 L xs k Z v = k Z2 (v + 5) := by
  obtain ⟨c, Z1, bv, Z2, e1, e2, e3, e4, e5⟩ := lr_G_pass hR hT (xs (v + 1).toNatClampNeg)
  have e2 : kX4_pass Z1 (xs (v + 1).toNatClampNeg) = some (bv, Z2) := e2
  refine ⟨Z2, e5.up (by omega), ?_⟩
  have g0 : ld_g 0 1 = true := by decide
  by_cases hc : c = 0
  · have e6 := e4 hc
    subst hc
    simp only [kL_law_787, h1, ld_ck_t, e1, e2, ld_bd, kX4_thrown, e3, g0, ld_c0, e6, ld_cmp, if_true, kL_law_840, kL_law_1264]
  · simp only [kL_law_787, h1, ld_ck_t, e1, e2, ld_bd, kX4_thrown, e3, if_true, if_neg hc, kL_law_840, kL_law_1264]
theorem lr_G_running {T : Nat} {Z : ld_M} (hR : lr_T T Z Z) (hT : T + 1000 < 2000000000) (a : Int32) : lr_G T (kL_running Z a) (fun M => kX4_running M a) :=
  lr_glue1 (d := fun D => kX3_running D a) (code := lr_c1 0) (hf := (fun e9 => if e9 = 0 then (some ((1 : Int32), Z)) else none)) (fun M hM => op_running hM a) hR lr_h1
theorem lr_a_843 {T L : Nat} {xs : Nat → Int32} {k : ld_M → Int32 → Option Int32} {Z : ld_M} {v : Int32} (hR : lr_T T Z Z) (hT : T + 1000 < 2000000000) (h1 : ld_g (v + 1) L = true) (h2 : ld_g (v + 2) L = true) (h3 : ld_g (v + 3) L = true) (h4 : ld_g (v + 4) L = true) : ∃ Z2, lr_T (T + 1000) Z2 Z2 ∧ kL_law_843 L xs k Z v = k Z2 (v + 5) := by
  obtain ⟨c, Z1, bv, Z2, e1, e2, e3, e4, e5⟩ := lr_G_running hR hT (xs (v + 1).toNatClampNeg)
  have e2 : kX4_running Z1 (xs (v + 1).toNatClampNeg) = some (bv, Z2) := e2
  refine ⟨Z2, e5.up (by omega), ?_⟩
  have g0 : ld_g 0 1 = true := by decide
  by_cases hc : c = 0
  · have e6 := e4 hc
    subst hc
    simp only [kL_law_843, h1, ld_ck_t, e1, e2, ld_bd, kX4_thrown, e3, g0, ld_c0, e6, ld_cmp, if_true, kL_law_896, kL_law_1264]
  · simp only [kL_law_843, h1, ld_ck_t, e1, e2, ld_bd, kX4_thrown, e3, if_true, if_neg hc, kL_law_896, kL_law_1264]
theorem lr_G_level {T : Nat} {Z : ld_M} (hR : lr_T T Z Z) (hT : T + 1000 < 2000000000) (a b : Int32) : lr_G T (kL_level Z a b) (fun M => kX4_level M a b) :=
  lr_glue1 (d := fun D => kX3_level D a b) (code := lr_c1 0) (hf := (fun e9 => if e9 = 0 then (some ((1 : Int32), Z)) else none)) (fun M hM => op_level hM (by omega) a b) hR lr_h1
theorem lr_a_899 {T L : Nat} {xs : Nat → Int32} {k : ld_M → Int32 → Option Int32} {Z : ld_M} {v : Int32} (hR : lr_T T Z Z) (hT : T + 1000 < 2000000000) (h1 : ld_g (v + 1) L = true) (h2 : ld_g (v + 2) L = true) (h3 : ld_g (v + 3) L = true) (h4 : ld_g (v + 4) L = true) : ∃ Z2, lr_T (T + 1000) Z2 Z2 ∧ kL_law_899 L xs k Z v = k Z2 (v + 5) := by
  obtain ⟨c, Z1, bv, Z2, e1, e2, e3, e4, e5⟩ := lr_G_level hR hT (xs (v + 1).toNatClampNeg) (xs (v + 2).toNatClampNeg)
  have e2 : kX4_level Z1 (xs (v + 1).toNatClampNeg) (xs (v + 2).toNatClampNeg) = some (bv, Z2) := e2
  refine ⟨Z2, e5.up (by omega), ?_⟩
  have g0 : ld_g 0 1 = true := by decide
  by_cases hc : c = 0
  · have e6 := e4 hc
    subst hc
    simp only [kL_law_899, h1, h2, ld_ck_t, e1, e2, ld_bd, kX4_thrown, e3, g0, ld_c0, e6, ld_cmp, if_true, kL_law_964, kL_law_1264]
  · simp only [kL_law_899, h1, h2, ld_ck_t, e1, e2, ld_bd, kX4_thrown, e3, if_true, if_neg hc, kL_law_964, kL_law_1264]
theorem lr_G_merged {T : Nat} {Z : ld_M} (hR : lr_T T Z Z) (hT : T + 1000 < 2000000000) (a : Int32) : lr_G T (kL_merged Z a) (fun M => kX4_merged M a) :=
  lr_glue1 (d := fun D => kX3_merged D a) (code := lr_c1 0) (hf := (fun e9 => if e9 = 0 then (some ((1 : Int32), Z)) else none)) (fun M hM => op_merged hM (by omega) a) hR lr_h1
theorem lr_a_967 {T L : Nat} {xs : Nat → Int32} {k : ld_M → Int32 → Option Int32} {Z : ld_M} {v : Int32} (hR : lr_T T Z Z) (hT : T + 1000 < 2000000000) (h1 : ld_g (v + 1) L = true) (h2 : ld_g (v + 2) L = true) (h3 : ld_g (v + 3) L = true) (h4 : ld_g (v + 4) L = true) : ∃ Z2, lr_T (T + 1000) Z2 Z2 ∧ kL_law_967 L xs k Z v = k Z2 (v + 5) := by
  obtain ⟨c, Z1, bv, Z2, e1, e2, e3, e4, e5⟩ := lr_G_merged hR hT (xs (v + 1).toNatClampNeg)
  have e2 : kX4_merged Z1 (xs (v + 1).toNatClampNeg) = some (bv, Z2) := e2
  refine ⟨Z2, e5.up (by omega), ?_⟩
  have g0 : ld_g 0 1 = true := by decide
  by_cases hc : c = 0
  · have e6 := e4 hc
    subst hc
    simp only [kL_law_967, h1, ld_ck_t, e1, e2, ld_bd, kX4_thrown, e3, g0, ld_c0, e6, ld_cmp, if_true, kL_law_1020, kL_law_1264]
  · simp only [kL_law_967, h1, ld_ck_t, e1, e2, ld_bd, kX4_thrown, e3, if_true, if_neg hc, kL_law_1020, kL_law_1264]
theorem lr_G_light {T : Nat} {Z : ld_M} (hR : lr_T T Z Z) (hT : T + 1000 < 2000000000) (a : Int32) : lr_G T (kL_light Z a) (fun M => kX4_light M a) :=
  lr_glue1 (d := fun D => kX3_light D a) (code := lr_c1 0) (hf := (fun e9 => if e9 = 0 then (some ((1 : Int32), Z)) else none)) (fun M hM => op_light hM (by omega) a) hR lr_h1
theorem lr_a_1023 {T L : Nat} {xs : Nat → Int32} {k : ld_M → Int32 → Option Int32} {Z : ld_M} {v : Int32} (hR : lr_T T Z Z) (hT : T + 1000 < 2000000000) (h1 : ld_g (v + 1) L = true) (h2 : ld_g (v + 2) L = true) (h3 : ld_g (v + 3) L = true) (h4 : ld_g (v + 4) L = true) : ∃ Z2, lr_T (T + 1000) Z2 Z2 ∧ kL_law_1023 L xs k Z v = k Z2 (v + 5) := by
  obtain ⟨c, Z1, bv, Z2, e1, e2, e3, e4, e5⟩ := lr_G_light hR hT (xs (v + 1).toNatClampNeg)
  have e2 : kX4_light Z1 (xs (v + 1).toNatClampNeg) = some (bv, Z2) := e2
  refine ⟨Z2, e5.up (by omega), ?_⟩
  have g0 : ld_g 0 1 = true := by decide
  by_cases hc : c = 0
  · have e6 := e4 hc
    subst hc
    simp only [kL_law_1023, h1, ld_ck_t, e1, e2, ld_bd, kX4_thrown, e3, g0, ld_c0, e6, ld_cmp, if_true, kL_law_1076, kL_law_1264]
  · simp only [kL_law_1023, h1, ld_ck_t, e1, e2, ld_bd, kX4_thrown, e3, if_true, if_neg hc, kL_law_1076, kL_law_1264]
theorem lr_G_preview {T : Nat} {Z : ld_M} (hR : lr_T T Z Z) (hT : T + 1000 < 2000000000) (a b c : Int32) : lr_G T (kL_preview Z a b c) (fun M => kX4_preview M a b c) :=
  lr_glue1 (d := fun D => kX3_preview D a b c) (code := lr_c2 0 2) (hf := (fun e9 => if e9 = 0 then (some ((1 : Int32), Z)) else if e9 = 2 then (some (2, Z)) else none)) (fun M hM => op_preview hM a b c) hR lr_h2
theorem lr_a_1092 {T L : Nat} {xs : Nat → Int32} {k : ld_M → Int32 → Option Int32} {Z : ld_M} {v : Int32} (hR : lr_T T Z Z) (hT : T + 1000 < 2000000000) (h1 : ld_g (v + 1) L = true) (h2 : ld_g (v + 2) L = true) (h3 : ld_g (v + 3) L = true) (h4 : ld_g (v + 4) L = true) : ∃ Z2, lr_T (T + 1000) Z2 Z2 ∧ kL_law_1092 L xs k Z v = k Z2 (v + 5) := by
  obtain ⟨c, Z1, bv, Z2, e1, e2, e3, e4, e5⟩ := lr_G_preview hR hT (xs (v + 1).toNatClampNeg) (xs (v + 2).toNatClampNeg) (xs (v + 3).toNatClampNeg)
  have e2 : kX4_preview Z1 (xs (v + 1).toNatClampNeg) (xs (v + 2).toNatClampNeg) (xs (v + 3).toNatClampNeg) = some (bv, Z2) := e2
  refine ⟨Z2, e5.up (by omega), ?_⟩
  have g0 : ld_g 0 1 = true := by decide
  by_cases hc : c = 0
  · have e6 := e4 hc
    subst hc
    simp only [kL_law_1092, h1, h2, h3, ld_ck_t, e1, e2, ld_bd, kX4_thrown, e3, g0, ld_c0, e6, ld_cmp, if_true, kL_law_1169, kL_law_1264]
  · simp only [kL_law_1092, h1, h2, h3, ld_ck_t, e1, e2, ld_bd, kX4_thrown, e3, if_true, if_neg hc, kL_law_1169, kL_law_1264]
theorem lr_G_touched {T : Nat} {Z : ld_M} (hR : lr_T T Z Z) (hT : T + 1000 < 2000000000) (a b c d : Int32) : lr_G T (kL_touched Z a b c d) (fun M => kX4_touched M a b c d) :=
  lr_glue1 (d := fun D => kX3_touched D a b c d) (code := lr_c2 2 0) (hf := (fun e9 => if e9 = 2 then (some ((1 : Int32), Z)) else if e9 = 0 then (some (2, Z)) else none)) (fun M hM => op_touched hM a b c d) hR lr_h2
theorem lr_a_1172 {T L : Nat} {xs : Nat → Int32} {k : ld_M → Int32 → Option Int32} {Z : ld_M} {v : Int32} (hR : lr_T T Z Z) (hT : T + 1000 < 2000000000) (h1 : ld_g (v + 1) L = true) (h2 : ld_g (v + 2) L = true) (h3 : ld_g (v + 3) L = true) (h4 : ld_g (v + 4) L = true) : ∃ Z2, lr_T (T + 1000) Z2 Z2 ∧ kL_law_1172 L xs k Z v = k Z2 (v + 5) := by
  obtain ⟨c, Z1, bv, Z2, e1, e2, e3, e4, e5⟩ := lr_G_touched hR hT (xs (v + 1).toNatClampNeg) (xs (v + 2).toNatClampNeg) (xs (v + 3).toNatClampNeg) (xs (v + 4).toNatClampNeg)
  have e2 : kX4_touched Z1 (xs (v + 1).toNatClampNeg) (xs (v + 2).toNatClampNeg) (xs (v + 3).toNatClampNeg) (xs (v + 4).toNatClampNeg) = some (bv, Z2) := e2
  refine ⟨Z2, e5.up (by omega), ?_⟩
  have g0 : ld_g 0 1 = true := by decide
  by_cases hc : c = 0
  · have e6 := e4 hc
    subst hc
    simp only [kL_law_1172, h1, h2, h3, h4, ld_ck_t, e1, e2, ld_bd, kX4_thrown, e3, g0, ld_c0, e6, ld_cmp, if_true, kL_law_1261, kL_law_1264]
  · simp only [kL_law_1172, h1, h2, h3, h4, ld_ck_t, e1, e2, ld_bd, kX4_thrown, e3, if_true, if_neg hc, kL_law_1261, kL_law_1264]
theorem lr_a_1079 {T L : Nat} {xs : Nat → Int32} {k : ld_M → Int32 → Option Int32} {Z : ld_M} {v : Int32} (hR : lr_T T Z Z) (hT : T + 1000 < 2000000000) : ∃ Z2, lr_T (T + 1000) Z2 Z2 ∧ kL_law_1079 L xs k Z v = k Z2 (v + 5) := by
  obtain ⟨w, e1, e2⟩ := op_allLight hR (by omega)
  refine ⟨ld_up Z 67 22 0, ((hR.thr 0).cg (by omega) (fun i hi => ld_up_n (by omega)) (fun _ _ _ _ _ => rfl)), ?_⟩
  simp only [kL_law_1079, e1, e2, ld_bd, if_true, kL_law_1264]
theorem lr_a_188 {T L : Nat} {xs : Nat → Int32} {k : ld_M → Int32 → Option Int32} {Z : ld_M} {v : Int32} (hR : lr_T T Z Z) (hT : T + 1000 < 2000000000) (h1 : ld_g (v + 1) L = true) (h2 : ld_g (v + 2) L = true) (h3 : ld_g (v + 3) L = true) : ∃ Z2, lr_T (T + 1000) Z2 Z2 ∧ kL_law_188 L xs k Z v = k Z2 (v + 5) := by
  have hS := fun M (hM : lr_T T Z M) => op_swap hM (xs (v + 1).toNatClampNeg) (xs (v + 2).toNatClampNeg) (xs (v + 3).toNatClampNeg)
  generalize ha : xs (v + 1).toNatClampNeg = a at hS
  generalize hb : xs (v + 2).toNatClampNeg = b at hS
  generalize hc : xs (v + 3).toNatClampNeg = c at hS
  have dm : ∀ rm bv M, lr_cm rm = some (bv, M) → rm = some M := by
    intro rm bv M h
    cases rm with
    | none => cases h
    | some x => cases h; rfl
  have key : ∃ y Z1 Z2, kL_swap Z a b c = some (y, Z1) ∧ kX4_swap Z1 a b c = some Z2 ∧ Z2 67 22 = y ∧ lr_T (T + 1000) Z2 Z2 := by
    obtain ⟨bv, M1, i1, hF1, i2⟩ := hS Z hR
    rcases i2 with ⟨D', hd, hFD, i3, i4⟩ | ⟨e, hd, he, i3, i4⟩
    · have hd : kX3_swap Z a b c = some (.inl D') := by
        cases q : kX3_swap Z a b c with
        | none => rw [q] at hd; cases hd
        | some x =>
          rw [q] at hd
          cases x with
          | inl x => cases hd; rfl
          | inr x => cases hd
      have hR2 : lr_T T Z D' := hR.cg (Nat.le_refl _) (fun _ _ => rfl) (fun i j h5 h6 _ => by rw [hFD i h5])
      obtain ⟨bv2, M2, g1, gF, g2⟩ := hS _ hR2
      rcases g2 with ⟨D2, gd, gFD, g3, g4⟩ | ⟨e, gd, -⟩
      · rw [hd] at gd
        cases gd
        exact ⟨0, D', M2, by unfold kL_swap; rw [hd]; rfl, dm _ _ _ g1, g3, g4.cg (by omega) (fun i hi => gF i (by omega)) (fun _ _ _ _ _ => rfl)⟩
      · rw [hd] at gd
        cases gd
    · have hd : kX3_swap Z a b c = some (.inr e) := by
        cases q : kX3_swap Z a b c with
        | none => rw [q] at hd; cases hd
        | some x =>
          rw [q] at hd
          cases x with
          | inl x => cases hd
          | inr x => cases hd; rfl
      refine ⟨lr_c2 2 0 e, Z, M1, ?_, dm _ _ _ i1, i3, i4.cg (by omega) (fun i hi => hF1 i (by omega)) (fun _ _ _ _ _ => rfl)⟩
      unfold kL_swap
      rw [hd]
      exact lr_h2 e he
  obtain ⟨y, Z1, Z2, e1, e2, e3, e4⟩ := key
  refine ⟨Z2, e4, ?_⟩
  simp only [kL_law_188, h1, h2, h3, ld_ck_t, ha, hb, hc, e1, e2, ld_bd, kX4_thrown, e3, if_true, kL_law_1264]
theorem p_latB {Z : ld_M} {a f : Int32} {x : Int32 × ld_M} (h : kX3_setLatest Z a f = some (.inl x)) : x.1 = 0 ∨ x.1 = 1 := by
  unfold kX3_setLatest at h
  rcases ld_bx_of h with ⟨y, -, h⟩ | ⟨e, -, h⟩
  · obtain ⟨-, h⟩ := ld_ck_of h
    obtain ⟨-, h⟩ := ld_ck_of h
    obtain ⟨hb, h⟩ := ld_ck_of h
    cases h
    simpa [ld_b] using hb
  · cases h
theorem p_latM {Z : ld_M} {a f : Int32} {x : Int32 × ld_M} (h : kX4_setLatest Z a f = some x) : x.1 = 0 ∨ x.1 = 1 := by
  have h55 : ∀ Z v t0 t1, kX4_setLatest_55 a f Z v t0 t1 = some x → x.1 = 0 ∨ x.1 = 1 := by
    intro Z v t0 t1 h
    unfold kX4_setLatest_55 at h
    obtain ⟨-, h⟩ := ld_ck_of h
    obtain ⟨hb, h⟩ := ld_ck_of h
    cases h
    simpa [ld_b] using hb
  have h40 : ∀ Z t0, kX4_setLatest_40 a f Z t0 = some x → x.1 = 0 ∨ x.1 = 1 := by
    intro Z t0 h
    unfold kX4_setLatest_40 at h
    split at h
    · exact h55 _ _ _ _ h
    · exact h55 _ _ _ _ h
  have h13 : ∀ t0, kX4_setLatest_13 a f Z t0 = some x → x.1 = 0 ∨ x.1 = 1 := by
    intro t0 h
    unfold kX4_setLatest_13 at h
    split at h
    · obtain ⟨-, h⟩ := ld_ck_of h
      split at h
      · exact h40 _ _ h
      · exact h40 _ _ h
    · obtain ⟨-, h⟩ := ld_ck_of h
      cases h
      exact Or.inl rfl
  unfold kX4_setLatest at h
  obtain ⟨y, -, h⟩ := ld_bd_of h
  split at h
  · exact h13 _ h
  · exact h13 _ h
theorem lr_G_setLatest {T : Nat} {Z : ld_M} (hR : lr_T T Z Z) (a f : Int32) (hf : f = 0 ∨ f = 1) : lr_G T (kL_setLatest Z a f) (fun M => kX4_setLatest M a f) := by
  have G := lr_glue (d := fun D => kX3_setLatest D a f) (m := fun M => kX4_setLatest M a f) (code := lr_c1 0) (hf := fun e9 => if e9 = 0 then (some ((1 : Int32), Z)) else none) (fun M hM => op_setLatest hM a f hf) hR lr_h1
  have e : kL_setLatest Z a f = ld_bh (kX3_setLatest Z a f) (fun x => ld_ck (ld_g 0 1) (some (0, ld_up x.2 86 (0 : Int32).toNatClampNeg x.1))) (fun e9 => if e9 = 0 then (some ((1 : Int32), Z)) else none) := by
    unfold kL_setLatest
    cases q : kX3_setLatest Z a f with
    | none => rfl
    | some x =>
      cases x with
      | inr x => rfl
      | inl x =>
        have hx := p_latB q
        show (if x.1 = 0 then kL_setLatest_16 a f x.2 0 0 else kL_setLatest_16 a f x.2 1 0) = ld_ck (ld_g 0 1) (some (0, ld_up x.2 86 (0 : Int32).toNatClampNeg x.1))
        rcases hx with hx | hx
        · rw [hx, if_pos rfl]
          rfl
        · rw [hx, if_neg (by decide)]
          rfl
  rw [e]
  exact G
theorem lr_a_384 {T L : Nat} {xs : Nat → Int32} {k : ld_M → Int32 → Option Int32} {Z : ld_M} {v : Int32} (hR : lr_T T Z Z) (hT : T + 1000 < 2000000000) (h1 : ld_g (v + 1) L = true) (h2 : ld_g (v + 2) L = true) : ∃ Z2, lr_T (T + 1000) Z2 Z2 ∧ kL_law_384 L xs k Z v = k Z2 (v + 5) := by
  have g0 : ld_g 0 1 = true := by decide
  have key : ∀ f : Int32, (f = 0 ∨ f = 1) → ∃ Z2, lr_T (T + 1000) Z2 Z2 ∧ ∃ c Z1, kL_setLatest Z (xs (v + 1).toNatClampNeg) f = some (c, Z1) ∧ kL_law_432 L xs k Z1 v c f (xs (v + 1).toNatClampNeg) = k Z2 (v + 5) := by
    intro f hf
    obtain ⟨c, Z1, bv, Z2, e1, e2, e3, e4, e5⟩ := lr_G_setLatest hR (xs (v + 1).toNatClampNeg) f hf
    have e2 : kX4_setLatest Z1 (xs (v + 1).toNatClampNeg) f = some (bv, Z2) := e2
    have hb := p_latM e2
    refine ⟨Z2, e5.up (by omega), c, Z1, e1, ?_⟩
    by_cases hc : c = 0
    · have e6 := e4 hc
      subst hc
      rcases hb with hb | hb
      · have hb : bv = 0 := hb
        subst hb
        simp only [kL_law_432, ld_ck_t, e2, ld_bd, kX4_thrown, e3, g0, ld_c0, e6, kL_law_466, ld_cmp, if_true, kL_law_472, kL_law_1264]
      · have hb : bv = 1 := hb
        subst hb
        simp only [kL_law_432, ld_ck_t, e2, ld_bd, kX4_thrown, e3, g0, ld_c0, e6, kL_law_466, ld_cmp, if_true, if_neg (show ¬ (1 : Int32) = 0 by decide), kL_law_472, kL_law_1264]
    · simp only [kL_law_432, e2, ld_bd, kX4_thrown, e3, if_true, if_neg hc, kL_law_472, kL_law_1264]
  by_cases hx : xs (v + 2).toNatClampNeg = 0
  · obtain ⟨Z2, z1, c, Z1, e1, e2⟩ := key 0 (Or.inl rfl)
    refine ⟨Z2, z1, ?_⟩
    simp only [kL_law_384, kL_law_405, h1, h2, ld_ck_t, hx, if_true, e1, ld_bd]
    exact e2
  · obtain ⟨Z2, z1, c, Z1, e1, e2⟩ := key 1 (Or.inr rfl)
    refine ⟨Z2, z1, ?_⟩
    simp only [kL_law_384, kL_law_405, h1, h2, ld_ck_t, if_neg hx, e1, ld_bd]
    exact e2
theorem lr_G_addCue {T : Nat} {Z : ld_M} (hR : lr_T T Z Z) (a b c d : Int32) (hd : d = 0 ∨ d = 1) : lr_G T (kL_addCue Z a b c d) (fun M => kX4_addCue M a b c d) :=
  lr_glue (d := fun D => kX3_addCue D a b c d) (code := lr_c2 0 1) (hf := fun e9 => if e9 = 0 then (some ((1 : Int32), Z)) else if e9 = 1 then (some (2, Z)) else none) (fun M hM => op_addCue hM a b c d hd) hR lr_h2
theorem lr_a_475 {T L : Nat} {xs : Nat → Int32} {k : ld_M → Int32 → Option Int32} {Z : ld_M} {v : Int32} (hR : lr_T T Z Z) (hT : T + 1000 < 2000000000) (h1 : ld_g (v + 1) L = true) (h2 : ld_g (v + 2) L = true) (h3 : ld_g (v + 3) L = true) (h4 : ld_g (v + 4) L = true) : ∃ Z2, lr_T (T + 1000) Z2 Z2 ∧ kL_law_475 L xs k Z v = k Z2 (v + 5) := by
  have g0 : ld_g 0 1 = true := by decide
  have key : ∀ f : Int32, (f = 0 ∨ f = 1) → ∃ Z2, lr_T (T + 1000) Z2 Z2 ∧ ∃ c Z1, kL_addCue Z (xs (v + 1).toNatClampNeg) (xs (v + 2).toNatClampNeg) (xs (v + 3).toNatClampNeg) f = some (c, Z1) ∧ kL_law_547 L xs k Z1 v c f (xs (v + 3).toNatClampNeg) (xs (v + 2).toNatClampNeg) (xs (v + 1).toNatClampNeg) = k Z2 (v + 5) := by
    intro f hf
    obtain ⟨c, Z1, bv, Z2, e1, e2, e3, e4, e5⟩ := lr_G_addCue hR (xs (v + 1).toNatClampNeg) (xs (v + 2).toNatClampNeg) (xs (v + 3).toNatClampNeg) f hf
    have e2 : kX4_addCue Z1 (xs (v + 1).toNatClampNeg) (xs (v + 2).toNatClampNeg) (xs (v + 3).toNatClampNeg) f = some (bv, Z2) := e2
    refine ⟨Z2, e5.up (by omega), c, Z1, e1, ?_⟩
    by_cases hc : c = 0
    · have e6 := e4 hc
      subst hc
      simp only [kL_law_547, ld_ck_t, e2, ld_bd, kX4_thrown, e3, g0, ld_c0, e6, ld_cmp, if_true, kL_law_580, kL_law_1264]
    · simp only [kL_law_547, e2, ld_bd, kX4_thrown, e3, if_true, if_neg hc, kL_law_580, kL_law_1264]
  by_cases hx : xs (v + 4).toNatClampNeg = 0
  · obtain ⟨Z2, z1, c, Z1, e1, e2⟩ := key 0 (Or.inl rfl)
    refine ⟨Z2, z1, ?_⟩
    simp only [kL_law_475, kL_law_508, h1, h2, h3, h4, ld_ck_t, hx, if_true, e1, ld_bd]
    exact e2
  · obtain ⟨Z2, z1, c, Z1, e1, e2⟩ := key 1 (Or.inr rfl)
    refine ⟨Z2, z1, ?_⟩
    simp only [kL_law_475, kL_law_508, h1, h2, h3, h4, ld_ck_t, if_neg hx, e1, ld_bd]
    exact e2
