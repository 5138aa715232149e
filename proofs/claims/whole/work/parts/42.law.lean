def kL_law_1264 (L : Nat) (xs : Nat → Int32) (k : ld_M → Int32 → Option Int32) (Z : ld_M) (v4 : Int32) : Option Int32 := k Z (v4 + 5)
set_option maxHeartbeats 4000000 in
set_option maxRecDepth 100000 in
theorem bL_law_1264 {p : Program} {e : Env} {s : State} {m : MethodId} {below : List Frame} {meth : Method} {c : Code} (l : Launch) (w : ld_E) (hfl : l.stackTraces = false) {b : Nat} (L : Nat) (xs : Nat → Int32) (hX : va_X b L xs s s.heap) (hbl : b < s.heap.size) (hbA : ¬ ld_A w s.heap.size b) (hnew : ∀ i, i < 87 → s.heap.size ≤ ld_ad w i) (C : ld_C p l s m #[Value.ref b] meth c code 7 ret wsL_law RL w) (cb sb : Nat) (hcb : cb + 4 ≤ room_1.cells) (hsb : sb + 24 ≤ room_1.slots) (k : ld_M → Int32 → Option Int32) (hk : ∀ (Z : ld_M) (u0 : Int32), ld_T p l e room_1 s m #[Value.ref b] below meth c (lw_Z below #[Value.ref b] s) w (1 : Int32) (k Z u0) Z (cb + 4) (sb + 24) 23 [some (.ref b), some (.ref (ld_ad w 0)), some (.ref (ld_ad w 67)), some (.ref (ld_ad w 86)), some (.int u0), none, none] []) (Z : ld_M) (v4 : Int32) : ld_T p l e room_1 s m #[Value.ref b] below meth c (lw_Z below #[Value.ref b] s) w (1 : Int32) (kL_law_1264 L xs k Z v4) Z (cb + 4) (sb + 24) 1264 [some (.ref b), some (.ref (ld_ad w 0)), some (.ref (ld_ad w 67)), some (.ref (ld_ad w 86)), some (.int v4), none, none] [] := by
  unfold kL_law_1264
  refine lj_iinc C (i := 4) (v := (v4 + 5)) (lv2 := [some (.ref b), some (.ref (ld_ad w 0)), some (.ref (ld_ad w 67)), some (.ref (ld_ad w 86)), some (.int (v4 + 5)), none, none]) rfl rfl rfl dL_law_1264 ?_
  refine lj_goto C (tgt := 23) dL_law_1267 (by decide) ?_
  exact hk Z (v4 + 5)
def kL_law_185 (L : Nat) (xs : Nat → Int32) (k : ld_M → Int32 → Option Int32) (Z : ld_M) (v4 : Int32) (v5 : Int32) (v6 : Int32) : Option Int32 := kL_law_1264 L xs (k) Z v4
set_option maxHeartbeats 4000000 in
set_option maxRecDepth 100000 in
theorem bL_law_185 {p : Program} {e : Env} {s : State} {m : MethodId} {below : List Frame} {meth : Method} {c : Code} (l : Launch) (w : ld_E) (hfl : l.stackTraces = false) {b : Nat} (L : Nat) (xs : Nat → Int32) (hX : va_X b L xs s s.heap) (hbl : b < s.heap.size) (hbA : ¬ ld_A w s.heap.size b) (hnew : ∀ i, i < 87 → s.heap.size ≤ ld_ad w i) (C : ld_C p l s m #[Value.ref b] meth c code 7 ret wsL_law RL w) (cb sb : Nat) (hcb : cb + 4 ≤ room_1.cells) (hsb : sb + 24 ≤ room_1.slots) (k : ld_M → Int32 → Option Int32) (hk : ∀ (Z : ld_M) (u0 : Int32), ld_T p l e room_1 s m #[Value.ref b] below meth c (lw_Z below #[Value.ref b] s) w (1 : Int32) (k Z u0) Z (cb + 4) (sb + 24) 23 [some (.ref b), some (.ref (ld_ad w 0)), some (.ref (ld_ad w 67)), some (.ref (ld_ad w 86)), some (.int u0), none, none] []) (Z : ld_M) (v4 : Int32) (v5 : Int32) (v6 : Int32) : ld_T p l e room_1 s m #[Value.ref b] below meth c (lw_Z below #[Value.ref b] s) w (1 : Int32) (kL_law_185 L xs k Z v4 v5 v6) Z (cb + 2) (sb + 12) 185 [some (.ref b), some (.ref (ld_ad w 0)), some (.ref (ld_ad w 67)), some (.ref (ld_ad w 86)), some (.int v4), some (.int v5), some (.int v6)] [] := by
  unfold kL_law_185
  refine lj_goto C (tgt := 1264) dL_law_185 (by decide) ?_
  refine lj_wide (k := cb + 4) (n := sb + 24) (by omega) (by omega) ?_
  refine lj_forget (lv2 := [some (.ref b), some (.ref (ld_ad w 0)), some (.ref (ld_ad w 67)), some (.ref (ld_ad w 86)), some (.int v4), none, none]) (by simp [ld_le]) ?_
  exact bL_law_1264 l w hfl L xs hX hbl hbA hnew C cb sb hcb hsb (k) (fun Z9 u0 => hk Z9 u0) Z v4
def kL_law_120 (L : Nat) (xs : Nat → Int32) (k : ld_M → Int32 → Option Int32) (Z : ld_M) (v4 : Int32) : Option Int32 := ld_ck (ld_g (v4 + 1) L) (ld_ck (ld_g (v4 + 2) L) (ld_bd (kL_addLamp Z (xs (v4 + 1).toNatClampNeg) (xs (v4 + 2).toNatClampNeg)) (fun x134 => ld_ck (ld_g (v4 + 1) L) (ld_ck (ld_g (v4 + 2) L) (ld_bd (kX4_addLamp x134.2 (xs (v4 + 1).toNatClampNeg) (xs (v4 + 2).toNatClampNeg)) (fun x152 => ld_bd (kX4_thrown x152.2) (fun x158 => if (x158 : Int32) = x134.1 then (if (x134.1 : Int32) = 0 then (ld_ck (ld_g 0 1) (if ((lg_cmp (x152.2 86 (0 : Int32).toNatClampNeg).toInt64 x152.1.toInt64) : Int32) = 0 then (kL_law_185 L xs (k) x152.2 v4 x134.1 x152.1) else (some 0))) else (kL_law_185 L xs (k) x152.2 v4 x134.1 x152.1)) else (some 0))))))))
set_option maxHeartbeats 4000000 in
set_option maxRecDepth 100000 in
theorem bL_law_120 {p : Program} {e : Env} {s : State} {m : MethodId} {below : List Frame} {meth : Method} {c : Code} (l : Launch) (w : ld_E) (hfl : l.stackTraces = false) {b : Nat} (L : Nat) (xs : Nat → Int32) (hX : va_X b L xs s s.heap) (hbl : b < s.heap.size) (hbA : ¬ ld_A w s.heap.size b) (hnew : ∀ i, i < 87 → s.heap.size ≤ ld_ad w i) (C : ld_C p l s m #[Value.ref b] meth c code 7 ret wsL_law RL w) (cb sb : Nat) (hcb : cb + 4 ≤ room_1.cells) (hsb : sb + 24 ≤ room_1.slots) (k : ld_M → Int32 → Option Int32) (hk : ∀ (Z : ld_M) (u0 : Int32), ld_T p l e room_1 s m #[Value.ref b] below meth c (lw_Z below #[Value.ref b] s) w (1 : Int32) (k Z u0) Z (cb + 4) (sb + 24) 23 [some (.ref b), some (.ref (ld_ad w 0)), some (.ref (ld_ad w 67)), some (.ref (ld_ad w 86)), some (.int u0), none, none] []) (Z : ld_M) (v4 : Int32) : ld_T p l e room_1 s m #[Value.ref b] below meth c (lw_Z below #[Value.ref b] s) w (1 : Int32) (kL_law_120 L xs k Z v4) Z (cb + 0) (sb + 0) 120 [some (.ref b), some (.ref (ld_ad w 0)), some (.ref (ld_ad w 67)), some (.ref (ld_ad w 86)), some (.int v4), none, none] [] := by
  unfold kL_law_120
  refine lj_aload_n C rfl rfl dL_law_120 ?_
  refine lj_aload_n C rfl rfl dL_law_121 ?_
  refine lj_iload C rfl dL_law_122 ?_
  refine lj_iconst C (v := 1) (by decide) dL_law_124 ?_
  refine lj_iadd C dL_law_125 ?_
  refine lj_sld C hX hbl hbA dL_law_126 ?_
  refine lj_aload_n C rfl rfl dL_law_127 ?_
  refine lj_iload C rfl dL_law_128 ?_
  refine lj_iconst C (v := 2) (by decide) dL_law_130 ?_
  refine lj_iadd C dL_law_131 ?_
  refine lj_sld C hX hbl hbA dL_law_132 ?_
  refine lj_aload_n C rfl rfl dL_law_133 ?_
  refine lj_cW C (As := [.ref (ld_ad w 0), .int (xs (v4 + 1).toNatClampNeg), .int (xs (v4 + 2).toNatClampNeg), .ref (ld_ad w 86)]) (rest := []) (fun sz x hx => zL_addLamp l hfl w Z (xs (v4 + 1).toNatClampNeg) (xs (v4 + 2).toNatClampNeg) hx sz) (vx_cwSW 4 C.2.2.2.2.1 gL_law_L_addLamp rfl rfl rfl (by decide +kernel) ⟨Nat.le_of_ble_eq_true rfl, Nat.le_of_ble_eq_true rfl⟩) rfl rfl rfl (Nat.le_of_ble_eq_true rfl) ⟨Nat.le_trans (show cb + 0 + 2 ≤ cb + 4 by omega) hcb, Nat.le_trans (show sb + 0 + 12 ≤ sb + 24 by omega) hsb⟩ dL_law_134 (fun x134 hx134 => ?_)
  refine lj_istore C (lv2 := [some (.ref b), some (.ref (ld_ad w 0)), some (.ref (ld_ad w 67)), some (.ref (ld_ad w 86)), some (.int v4), some (.int x134.1), none]) (Nat.le_of_ble_eq_true rfl) rfl dL_law_137 ?_
  refine lj_aload_n C rfl rfl dL_law_139 ?_
  refine lj_aload_n C rfl rfl dL_law_140 ?_
  refine lj_iload C rfl dL_law_141 ?_
  refine lj_iconst C (v := 1) (by decide) dL_law_143 ?_
  refine lj_iadd C dL_law_144 ?_
  refine lj_sld C hX hbl hbA dL_law_145 ?_
  refine lj_aload_n C rfl rfl dL_law_146 ?_
  refine lj_iload C rfl dL_law_147 ?_
  refine lj_iconst C (v := 2) (by decide) dL_law_149 ?_
  refine lj_iadd C dL_law_150 ?_
  refine lj_sld C hX hbl hbA dL_law_151 ?_
  refine lj_cVb C (As := [.int (xs (v4 + 1).toNatClampNeg), .int (xs (v4 + 2).toNatClampNeg)]) (rest := []) (i := 67) (ci := 4) (Cn := RX4) (Tb := TX4) (N := 23) (fs := (ld_f4 w) (x134.2 67)) (fun sz x hx => zX4_addLamp l w x134.2 (xs (v4 + 1).toNatClampNeg) (xs (v4 + 2).toNatClampNeg) hx sz) (cwV 2 C.2.2.2.2.1 gL_law_X4_addLamp rfl rfl rfl (by decide +kernel) ⟨Nat.le_of_ble_eq_true rfl, Nat.le_of_ble_eq_true rfl⟩) (by decide) ((fun _ => rfl) _) rfl rfl rfl rfl (Nat.le_of_ble_eq_true rfl) ⟨Nat.le_trans (show cb + 2 + 0 ≤ cb + 4 by omega) hcb, Nat.le_trans (show sb + 12 + 0 ≤ sb + 24 by omega) hsb⟩ dL_law_152 (fun x152 hx152 => ?_)
  refine lj_istore C (lv2 := [some (.ref b), some (.ref (ld_ad w 0)), some (.ref (ld_ad w 67)), some (.ref (ld_ad w 86)), some (.int v4), some (.int x134.1), some (.int x152.1)]) (Nat.le_of_ble_eq_true rfl) rfl dL_law_155 ?_
  refine lj_aload_n C rfl rfl dL_law_157 ?_
  refine lj_cVa C (As := []) (rest := []) (i := 67) (ci := 4) (Cn := RX4) (Tb := TX4) (N := 23) (fs := (ld_f4 w) (x152.2 67)) (fun sz x hx => zX4_thrown l w x152.2  hx sz) (cwV 0 C.2.2.2.2.1 gL_law_X4_thrown rfl rfl rfl (by decide +kernel) ⟨Nat.le_of_ble_eq_true rfl, Nat.le_of_ble_eq_true rfl⟩) (by decide) ((fun _ => rfl) _) rfl rfl rfl rfl (Nat.le_of_ble_eq_true rfl) ⟨Nat.le_trans (show cb + 2 + 0 ≤ cb + 4 by omega) hcb, Nat.le_trans (show sb + 12 + 0 ≤ sb + 24 by omega) hsb⟩ dL_law_158 (fun x158 hx158 => ?_)
  refine lj_iload C rfl dL_law_161 ?_
  refine lj_icmp_eq C (tgt := 168) dL_law_163 (by decide) ?_ ?_
  · refine lj_iload C rfl dL_law_168 ?_
    refine lj_if_ne C (tgt := 185) dL_law_170 (by decide) ?_ ?_
    · exact bL_law_185 l w hfl L xs hX hbl hbA hnew C cb sb hcb hsb (k) (fun Z9 u0 => hk Z9 u0) x152.2 v4 x134.1 x152.1
    · refine lj_aload_n C rfl rfl dL_law_173 ?_
      refine lj_iconst C (v := 0) (by decide) dL_law_174 ?_
      refine lj_lald C rfl dL_law_175 ?_
      refine lj_iload C rfl dL_law_176 ?_
      refine lj_i2l C rfl dL_law_178 ?_
      refine lj_lcmp C dL_law_179 ?_
      refine lj_if_eq C (tgt := 185) dL_law_180 (by decide) ?_ ?_
      · exact bL_law_185 l w hfl L xs hX hbl hbA hnew C cb sb hcb hsb (k) (fun Z9 u0 => hk Z9 u0) x152.2 v4 x134.1 x152.1
      · refine lj_iconst C (v := 0) (by decide) dL_law_183 ?_
        exact lj_lret C hnew (Nat.le_trans (by omega) hcb) (Nat.le_trans (by omega) hsb) dL_law_184
  · refine lj_iconst C (v := 0) (by decide) dL_law_166 ?_
    exact lj_lret C hnew (Nat.le_trans (by omega) hcb) (Nat.le_trans (by omega) hsb) dL_law_167
def kL_law_188 (L : Nat) (xs : Nat → Int32) (k : ld_M → Int32 → Option Int32) (Z : ld_M) (v4 : Int32) : Option Int32 := ld_ck (ld_g (v4 + 1) L) (ld_ck (ld_g (v4 + 2) L) (ld_ck (ld_g (v4 + 3) L) (ld_bd (kL_swap Z (xs (v4 + 1).toNatClampNeg) (xs (v4 + 2).toNatClampNeg) (xs (v4 + 3).toNatClampNeg)) (fun x207 => ld_ck (ld_g (v4 + 1) L) (ld_ck (ld_g (v4 + 2) L) (ld_ck (ld_g (v4 + 3) L) (ld_bd (kX4_swap x207.2 (xs (v4 + 1).toNatClampNeg) (xs (v4 + 2).toNatClampNeg) (xs (v4 + 3).toNatClampNeg)) (fun x231 => ld_bd (kX4_thrown x231) (fun x235 => if (x235 : Int32) = x207.1 then (kL_law_1264 L xs (k) x231 v4) else (some 0))))))))))
set_option maxHeartbeats 4000000 in
set_option maxRecDepth 100000 in
theorem bL_law_188 {p : Program} {e : Env} {s : State} {m : MethodId} {below : List Frame} {meth : Method} {c : Code} (l : Launch) (w : ld_E) (hfl : l.stackTraces = false) {b : Nat} (L : Nat) (xs : Nat → Int32) (hX : va_X b L xs s s.heap) (hbl : b < s.heap.size) (hbA : ¬ ld_A w s.heap.size b) (hnew : ∀ i, i < 87 → s.heap.size ≤ ld_ad w i) (C : ld_C p l s m #[Value.ref b] meth c code 7 ret wsL_law RL w) (cb sb : Nat) (hcb : cb + 4 ≤ room_1.cells) (hsb : sb + 24 ≤ room_1.slots) (k : ld_M → Int32 → Option Int32) (hk : ∀ (Z : ld_M) (u0 : Int32), ld_T p l e room_1 s m #[Value.ref b] below meth c (lw_Z below #[Value.ref b] s) w (1 : Int32) (k Z u0) Z (cb + 4) (sb + 24) 23 [some (.ref b), some (.ref (ld_ad w 0)), some (.ref (ld_ad w 67)), some (.ref (ld_ad w 86)), some (.int u0), none, none] []) (Z : ld_M) (v4 : Int32) : ld_T p l e room_1 s m #[Value.ref b] below meth c (lw_Z below #[Value.ref b] s) w (1 : Int32) (kL_law_188 L xs k Z v4) Z (cb + 0) (sb + 0) 188 [some (.ref b), some (.ref (ld_ad w 0)), some (.ref (ld_ad w 67)), some (.ref (ld_ad w 86)), some (.int v4), none, none] [] := by
  unfold kL_law_188
  refine lj_aload_n C rfl rfl dL_law_188 ?_
  refine lj_aload_n C rfl rfl dL_law_189 ?_
  refine lj_iload C rfl dL_law_190 ?_
  refine lj_iconst C (v := 1) (by decide) dL_law_192 ?_
  refine lj_iadd C dL_law_193 ?_
  refine lj_sld C hX hbl hbA dL_law_194 ?_
  refine lj_aload_n C rfl rfl dL_law_195 ?_
  refine lj_iload C rfl dL_law_196 ?_
  refine lj_iconst C (v := 2) (by decide) dL_law_198 ?_
  refine lj_iadd C dL_law_199 ?_
  refine lj_sld C hX hbl hbA dL_law_200 ?_
  refine lj_aload_n C rfl rfl dL_law_201 ?_
  refine lj_iload C rfl dL_law_202 ?_
  refine lj_iconst C (v := 3) (by decide) dL_law_204 ?_
  refine lj_iadd C dL_law_205 ?_
  refine lj_sld C hX hbl hbA dL_law_206 ?_
  refine lj_cW C (As := [.ref (ld_ad w 0), .int (xs (v4 + 1).toNatClampNeg), .int (xs (v4 + 2).toNatClampNeg), .int (xs (v4 + 3).toNatClampNeg)]) (rest := []) (fun sz x hx => zL_swap l hfl w Z (xs (v4 + 1).toNatClampNeg) (xs (v4 + 2).toNatClampNeg) (xs (v4 + 3).toNatClampNeg) hx sz) (vx_cwSW 4 C.2.2.2.2.1 gL_law_L_swap rfl rfl rfl (by decide +kernel) ⟨Nat.le_of_ble_eq_true rfl, Nat.le_of_ble_eq_true rfl⟩) rfl rfl rfl (Nat.le_of_ble_eq_true rfl) ⟨Nat.le_trans (show cb + 0 + 2 ≤ cb + 4 by omega) hcb, Nat.le_trans (show sb + 0 + 12 ≤ sb + 24 by omega) hsb⟩ dL_law_207 (fun x207 hx207 => ?_)
  refine lj_istore C (lv2 := [some (.ref b), some (.ref (ld_ad w 0)), some (.ref (ld_ad w 67)), some (.ref (ld_ad w 86)), some (.int v4), some (.int x207.1), none]) (Nat.le_of_ble_eq_true rfl) rfl dL_law_210 ?_
  refine lj_aload_n C rfl rfl dL_law_212 ?_
  refine lj_aload_n C rfl rfl dL_law_213 ?_
  refine lj_iload C rfl dL_law_214 ?_
  refine lj_iconst C (v := 1) (by decide) dL_law_216 ?_
  refine lj_iadd C dL_law_217 ?_
  refine lj_sld C hX hbl hbA dL_law_218 ?_
  refine lj_aload_n C rfl rfl dL_law_219 ?_
  refine lj_iload C rfl dL_law_220 ?_
  refine lj_iconst C (v := 2) (by decide) dL_law_222 ?_
  refine lj_iadd C dL_law_223 ?_
  refine lj_sld C hX hbl hbA dL_law_224 ?_
  refine lj_aload_n C rfl rfl dL_law_225 ?_
  refine lj_iload C rfl dL_law_226 ?_
  refine lj_iconst C (v := 3) (by decide) dL_law_228 ?_
  refine lj_iadd C dL_law_229 ?_
  refine lj_sld C hX hbl hbA dL_law_230 ?_
  refine lj_cVv C (As := [.int (xs (v4 + 1).toNatClampNeg), .int (xs (v4 + 2).toNatClampNeg), .int (xs (v4 + 3).toNatClampNeg)]) (rest := []) (i := 67) (ci := 4) (Cn := RX4) (Tb := TX4) (N := 23) (fs := (ld_f4 w) (x207.2 67)) (fun sz x hx => zX4_swap l w x207.2 (xs (v4 + 1).toNatClampNeg) (xs (v4 + 2).toNatClampNeg) (xs (v4 + 3).toNatClampNeg) hx sz) (cwV 3 C.2.2.2.2.1 gL_law_X4_swap rfl rfl rfl (by decide +kernel) ⟨Nat.le_of_ble_eq_true rfl, Nat.le_of_ble_eq_true rfl⟩) (by decide) ((fun _ => rfl) _) rfl rfl rfl rfl (Nat.le_of_ble_eq_true rfl) ⟨Nat.le_trans (show cb + 2 + 0 ≤ cb + 4 by omega) hcb, Nat.le_trans (show sb + 12 + 0 ≤ sb + 24 by omega) hsb⟩ dL_law_231 (fun x231 hx231 => ?_)
  refine lj_aload_n C rfl rfl dL_law_234 ?_
  refine lj_cVa C (As := []) (rest := []) (i := 67) (ci := 4) (Cn := RX4) (Tb := TX4) (N := 23) (fs := (ld_f4 w) (x231 67)) (fun sz x hx => zX4_thrown l w x231  hx sz) (cwV 0 C.2.2.2.2.1 gL_law_X4_thrown rfl rfl rfl (by decide +kernel) ⟨Nat.le_of_ble_eq_true rfl, Nat.le_of_ble_eq_true rfl⟩) (by decide) ((fun _ => rfl) _) rfl rfl rfl rfl (Nat.le_of_ble_eq_true rfl) ⟨Nat.le_trans (show cb + 2 + 0 ≤ cb + 4 by omega) hcb, Nat.le_trans (show sb + 12 + 0 ≤ sb + 24 by omega) hsb⟩ dL_law_235 (fun x235 hx235 => ?_)
  refine lj_iload C rfl dL_law_238 ?_
  refine lj_icmp_eq C (tgt := 245) dL_law_240 (by decide) ?_ ?_
  · refine lj_goto C (tgt := 1264) dL_law_245 (by decide) ?_
    refine lj_wide (k := cb + 4) (n := sb + 24) (by omega) (by omega) ?_
    refine lj_forget (lv2 := [some (.ref b), some (.ref (ld_ad w 0)), some (.ref (ld_ad w 67)), some (.ref (ld_ad w 86)), some (.int v4), none, none]) (by simp [ld_le]) ?_
    exact bL_law_1264 l w hfl L xs hX hbl hbA hnew C cb sb hcb hsb (k) (fun Z9 u0 => hk Z9 u0) x231 v4
  · refine lj_iconst C (v := 0) (by decide) dL_law_243 ?_
    exact lj_lret C hnew (Nat.le_trans (by omega) hcb) (Nat.le_trans (by omega) hsb) dL_law_244
def kL_law_325 (L : Nat) (xs : Nat → Int32) (k : ld_M → Int32 → Option Int32) (Z : ld_M) (v4 : Int32) (v5 : Int32) (v6 : Int32) : Option Int32 := kL_law_1264 L xs (k) Z v4
set_option maxHeartbeats 4000000 in
set_option maxRecDepth 100000 in
theorem bL_law_325 {p : Program} {e : Env} {s : State} {m : MethodId} {below : List Frame} {meth : Method} {c : Code} (l : Launch) (w : ld_E) (hfl : l.stackTraces = false) {b : Nat} (L : Nat) (xs : Nat → Int32) (hX : va_X b L xs s s.heap) (hbl : b < s.heap.size) (hbA : ¬ ld_A w s.heap.size b) (hnew : ∀ i, i < 87 → s.heap.size ≤ ld_ad w i) (C : ld_C p l s m #[Value.ref b] meth c code 7 ret wsL_law RL w) (cb sb : Nat) (hcb : cb + 4 ≤ room_1.cells) (hsb : sb + 24 ≤ room_1.slots) (k : ld_M → Int32 → Option Int32) (hk : ∀ (Z : ld_M) (u0 : Int32), ld_T p l e room_1 s m #[Value.ref b] below meth c (lw_Z below #[Value.ref b] s) w (1 : Int32) (k Z u0) Z (cb + 4) (sb + 24) 23 [some (.ref b), some (.ref (ld_ad w 0)), some (.ref (ld_ad w 67)), some (.ref (ld_ad w 86)), some (.int u0), none, none] []) (Z : ld_M) (v4 : Int32) (v5 : Int32) (v6 : Int32) : ld_T p l e room_1 s m #[Value.ref b] below meth c (lw_Z below #[Value.ref b] s) w (1 : Int32) (kL_law_325 L xs k Z v4 v5 v6) Z (cb + 3) (sb + 18) 325 [some (.ref b), some (.ref (ld_ad w 0)), some (.ref (ld_ad w 67)), some (.ref (ld_ad w 86)), some (.int v4), some (.int v5), some (.int v6)] [] := by
  unfold kL_law_325
  refine lj_goto C (tgt := 1264) dL_law_325 (by decide) ?_
  refine lj_wide (k := cb + 4) (n := sb + 24) (by omega) (by omega) ?_
  refine lj_forget (lv2 := [some (.ref b), some (.ref (ld_ad w 0)), some (.ref (ld_ad w 67)), some (.ref (ld_ad w 86)), some (.int v4), none, none]) (by simp [ld_le]) ?_
  exact bL_law_1264 l w hfl L xs hX hbl hbA hnew C cb sb hcb hsb (k) (fun Z9 u0 => hk Z9 u0) Z v4
def kL_law_248 (L : Nat) (xs : Nat → Int32) (k : ld_M → Int32 → Option Int32) (Z : ld_M) (v4 : Int32) : Option Int32 := ld_ck (ld_g (v4 + 1) L) (ld_ck (ld_g (v4 + 2) L) (ld_ck (ld_g (v4 + 3) L) (ld_bd (kL_hang Z (xs (v4 + 1).toNatClampNeg) (xs (v4 + 2).toNatClampNeg) (xs (v4 + 3).toNatClampNeg)) (fun x268 => ld_ck (ld_g (v4 + 1) L) (ld_ck (ld_g (v4 + 2) L) (ld_ck (ld_g (v4 + 3) L) (ld_bd (kX4_hang x268.2 (xs (v4 + 1).toNatClampNeg) (xs (v4 + 2).toNatClampNeg) (xs (v4 + 3).toNatClampNeg)) (fun x292 => ld_bd (kX4_thrown x292.2) (fun x298 => if (x298 : Int32) = x268.1 then (if (x268.1 : Int32) = 0 then (ld_ck (ld_g 0 1) (if ((lg_cmp (x292.2 86 (0 : Int32).toNatClampNeg).toInt64 x292.1.toInt64) : Int32) = 0 then (kL_law_325 L xs (k) x292.2 v4 x268.1 x292.1) else (some 0))) else (kL_law_325 L xs (k) x292.2 v4 x268.1 x292.1)) else (some 0))))))))))
set_option maxHeartbeats 4000000 in
set_option maxRecDepth 100000 in
theorem bL_law_248 {p : Program} {e : Env} {s : State} {m : MethodId} {below : List Frame} {meth : Method} {c : Code} (l : Launch) (w : ld_E) (hfl : l.stackTraces = false) {b : Nat} (L : Nat) (xs : Nat → Int32) (hX : va_X b L xs s s.heap) (hbl : b < s.heap.size) (hbA : ¬ ld_A w s.heap.size b) (hnew : ∀ i, i < 87 → s.heap.size ≤ ld_ad w i) (C : ld_C p l s m #[Value.ref b] meth c code 7 ret wsL_law RL w) (cb sb : Nat) (hcb : cb + 4 ≤ room_1.cells) (hsb : sb + 24 ≤ room_1.slots) (k : ld_M → Int32 → Option Int32) (hk : ∀ (Z : ld_M) (u0 : Int32), ld_T p l e room_1 s m #[Value.ref b] below meth c (lw_Z below #[Value.ref b] s) w (1 : Int32) (k Z u0) Z (cb + 4) (sb + 24) 23 [some (.ref b), some (.ref (ld_ad w 0)), some (.ref (ld_ad w 67)), some (.ref (ld_ad w 86)), some (.int u0), none, none] []) (Z : ld_M) (v4 : Int32) : ld_T p l e room_1 s m #[Value.ref b] below meth c (lw_Z below #[Value.ref b] s) w (1 : Int32) (kL_law_248 L xs k Z v4) Z (cb + 0) (sb + 0) 248 [some (.ref b), some (.ref (ld_ad w 0)), some (.ref (ld_ad w 67)), some (.ref (ld_ad w 86)), some (.int v4), none, none] [] := by
  unfold kL_law_248
  refine lj_aload_n C rfl rfl dL_law_248 ?_
  refine lj_aload_n C rfl rfl dL_law_249 ?_
  refine lj_iload C rfl dL_law_250 ?_
  refine lj_iconst C (v := 1) (by decide) dL_law_252 ?_
  refine lj_iadd C dL_law_253 ?_
  refine lj_sld C hX hbl hbA dL_law_254 ?_
  refine lj_aload_n C rfl rfl dL_law_255 ?_
  refine lj_iload C rfl dL_law_256 ?_
  refine lj_iconst C (v := 2) (by decide) dL_law_258 ?_
  refine lj_iadd C dL_law_259 ?_
  refine lj_sld C hX hbl hbA dL_law_260 ?_
  refine lj_aload_n C rfl rfl dL_law_261 ?_
  refine lj_iload C rfl dL_law_262 ?_
  refine lj_iconst C (v := 3) (by decide) dL_law_264 ?_
  refine lj_iadd C dL_law_265 ?_
  refine lj_sld C hX hbl hbA dL_law_266 ?_
  refine lj_aload_n C rfl rfl dL_law_267 ?_
  refine lj_cW C (As := [.ref (ld_ad w 0), .int (xs (v4 + 1).toNatClampNeg), .int (xs (v4 + 2).toNatClampNeg), .int (xs (v4 + 3).toNatClampNeg), .ref (ld_ad w 86)]) (rest := []) (fun sz x hx => zL_hang l hfl w Z (xs (v4 + 1).toNatClampNeg) (xs (v4 + 2).toNatClampNeg) (xs (v4 + 3).toNatClampNeg) hx sz) (vx_cwSW 5 C.2.2.2.2.1 gL_law_L_hang rfl rfl rfl (by decide +kernel) ⟨Nat.le_of_ble_eq_true rfl, Nat.le_of_ble_eq_true rfl⟩) rfl rfl rfl (Nat.le_of_ble_eq_true rfl) ⟨Nat.le_trans (show cb + 0 + 3 ≤ cb + 4 by omega) hcb, Nat.le_trans (show sb + 0 + 18 ≤ sb + 24 by omega) hsb⟩ dL_law_268 (fun x268 hx268 => ?_)
  refine lj_istore C (lv2 := [some (.ref b), some (.ref (ld_ad w 0)), some (.ref (ld_ad w 67)), some (.ref (ld_ad w 86)), some (.int v4), some (.int x268.1), none]) (Nat.le_of_ble_eq_true rfl) rfl dL_law_271 ?_
  refine lj_aload_n C rfl rfl dL_law_273 ?_
  refine lj_aload_n C rfl rfl dL_law_274 ?_
  refine lj_iload C rfl dL_law_275 ?_
  refine lj_iconst C (v := 1) (by decide) dL_law_277 ?_
  refine lj_iadd C dL_law_278 ?_
  refine lj_sld C hX hbl hbA dL_law_279 ?_
  refine lj_aload_n C rfl rfl dL_law_280 ?_
  refine lj_iload C rfl dL_law_281 ?_
  refine lj_iconst C (v := 2) (by decide) dL_law_283 ?_
  refine lj_iadd C dL_law_284 ?_
  refine lj_sld C hX hbl hbA dL_law_285 ?_
  refine lj_aload_n C rfl rfl dL_law_286 ?_
  refine lj_iload C rfl dL_law_287 ?_
  refine lj_iconst C (v := 3) (by decide) dL_law_289 ?_
  refine lj_iadd C dL_law_290 ?_
  refine lj_sld C hX hbl hbA dL_law_291 ?_
  refine lj_cVb C (As := [.int (xs (v4 + 1).toNatClampNeg), .int (xs (v4 + 2).toNatClampNeg), .int (xs (v4 + 3).toNatClampNeg)]) (rest := []) (i := 67) (ci := 4) (Cn := RX4) (Tb := TX4) (N := 23) (fs := (ld_f4 w) (x268.2 67)) (fun sz x hx => zX4_hang l w x268.2 (xs (v4 + 1).toNatClampNeg) (xs (v4 + 2).toNatClampNeg) (xs (v4 + 3).toNatClampNeg) hx sz) (cwV 3 C.2.2.2.2.1 gL_law_X4_hang rfl rfl rfl (by decide +kernel) ⟨Nat.le_of_ble_eq_true rfl, Nat.le_of_ble_eq_true rfl⟩) (by decide) ((fun _ => rfl) _) rfl rfl rfl rfl (Nat.le_of_ble_eq_true rfl) ⟨Nat.le_trans (show cb + 3 + 0 ≤ cb + 4 by omega) hcb, Nat.le_trans (show sb + 18 + 0 ≤ sb + 24 by omega) hsb⟩ dL_law_292 (fun x292 hx292 => ?_)
  refine lj_istore C (lv2 := [some (.ref b), some (.ref (ld_ad w 0)), some (.ref (ld_ad w 67)), some (.ref (ld_ad w 86)), some (.int v4), some (.int x268.1), some (.int x292.1)]) (Nat.le_of_ble_eq_true rfl) rfl dL_law_295 ?_
  refine lj_aload_n C rfl rfl dL_law_297 ?_
  refine lj_cVa C (As := []) (rest := []) (i := 67) (ci := 4) (Cn := RX4) (Tb := TX4) (N := 23) (fs := (ld_f4 w) (x292.2 67)) (fun sz x hx => zX4_thrown l w x292.2  hx sz) (cwV 0 C.2.2.2.2.1 gL_law_X4_thrown rfl rfl rfl (by decide +kernel) ⟨Nat.le_of_ble_eq_true rfl, Nat.le_of_ble_eq_true rfl⟩) (by decide) ((fun _ => rfl) _) rfl rfl rfl rfl (Nat.le_of_ble_eq_true rfl) ⟨Nat.le_trans (show cb + 3 + 0 ≤ cb + 4 by omega) hcb, Nat.le_trans (show sb + 18 + 0 ≤ sb + 24 by omega) hsb⟩ dL_law_298 (fun x298 hx298 => ?_)
  refine lj_iload C rfl dL_law_301 ?_
  refine lj_icmp_eq C (tgt := 308) dL_law_303 (by decide) ?_ ?_
  · refine lj_iload C rfl dL_law_308 ?_
    refine lj_if_ne C (tgt := 325) dL_law_310 (by decide) ?_ ?_
    · exact bL_law_325 l w hfl L xs hX hbl hbA hnew C cb sb hcb hsb (k) (fun Z9 u0 => hk Z9 u0) x292.2 v4 x268.1 x292.1
    · refine lj_aload_n C rfl rfl dL_law_313 ?_
      refine lj_iconst C (v := 0) (by decide) dL_law_314 ?_
      refine lj_lald C rfl dL_law_315 ?_
      refine lj_iload C rfl dL_law_316 ?_
      refine lj_i2l C rfl dL_law_318 ?_
      refine lj_lcmp C dL_law_319 ?_
      refine lj_if_eq C (tgt := 325) dL_law_320 (by decide) ?_ ?_
      · exact bL_law_325 l w hfl L xs hX hbl hbA hnew C cb sb hcb hsb (k) (fun Z9 u0 => hk Z9 u0) x292.2 v4 x268.1 x292.1
      · refine lj_iconst C (v := 0) (by decide) dL_law_323 ?_
        exact lj_lret C hnew (Nat.le_trans (by omega) hcb) (Nat.le_trans (by omega) hsb) dL_law_324
  · refine lj_iconst C (v := 0) (by decide) dL_law_306 ?_
    exact lj_lret C hnew (Nat.le_trans (by omega) hcb) (Nat.le_trans (by omega) hsb) dL_law_307
def kL_law_381 (L : Nat) (xs : Nat → Int32) (k : ld_M → Int32 → Option Int32) (Z : ld_M) (v4 : Int32) (v5 : Int32) (v6 : Int32) : Option Int32 := kL_law_1264 L xs (k) Z v4
set_option maxHeartbeats 4000000 in
set_option maxRecDepth 100000 in
theorem bL_law_381 {p : Program} {e : Env} {s : State} {m : MethodId} {below : List Frame} {meth : Method} {c : Code} (l : Launch) (w : ld_E) (hfl : l.stackTraces = false) {b : Nat} (L : Nat) (xs : Nat → Int32) (hX : va_X b L xs s s.heap) (hbl : b < s.heap.size) (hbA : ¬ ld_A w s.heap.size b) (hnew : ∀ i, i < 87 → s.heap.size ≤ ld_ad w i) (C : ld_C p l s m #[Value.ref b] meth c code 7 ret wsL_law RL w) (cb sb : Nat) (hcb : cb + 4 ≤ room_1.cells) (hsb : sb + 24 ≤ room_1.slots) (k : ld_M → Int32 → Option Int32) (hk : ∀ (Z : ld_M) (u0 : Int32), ld_T p l e room_1 s m #[Value.ref b] below meth c (lw_Z below #[Value.ref b] s) w (1 : Int32) (k Z u0) Z (cb + 4) (sb + 24) 23 [some (.ref b), some (.ref (ld_ad w 0)), some (.ref (ld_ad w 67)), some (.ref (ld_ad w 86)), some (.int u0), none, none] []) (Z : ld_M) (v4 : Int32) (v5 : Int32) (v6 : Int32) : ld_T p l e room_1 s m #[Value.ref b] below meth c (lw_Z below #[Value.ref b] s) w (1 : Int32) (kL_law_381 L xs k Z v4 v5 v6) Z (cb + 1) (sb + 6) 381 [some (.ref b), some (.ref (ld_ad w 0)), some (.ref (ld_ad w 67)), some (.ref (ld_ad w 86)), some (.int v4), some (.int v5), some (.int v6)] [] := by
  unfold kL_law_381
  refine lj_goto C (tgt := 1264) dL_law_381 (by decide) ?_
  refine lj_wide (k := cb + 4) (n := sb + 24) (by omega) (by omega) ?_
  refine lj_forget (lv2 := [some (.ref b), some (.ref (ld_ad w 0)), some (.ref (ld_ad w 67)), some (.ref (ld_ad w 86)), some (.int v4), none, none]) (by simp [ld_le]) ?_
  exact bL_law_1264 l w hfl L xs hX hbl hbA hnew C cb sb hcb hsb (k) (fun Z9 u0 => hk Z9 u0) Z v4
def kL_law_328 (L : Nat) (xs : Nat → Int32) (k : ld_M → Int32 → Option Int32) (Z : ld_M) (v4 : Int32) : Option Int32 := ld_ck (ld_g (v4 + 1) L) (ld_bd (kL_setNight Z (xs (v4 + 1).toNatClampNeg)) (fun x336 => ld_ck (ld_g (v4 + 1) L) (ld_bd (kX4_setNight x336.2 (xs (v4 + 1).toNatClampNeg)) (fun x348 => ld_bd (kX4_thrown x348.2) (fun x354 => if (x354 : Int32) = x336.1 then (if (x336.1 : Int32) = 0 then (ld_ck (ld_g 0 1) (if ((lg_cmp (x348.2 86 (0 : Int32).toNatClampNeg).toInt64 x348.1.toInt64) : Int32) = 0 then (kL_law_381 L xs (k) x348.2 v4 x336.1 x348.1) else (some 0))) else (kL_law_381 L xs (k) x348.2 v4 x336.1 x348.1)) else (some 0))))))
set_option maxHeartbeats 4000000 in
set_option maxRecDepth 100000 in
theorem bL_law_328 {p : Program} {e : Env} {s : State} {m : MethodId} {below : List Frame} {meth : Method} {c : Code} (l : Launch) (w : ld_E) (hfl : l.stackTraces = false) {b : Nat} (L : Nat) (xs : Nat → Int32) (hX : va_X b L xs s s.heap) (hbl : b < s.heap.size) (hbA : ¬ ld_A w s.heap.size b) (hnew : ∀ i, i < 87 → s.heap.size ≤ ld_ad w i) (C : ld_C p l s m #[Value.ref b] meth c code 7 ret wsL_law RL w) (cb sb : Nat) (hcb : cb + 4 ≤ room_1.cells) (hsb : sb + 24 ≤ room_1.slots) (k : ld_M → Int32 → Option Int32) (hk : ∀ (Z : ld_M) (u0 : Int32), ld_T p l e room_1 s m #[Value.ref b] below meth c (lw_Z below #[Value.ref b] s) w (1 : Int32) (k Z u0) Z (cb + 4) (sb + 24) 23 [some (.ref b), some (.ref (ld_ad w 0)), some (.ref (ld_ad w 67)), some (.ref (ld_ad w 86)), some (.int u0), none, none] []) (Z : ld_M) (v4 : Int32) : ld_T p l e room_1 s m #[Value.ref b] below meth c (lw_Z below #[Value.ref b] s) w (1 : Int32) (kL_law_328 L xs k Z v4) Z (cb + 0) (sb + 0) 328 [some (.ref b), some (.ref (ld_ad w 0)), some (.ref (ld_ad w 67)), some (.ref (ld_ad w 86)), some (.int v4), none, none] [] := by
  unfold kL_law_328
  refine lj_aload_n C rfl rfl dL_law_328 ?_
  refine lj_aload_n C rfl rfl dL_law_329 ?_
  refine lj_iload C rfl dL_law_330 ?_
  refine lj_iconst C (v := 1) (by decide) dL_law_332 ?_
  refine lj_iadd C dL_law_333 ?_
  refine lj_sld C hX hbl hbA dL_law_334 ?_
  refine lj_aload_n C rfl rfl dL_law_335 ?_
  refine lj_cW C (As := [.ref (ld_ad w 0), .int (xs (v4 + 1).toNatClampNeg), .ref (ld_ad w 86)]) (rest := []) (fun sz x hx => zL_setNight l hfl w Z (xs (v4 + 1).toNatClampNeg) hx sz) (vx_cwSW 3 C.2.2.2.2.1 gL_law_L_setNight rfl rfl rfl (by decide +kernel) ⟨Nat.le_of_ble_eq_true rfl, Nat.le_of_ble_eq_true rfl⟩) rfl rfl rfl (Nat.le_of_ble_eq_true rfl) ⟨Nat.le_trans (show cb + 0 + 1 ≤ cb + 4 by omega) hcb, Nat.le_trans (show sb + 0 + 6 ≤ sb + 24 by omega) hsb⟩ dL_law_336 (fun x336 hx336 => ?_)
  refine lj_istore C (lv2 := [some (.ref b), some (.ref (ld_ad w 0)), some (.ref (ld_ad w 67)), some (.ref (ld_ad w 86)), some (.int v4), some (.int x336.1), none]) (Nat.le_of_ble_eq_true rfl) rfl dL_law_339 ?_
  refine lj_aload_n C rfl rfl dL_law_341 ?_
  refine lj_aload_n C rfl rfl dL_law_342 ?_
  refine lj_iload C rfl dL_law_343 ?_
  refine lj_iconst C (v := 1) (by decide) dL_law_345 ?_
  refine lj_iadd C dL_law_346 ?_
  refine lj_sld C hX hbl hbA dL_law_347 ?_
  refine lj_cVb C (As := [.int (xs (v4 + 1).toNatClampNeg)]) (rest := []) (i := 67) (ci := 4) (Cn := RX4) (Tb := TX4) (N := 23) (fs := (ld_f4 w) (x336.2 67)) (fun sz x hx => zX4_setNight l w x336.2 (xs (v4 + 1).toNatClampNeg) hx sz) (cwV 1 C.2.2.2.2.1 gL_law_X4_setNight rfl rfl rfl (by decide +kernel) ⟨Nat.le_of_ble_eq_true rfl, Nat.le_of_ble_eq_true rfl⟩) (by decide) ((fun _ => rfl) _) rfl rfl rfl rfl (Nat.le_of_ble_eq_true rfl) ⟨Nat.le_trans (show cb + 1 + 0 ≤ cb + 4 by omega) hcb, Nat.le_trans (show sb + 6 + 0 ≤ sb + 24 by omega) hsb⟩ dL_law_348 (fun x348 hx348 => ?_)
  refine lj_istore C (lv2 := [some (.ref b), some (.ref (ld_ad w 0)), some (.ref (ld_ad w 67)), some (.ref (ld_ad w 86)), some (.int v4), some (.int x336.1), some (.int x348.1)]) (Nat.le_of_ble_eq_true rfl) rfl dL_law_351 ?_
  refine lj_aload_n C rfl rfl dL_law_353 ?_
  refine lj_cVa C (As := []) (rest := []) (i := 67) (ci := 4) (Cn := RX4) (Tb := TX4) (N := 23) (fs := (ld_f4 w) (x348.2 67)) (fun sz x hx => zX4_thrown l w x348.2  hx sz) (cwV 0 C.2.2.2.2.1 gL_law_X4_thrown rfl rfl rfl (by decide +kernel) ⟨Nat.le_of_ble_eq_true rfl, Nat.le_of_ble_eq_true rfl⟩) (by decide) ((fun _ => rfl) _) rfl rfl rfl rfl (Nat.le_of_ble_eq_true rfl) ⟨Nat.le_trans (show cb + 1 + 0 ≤ cb + 4 by omega) hcb, Nat.le_trans (show sb + 6 + 0 ≤ sb + 24 by omega) hsb⟩ dL_law_354 (fun x354 hx354 => ?_)
  refine lj_iload C rfl dL_law_357 ?_
  refine lj_icmp_eq C (tgt := 364) dL_law_359 (by decide) ?_ ?_
  · refine lj_iload C rfl dL_law_364 ?_
    refine lj_if_ne C (tgt := 381) dL_law_366 (by decide) ?_ ?_
    · exact bL_law_381 l w hfl L xs hX hbl hbA hnew C cb sb hcb hsb (k) (fun Z9 u0 => hk Z9 u0) x348.2 v4 x336.1 x348.1
    · refine lj_aload_n C rfl rfl dL_law_369 ?_
      refine lj_iconst C (v := 0) (by decide) dL_law_370 ?_
      refine lj_lald C rfl dL_law_371 ?_
      refine lj_iload C rfl dL_law_372 ?_
      refine lj_i2l C rfl dL_law_374 ?_
      refine lj_lcmp C dL_law_375 ?_
      refine lj_if_eq C (tgt := 381) dL_law_376 (by decide) ?_ ?_
      · exact bL_law_381 l w hfl L xs hX hbl hbA hnew C cb sb hcb hsb (k) (fun Z9 u0 => hk Z9 u0) x348.2 v4 x336.1 x348.1
      · refine lj_iconst C (v := 0) (by decide) dL_law_379 ?_
        exact lj_lret C hnew (Nat.le_trans (by omega) hcb) (Nat.le_trans (by omega) hsb) dL_law_380
  · refine lj_iconst C (v := 0) (by decide) dL_law_362 ?_
    exact lj_lret C hnew (Nat.le_trans (by omega) hcb) (Nat.le_trans (by omega) hsb) dL_law_363
def kL_law_472 (L : Nat) (xs : Nat → Int32) (k : ld_M → Int32 → Option Int32) (Z : ld_M) (v4 : Int32) (v5 : Int32) (v6 : Int32) : Option Int32 := kL_law_1264 L xs (k) Z v4
set_option maxHeartbeats 4000000 in
set_option maxRecDepth 100000 in
theorem bL_law_472 {p : Program} {e : Env} {s : State} {m : MethodId} {below : List Frame} {meth : Method} {c : Code} (l : Launch) (w : ld_E) (hfl : l.stackTraces = false) {b : Nat} (L : Nat) (xs : Nat → Int32) (hX : va_X b L xs s s.heap) (hbl : b < s.heap.size) (hbA : ¬ ld_A w s.heap.size b) (hnew : ∀ i, i < 87 → s.heap.size ≤ ld_ad w i) (C : ld_C p l s m #[Value.ref b] meth c code 7 ret wsL_law RL w) (cb sb : Nat) (hcb : cb + 4 ≤ room_1.cells) (hsb : sb + 24 ≤ room_1.slots) (k : ld_M → Int32 → Option Int32) (hk : ∀ (Z : ld_M) (u0 : Int32), ld_T p l e room_1 s m #[Value.ref b] below meth c (lw_Z below #[Value.ref b] s) w (1 : Int32) (k Z u0) Z (cb + 4) (sb + 24) 23 [some (.ref b), some (.ref (ld_ad w 0)), some (.ref (ld_ad w 67)), some (.ref (ld_ad w 86)), some (.int u0), none, none] []) (Z : ld_M) (v4 : Int32) (v5 : Int32) (v6 : Int32) : ld_T p l e room_1 s m #[Value.ref b] below meth c (lw_Z below #[Value.ref b] s) w (1 : Int32) (kL_law_472 L xs k Z v4 v5 v6) Z (cb + 1) (sb + 6) 472 [some (.ref b), some (.ref (ld_ad w 0)), some (.ref (ld_ad w 67)), some (.ref (ld_ad w 86)), some (.int v4), some (.int v5), some (.int v6)] [] := by
  unfold kL_law_472
  refine lj_goto C (tgt := 1264) dL_law_472 (by decide) ?_
  refine lj_wide (k := cb + 4) (n := sb + 24) (by omega) (by omega) ?_
  refine lj_forget (lv2 := [some (.ref b), some (.ref (ld_ad w 0)), some (.ref (ld_ad w 67)), some (.ref (ld_ad w 86)), some (.int v4), none, none]) (by simp [ld_le]) ?_
  exact bL_law_1264 l w hfl L xs hX hbl hbA hnew C cb sb hcb hsb (k) (fun Z9 u0 => hk Z9 u0) Z v4
def kL_law_466 (L : Nat) (xs : Nat → Int32) (k : ld_M → Int32 → Option Int32) (Z : ld_M) (v4 : Int32) (v5 : Int32) (v6 : Int32) (t0 : Int32) (t1 : Int32) : Option Int32 := if ((lg_cmp t1.toInt64 t0.toInt64) : Int32) = 0 then (kL_law_472 L xs (k) Z v4 v5 v6) else (some 0)
set_option maxHeartbeats 4000000 in
set_option maxRecDepth 100000 in
theorem bL_law_466 {p : Program} {e : Env} {s : State} {m : MethodId} {below : List Frame} {meth : Method} {c : Code} (l : Launch) (w : ld_E) (hfl : l.stackTraces = false) {b : Nat} (L : Nat) (xs : Nat → Int32) (hX : va_X b L xs s s.heap) (hbl : b < s.heap.size) (hbA : ¬ ld_A w s.heap.size b) (hnew : ∀ i, i < 87 → s.heap.size ≤ ld_ad w i) (C : ld_C p l s m #[Value.ref b] meth c code 7 ret wsL_law RL w) (cb sb : Nat) (hcb : cb + 4 ≤ room_1.cells) (hsb : sb + 24 ≤ room_1.slots) (k : ld_M → Int32 → Option Int32) (hk : ∀ (Z : ld_M) (u0 : Int32), ld_T p l e room_1 s m #[Value.ref b] below meth c (lw_Z below #[Value.ref b] s) w (1 : Int32) (k Z u0) Z (cb + 4) (sb + 24) 23 [some (.ref b), some (.ref (ld_ad w 0)), some (.ref (ld_ad w 67)), some (.ref (ld_ad w 86)), some (.int u0), none, none] []) (Z : ld_M) (v4 : Int32) (v5 : Int32) (v6 : Int32) (t0 : Int32) (t1 : Int32) : ld_T p l e room_1 s m #[Value.ref b] below meth c (lw_Z below #[Value.ref b] s) w (1 : Int32) (kL_law_466 L xs k Z v4 v5 v6 t0 t1) Z (cb + 1) (sb + 6) 466 [some (.ref b), some (.ref (ld_ad w 0)), some (.ref (ld_ad w 67)), some (.ref (ld_ad w 86)), some (.int v4), some (.int v5), some (.int v6)] [.long t0.toInt64, .long t1.toInt64] := by
  unfold kL_law_466
  refine lj_lcmp C dL_law_466 ?_
  refine lj_if_eq C (tgt := 472) dL_law_467 (by decide) ?_ ?_
  · exact bL_law_472 l w hfl L xs hX hbl hbA hnew C cb sb hcb hsb (k) (fun Z9 u0 => hk Z9 u0) Z v4 v5 v6
  · refine lj_iconst C (v := 0) (by decide) dL_law_470 ?_
    exact lj_lret C hnew (Nat.le_trans (by omega) hcb) (Nat.le_trans (by omega) hsb) dL_law_471
def kL_law_432 (L : Nat) (xs : Nat → Int32) (k : ld_M → Int32 → Option Int32) (Z : ld_M) (v4 : Int32) (v5 : Int32) (t0 : Int32) (t1 : Int32) : Option Int32 := ld_bd (kX4_setLatest Z t1 t0) (fun x432 => ld_bd (kX4_thrown x432.2) (fun x438 => if (x438 : Int32) = v5 then (if (v5 : Int32) = 0 then (ld_ck (ld_g 0 1) (if (x432.1 : Int32) = 0 then (kL_law_466 L xs (k) x432.2 v4 v5 x432.1 0 (x432.2 86 (0 : Int32).toNatClampNeg)) else (kL_law_466 L xs (k) x432.2 v4 v5 x432.1 1 (x432.2 86 (0 : Int32).toNatClampNeg)))) else (kL_law_472 L xs (k) x432.2 v4 v5 x432.1)) else (some 0)))
set_option maxHeartbeats 4000000 in
set_option maxRecDepth 100000 in
theorem bL_law_432 {p : Program} {e : Env} {s : State} {m : MethodId} {below : List Frame} {meth : Method} {c : Code} (l : Launch) (w : ld_E) (hfl : l.stackTraces = false) {b : Nat} (L : Nat) (xs : Nat → Int32) (hX : va_X b L xs s s.heap) (hbl : b < s.heap.size) (hbA : ¬ ld_A w s.heap.size b) (hnew : ∀ i, i < 87 → s.heap.size ≤ ld_ad w i) (C : ld_C p l s m #[Value.ref b] meth c code 7 ret wsL_law RL w) (cb sb : Nat) (hcb : cb + 4 ≤ room_1.cells) (hsb : sb + 24 ≤ room_1.slots) (k : ld_M → Int32 → Option Int32) (hk : ∀ (Z : ld_M) (u0 : Int32), ld_T p l e room_1 s m #[Value.ref b] below meth c (lw_Z below #[Value.ref b] s) w (1 : Int32) (k Z u0) Z (cb + 4) (sb + 24) 23 [some (.ref b), some (.ref (ld_ad w 0)), some (.ref (ld_ad w 67)), some (.ref (ld_ad w 86)), some (.int u0), none, none] []) (Z : ld_M) (v4 : Int32) (v5 : Int32) (t0 : Int32) (t1 : Int32) : ld_T p l e room_1 s m #[Value.ref b] below meth c (lw_Z below #[Value.ref b] s) w (1 : Int32) (kL_law_432 L xs k Z v4 v5 t0 t1) Z (cb + 1) (sb + 6) 432 [some (.ref b), some (.ref (ld_ad w 0)), some (.ref (ld_ad w 67)), some (.ref (ld_ad w 86)), some (.int v4), some (.int v5), none] [.int t0, .int t1, .ref (ld_ad w 67)] := by
  unfold kL_law_432
  refine lj_cVb C (As := [.int t1, .int t0]) (rest := []) (i := 67) (ci := 4) (Cn := RX4) (Tb := TX4) (N := 23) (fs := (ld_f4 w) (Z 67)) (fun sz x hx => zX4_setLatest l w Z t1 t0 hx sz) (cwV 2 C.2.2.2.2.1 gL_law_X4_setLatest rfl rfl rfl (by decide +kernel) ⟨Nat.le_of_ble_eq_true rfl, Nat.le_of_ble_eq_true rfl⟩) (by decide) ((fun _ => rfl) _) rfl rfl rfl rfl (Nat.le_of_ble_eq_true rfl) ⟨Nat.le_trans (show cb + 1 + 0 ≤ cb + 4 by omega) hcb, Nat.le_trans (show sb + 6 + 0 ≤ sb + 24 by omega) hsb⟩ dL_law_432 (fun x432 hx432 => ?_)
  refine lj_istore C (lv2 := [some (.ref b), some (.ref (ld_ad w 0)), some (.ref (ld_ad w 67)), some (.ref (ld_ad w 86)), some (.int v4), some (.int v5), some (.int x432.1)]) (Nat.le_of_ble_eq_true rfl) rfl dL_law_435 ?_
  refine lj_aload_n C rfl rfl dL_law_437 ?_
  refine lj_cVa C (As := []) (rest := []) (i := 67) (ci := 4) (Cn := RX4) (Tb := TX4) (N := 23) (fs := (ld_f4 w) (x432.2 67)) (fun sz x hx => zX4_thrown l w x432.2  hx sz) (cwV 0 C.2.2.2.2.1 gL_law_X4_thrown rfl rfl rfl (by decide +kernel) ⟨Nat.le_of_ble_eq_true rfl, Nat.le_of_ble_eq_true rfl⟩) (by decide) ((fun _ => rfl) _) rfl rfl rfl rfl (Nat.le_of_ble_eq_true rfl) ⟨Nat.le_trans (show cb + 1 + 0 ≤ cb + 4 by omega) hcb, Nat.le_trans (show sb + 6 + 0 ≤ sb + 24 by omega) hsb⟩ dL_law_438 (fun x438 hx438 => ?_)
  refine lj_iload C rfl dL_law_441 ?_
  refine lj_icmp_eq C (tgt := 448) dL_law_443 (by decide) ?_ ?_
  · refine lj_iload C rfl dL_law_448 ?_
    refine lj_if_ne C (tgt := 472) dL_law_450 (by decide) ?_ ?_
    · exact bL_law_472 l w hfl L xs hX hbl hbA hnew C cb sb hcb hsb (k) (fun Z9 u0 => hk Z9 u0) x432.2 v4 v5 x432.1
    · refine lj_aload_n C rfl rfl dL_law_453 ?_
      refine lj_iconst C (v := 0) (by decide) dL_law_454 ?_
      refine lj_lald C rfl dL_law_455 ?_
      refine lj_iload C rfl dL_law_456 ?_
      refine lj_if_eq C (tgt := 465) dL_law_458 (by decide) ?_ ?_
      · refine lj_lconst C (v := (0 : Int32).toInt64) (by decide) dL_law_465 ?_
        exact bL_law_466 l w hfl L xs hX hbl hbA hnew C cb sb hcb hsb (k) (fun Z9 u0 => hk Z9 u0) x432.2 v4 v5 x432.1 0 (x432.2 86 (0 : Int32).toNatClampNeg)
      · refine lj_lconst C (v := (1 : Int32).toInt64) (by decide) dL_law_461 ?_
        refine lj_goto C (tgt := 466) dL_law_462 (by decide) ?_
        exact bL_law_466 l w hfl L xs hX hbl hbA hnew C cb sb hcb hsb (k) (fun Z9 u0 => hk Z9 u0) x432.2 v4 v5 x432.1 1 (x432.2 86 (0 : Int32).toNatClampNeg)
  · refine lj_iconst C (v := 0) (by decide) dL_law_446 ?_
    exact lj_lret C hnew (Nat.le_trans (by omega) hcb) (Nat.le_trans (by omega) hsb) dL_law_447
def kL_law_405 (L : Nat) (xs : Nat → Int32) (k : ld_M → Int32 → Option Int32) (Z : ld_M) (v4 : Int32) (t0 : Int32) (t1 : Int32) : Option Int32 := ld_bd (kL_setLatest Z t1 t0) (fun x406 => ld_ck (ld_g (v4 + 1) L) (ld_ck (ld_g (v4 + 2) L) (if ((xs (v4 + 2).toNatClampNeg) : Int32) = 0 then (kL_law_432 L xs (k) x406.2 v4 x406.1 0 (xs (v4 + 1).toNatClampNeg)) else (kL_law_432 L xs (k) x406.2 v4 x406.1 1 (xs (v4 + 1).toNatClampNeg)))))
set_option maxHeartbeats 4000000 in
set_option maxRecDepth 100000 in
theorem bL_law_405 {p : Program} {e : Env} {s : State} {m : MethodId} {below : List Frame} {meth : Method} {c : Code} (l : Launch) (w : ld_E) (hfl : l.stackTraces = false) {b : Nat} (L : Nat) (xs : Nat → Int32) (hX : va_X b L xs s s.heap) (hbl : b < s.heap.size) (hbA : ¬ ld_A w s.heap.size b) (hnew : ∀ i, i < 87 → s.heap.size ≤ ld_ad w i) (C : ld_C p l s m #[Value.ref b] meth c code 7 ret wsL_law RL w) (cb sb : Nat) (hcb : cb + 4 ≤ room_1.cells) (hsb : sb + 24 ≤ room_1.slots) (k : ld_M → Int32 → Option Int32) (hk : ∀ (Z : ld_M) (u0 : Int32), ld_T p l e room_1 s m #[Value.ref b] below meth c (lw_Z below #[Value.ref b] s) w (1 : Int32) (k Z u0) Z (cb + 4) (sb + 24) 23 [some (.ref b), some (.ref (ld_ad w 0)), some (.ref (ld_ad w 67)), some (.ref (ld_ad w 86)), some (.int u0), none, none] []) (Z : ld_M) (v4 : Int32) (t0 : Int32) (t1 : Int32) : ld_T p l e room_1 s m #[Value.ref b] below meth c (lw_Z below #[Value.ref b] s) w (1 : Int32) (kL_law_405 L xs k Z v4 t0 t1) Z (cb + 0) (sb + 0) 405 [some (.ref b), some (.ref (ld_ad w 0)), some (.ref (ld_ad w 67)), some (.ref (ld_ad w 86)), some (.int v4), none, none] [.int t0, .int t1, .ref (ld_ad w 0)] := by
  unfold kL_law_405
  refine lj_aload_n C rfl rfl dL_law_405 ?_
  refine lj_cW C (As := [.ref (ld_ad w 0), .int t1, .int t0, .ref (ld_ad w 86)]) (rest := []) (fun sz x hx => zL_setLatest l hfl w Z t1 t0 hx sz) (vx_cwSW 4 C.2.2.2.2.1 gL_law_L_setLatest rfl rfl rfl (by decide +kernel) ⟨Nat.le_of_ble_eq_true rfl, Nat.le_of_ble_eq_true rfl⟩) rfl rfl rfl (Nat.le_of_ble_eq_true rfl) ⟨Nat.le_trans (show cb + 0 + 1 ≤ cb + 4 by omega) hcb, Nat.le_trans (show sb + 0 + 6 ≤ sb + 24 by omega) hsb⟩ dL_law_406 (fun x406 hx406 => ?_)
  refine lj_istore C (lv2 := [some (.ref b), some (.ref (ld_ad w 0)), some (.ref (ld_ad w 67)), some (.ref (ld_ad w 86)), some (.int v4), some (.int x406.1), none]) (Nat.le_of_ble_eq_true rfl) rfl dL_law_409 ?_
  refine lj_aload_n C rfl rfl dL_law_411 ?_
  refine lj_aload_n C rfl rfl dL_law_412 ?_
  refine lj_iload C rfl dL_law_413 ?_
  refine lj_iconst C (v := 1) (by decide) dL_law_415 ?_
  refine lj_iadd C dL_law_416 ?_
  refine lj_sld C hX hbl hbA dL_law_417 ?_
  refine lj_aload_n C rfl rfl dL_law_418 ?_
  refine lj_iload C rfl dL_law_419 ?_
  refine lj_iconst C (v := 2) (by decide) dL_law_421 ?_
  refine lj_iadd C dL_law_422 ?_
  refine lj_sld C hX hbl hbA dL_law_423 ?_
  refine lj_if_eq C (tgt := 431) dL_law_424 (by decide) ?_ ?_
  · refine lj_iconst C (v := 0) (by decide) dL_law_431 ?_
    exact bL_law_432 l w hfl L xs hX hbl hbA hnew C cb sb hcb hsb (k) (fun Z9 u0 => hk Z9 u0) x406.2 v4 x406.1 0 (xs (v4 + 1).toNatClampNeg)
  · refine lj_iconst C (v := 1) (by decide) dL_law_427 ?_
    refine lj_goto C (tgt := 432) dL_law_428 (by decide) ?_
    exact bL_law_432 l w hfl L xs hX hbl hbA hnew C cb sb hcb hsb (k) (fun Z9 u0 => hk Z9 u0) x406.2 v4 x406.1 1 (xs (v4 + 1).toNatClampNeg)
def kL_law_384 (L : Nat) (xs : Nat → Int32) (k : ld_M → Int32 → Option Int32) (Z : ld_M) (v4 : Int32) : Option Int32 := ld_ck (ld_g (v4 + 1) L) (ld_ck (ld_g (v4 + 2) L) (if ((xs (v4 + 2).toNatClampNeg) : Int32) = 0 then (kL_law_405 L xs (k) Z v4 0 (xs (v4 + 1).toNatClampNeg)) else (kL_law_405 L xs (k) Z v4 1 (xs (v4 + 1).toNatClampNeg))))
set_option maxHeartbeats 4000000 in
set_option maxRecDepth 100000 in
theorem bL_law_384 {p : Program} {e : Env} {s : State} {m : MethodId} {below : List Frame} {meth : Method} {c : Code} (l : Launch) (w : ld_E) (hfl : l.stackTraces = false) {b : Nat} (L : Nat) (xs : Nat → Int32) (hX : va_X b L xs s s.heap) (hbl : b < s.heap.size) (hbA : ¬ ld_A w s.heap.size b) (hnew : ∀ i, i < 87 → s.heap.size ≤ ld_ad w i) (C : ld_C p l s m #[Value.ref b] meth c code 7 ret wsL_law RL w) (cb sb : Nat) (hcb : cb + 4 ≤ room_1.cells) (hsb : sb + 24 ≤ room_1.slots) (k : ld_M → Int32 → Option Int32) (hk : ∀ (Z : ld_M) (u0 : Int32), ld_T p l e room_1 s m #[Value.ref b] below meth c (lw_Z below #[Value.ref b] s) w (1 : Int32) (k Z u0) Z (cb + 4) (sb + 24) 23 [some (.ref b), some (.ref (ld_ad w 0)), some (.ref (ld_ad w 67)), some (.ref (ld_ad w 86)), some (.int u0), none, none] []) (Z : ld_M) (v4 : Int32) : ld_T p l e room_1 s m #[Value.ref b] below meth c (lw_Z below #[Value.ref b] s) w (1 : Int32) (kL_law_384 L xs k Z v4) Z (cb + 0) (sb + 0) 384 [some (.ref b), some (.ref (ld_ad w 0)), some (.ref (ld_ad w 67)), some (.ref (ld_ad w 86)), some (.int v4), none, none] [] := by
  unfold kL_law_384
  refine lj_aload_n C rfl rfl dL_law_384 ?_
  refine lj_aload_n C rfl rfl dL_law_385 ?_
  refine lj_iload C rfl dL_law_386 ?_
  refine lj_iconst C (v := 1) (by decide) dL_law_388 ?_
  refine lj_iadd C dL_law_389 ?_
  refine lj_sld C hX hbl hbA dL_law_390 ?_
  refine lj_aload_n C rfl rfl dL_law_391 ?_
  refine lj_iload C rfl dL_law_392 ?_
  refine lj_iconst C (v := 2) (by decide) dL_law_394 ?_
  refine lj_iadd C dL_law_395 ?_
  refine lj_sld C hX hbl hbA dL_law_396 ?_
  refine lj_if_eq C (tgt := 404) dL_law_397 (by decide) ?_ ?_
  · refine lj_iconst C (v := 0) (by decide) dL_law_404 ?_
    exact bL_law_405 l w hfl L xs hX hbl hbA hnew C cb sb hcb hsb (k) (fun Z9 u0 => hk Z9 u0) Z v4 0 (xs (v4 + 1).toNatClampNeg)
  · refine lj_iconst C (v := 1) (by decide) dL_law_400 ?_
    refine lj_goto C (tgt := 405) dL_law_401 (by decide) ?_
    exact bL_law_405 l w hfl L xs hX hbl hbA hnew C cb sb hcb hsb (k) (fun Z9 u0 => hk Z9 u0) Z v4 1 (xs (v4 + 1).toNatClampNeg)
def kL_law_580 (L : Nat) (xs : Nat → Int32) (k : ld_M → Int32 → Option Int32) (Z : ld_M) (v4 : Int32) (v5 : Int32) (v6 : Int32) : Option Int32 := kL_law_1264 L xs (k) Z v4
set_option maxHeartbeats 4000000 in
set_option maxRecDepth 100000 in
theorem bL_law_580 {p : Program} {e : Env} {s : State} {m : MethodId} {below : List Frame} {meth : Method} {c : Code} (l : Launch) (w : ld_E) (hfl : l.stackTraces = false) {b : Nat} (L : Nat) (xs : Nat → Int32) (hX : va_X b L xs s s.heap) (hbl : b < s.heap.size) (hbA : ¬ ld_A w s.heap.size b) (hnew : ∀ i, i < 87 → s.heap.size ≤ ld_ad w i) (C : ld_C p l s m #[Value.ref b] meth c code 7 ret wsL_law RL w) (cb sb : Nat) (hcb : cb + 4 ≤ room_1.cells) (hsb : sb + 24 ≤ room_1.slots) (k : ld_M → Int32 → Option Int32) (hk : ∀ (Z : ld_M) (u0 : Int32), ld_T p l e room_1 s m #[Value.ref b] below meth c (lw_Z below #[Value.ref b] s) w (1 : Int32) (k Z u0) Z (cb + 4) (sb + 24) 23 [some (.ref b), some (.ref (ld_ad w 0)), some (.ref (ld_ad w 67)), some (.ref (ld_ad w 86)), some (.int u0), none, none] []) (Z : ld_M) (v4 : Int32) (v5 : Int32) (v6 : Int32) : ld_T p l e room_1 s m #[Value.ref b] below meth c (lw_Z below #[Value.ref b] s) w (1 : Int32) (kL_law_580 L xs k Z v4 v5 v6) Z (cb + 4) (sb + 24) 580 [some (.ref b), some (.ref (ld_ad w 0)), some (.ref (ld_ad w 67)), some (.ref (ld_ad w 86)), some (.int v4), some (.int v5), some (.int v6)] [] := by
  unfold kL_law_580
  refine lj_goto C (tgt := 1264) dL_law_580 (by decide) ?_
  refine lj_forget (lv2 := [some (.ref b), some (.ref (ld_ad w 0)), some (.ref (ld_ad w 67)), some (.ref (ld_ad w 86)), some (.int v4), none, none]) (by simp [ld_le]) ?_
  exact bL_law_1264 l w hfl L xs hX hbl hbA hnew C cb sb hcb hsb (k) (fun Z9 u0 => hk Z9 u0) Z v4
def kL_law_547 (L : Nat) (xs : Nat → Int32) (k : ld_M → Int32 → Option Int32) (Z : ld_M) (v4 : Int32) (v5 : Int32) (t0 : Int32) (t1 : Int32) (t2 : Int32) (t3 : Int32) : Option Int32 := ld_bd (kX4_addCue Z t3 t2 t1 t0) (fun x547 => ld_bd (kX4_thrown x547.2) (fun x553 => if (x553 : Int32) = v5 then (if (v5 : Int32) = 0 then (ld_ck (ld_g 0 1) (if ((lg_cmp (x547.2 86 (0 : Int32).toNatClampNeg).toInt64 x547.1.toInt64) : Int32) = 0 then (kL_law_580 L xs (k) x547.2 v4 v5 x547.1) else (some 0))) else (kL_law_580 L xs (k) x547.2 v4 v5 x547.1)) else (some 0)))
set_option maxHeartbeats 4000000 in
set_option maxRecDepth 100000 in
theorem bL_law_547 {p : Program} {e : Env} {s : State} {m : MethodId} {below : List Frame} {meth : Method} {c : Code} (l : Launch) (w : ld_E) (hfl : l.stackTraces = false) {b : Nat} (L : Nat) (xs : Nat → Int32) (hX : va_X b L xs s s.heap) (hbl : b < s.heap.size) (hbA : ¬ ld_A w s.heap.size b) (hnew : ∀ i, i < 87 → s.heap.size ≤ ld_ad w i) (C : ld_C p l s m #[Value.ref b] meth c code 7 ret wsL_law RL w) (cb sb : Nat) (hcb : cb + 4 ≤ room_1.cells) (hsb : sb + 24 ≤ room_1.slots) (k : ld_M → Int32 → Option Int32) (hk : ∀ (Z : ld_M) (u0 : Int32), ld_T p l e room_1 s m #[Value.ref b] below meth c (lw_Z below #[Value.ref b] s) w (1 : Int32) (k Z u0) Z (cb + 4) (sb + 24) 23 [some (.ref b), some (.ref (ld_ad w 0)), some (.ref (ld_ad w 67)), some (.ref (ld_ad w 86)), some (.int u0), none, none] []) (Z : ld_M) (v4 : Int32) (v5 : Int32) (t0 : Int32) (t1 : Int32) (t2 : Int32) (t3 : Int32) : ld_T p l e room_1 s m #[Value.ref b] below meth c (lw_Z below #[Value.ref b] s) w (1 : Int32) (kL_law_547 L xs k Z v4 v5 t0 t1 t2 t3) Z (cb + 4) (sb + 24) 547 [some (.ref b), some (.ref (ld_ad w 0)), some (.ref (ld_ad w 67)), some (.ref (ld_ad w 86)), some (.int v4), some (.int v5), none] [.int t0, .int t1, .int t2, .int t3, .ref (ld_ad w 67)] := by
  unfold kL_law_547
  refine lj_cVb C (As := [.int t3, .int t2, .int t1, .int t0]) (rest := []) (i := 67) (ci := 4) (Cn := RX4) (Tb := TX4) (N := 23) (fs := (ld_f4 w) (Z 67)) (fun sz x hx => zX4_addCue l w Z t3 t2 t1 t0 hx sz) (cwV 4 C.2.2.2.2.1 gL_law_X4_addCue rfl rfl rfl (by decide +kernel) ⟨Nat.le_of_ble_eq_true rfl, Nat.le_of_ble_eq_true rfl⟩) (by decide) ((fun _ => rfl) _) rfl rfl rfl rfl (Nat.le_of_ble_eq_true rfl) ⟨Nat.le_trans (show cb + 4 + 0 ≤ cb + 4 by omega) hcb, Nat.le_trans (show sb + 24 + 0 ≤ sb + 24 by omega) hsb⟩ dL_law_547 (fun x547 hx547 => ?_)
  refine lj_istore C (lv2 := [some (.ref b), some (.ref (ld_ad w 0)), some (.ref (ld_ad w 67)), some (.ref (ld_ad w 86)), some (.int v4), some (.int v5), some (.int x547.1)]) (Nat.le_of_ble_eq_true rfl) rfl dL_law_550 ?_
  refine lj_aload_n C rfl rfl dL_law_552 ?_
  refine lj_cVa C (As := []) (rest := []) (i := 67) (ci := 4) (Cn := RX4) (Tb := TX4) (N := 23) (fs := (ld_f4 w) (x547.2 67)) (fun sz x hx => zX4_thrown l w x547.2  hx sz) (cwV 0 C.2.2.2.2.1 gL_law_X4_thrown rfl rfl rfl (by decide +kernel) ⟨Nat.le_of_ble_eq_true rfl, Nat.le_of_ble_eq_true rfl⟩) (by decide) ((fun _ => rfl) _) rfl rfl rfl rfl (Nat.le_of_ble_eq_true rfl) ⟨Nat.le_trans (show cb + 4 + 0 ≤ cb + 4 by omega) hcb, Nat.le_trans (show sb + 24 + 0 ≤ sb + 24 by omega) hsb⟩ dL_law_553 (fun x553 hx553 => ?_)
  refine lj_iload C rfl dL_law_556 ?_
  refine lj_icmp_eq C (tgt := 563) dL_law_558 (by decide) ?_ ?_
  · refine lj_iload C rfl dL_law_563 ?_
    refine lj_if_ne C (tgt := 580) dL_law_565 (by decide) ?_ ?_
    · exact bL_law_580 l w hfl L xs hX hbl hbA hnew C cb sb hcb hsb (k) (fun Z9 u0 => hk Z9 u0) x547.2 v4 v5 x547.1
    · refine lj_aload_n C rfl rfl dL_law_568 ?_
      refine lj_iconst C (v := 0) (by decide) dL_law_569 ?_
      refine lj_lald C rfl dL_law_570 ?_
      refine lj_iload C rfl dL_law_571 ?_
      refine lj_i2l C rfl dL_law_573 ?_
      refine lj_lcmp C dL_law_574 ?_
      refine lj_if_eq C (tgt := 580) dL_law_575 (by decide) ?_ ?_
      · exact bL_law_580 l w hfl L xs hX hbl hbA hnew C cb sb hcb hsb (k) (fun Z9 u0 => hk Z9 u0) x547.2 v4 v5 x547.1
      · refine lj_iconst C (v := 0) (by decide) dL_law_578 ?_
        exact lj_lret C hnew (Nat.le_trans (by omega) hcb) (Nat.le_trans (by omega) hsb) dL_law_579
  · refine lj_iconst C (v := 0) (by decide) dL_law_561 ?_
    exact lj_lret C hnew (Nat.le_trans (by omega) hcb) (Nat.le_trans (by omega) hsb) dL_law_562
def kL_law_508 (L : Nat) (xs : Nat → Int32) (k : ld_M → Int32 → Option Int32) (Z : ld_M) (v4 : Int32) (t0 : Int32) (t1 : Int32) (t2 : Int32) (t3 : Int32) : Option Int32 := ld_bd (kL_addCue Z t3 t2 t1 t0) (fun x509 => ld_ck (ld_g (v4 + 1) L) (ld_ck (ld_g (v4 + 2) L) (ld_ck (ld_g (v4 + 3) L) (ld_ck (ld_g (v4 + 4) L) (if ((xs (v4 + 4).toNatClampNeg) : Int32) = 0 then (kL_law_547 L xs (k) x509.2 v4 x509.1 0 (xs (v4 + 3).toNatClampNeg) (xs (v4 + 2).toNatClampNeg) (xs (v4 + 1).toNatClampNeg)) else (kL_law_547 L xs (k) x509.2 v4 x509.1 1 (xs (v4 + 3).toNatClampNeg) (xs (v4 + 2).toNatClampNeg) (xs (v4 + 1).toNatClampNeg)))))))
set_option maxHeartbeats 4000000 in
set_option maxRecDepth 100000 in
theorem bL_law_508 {p : Program} {e : Env} {s : State} {m : MethodId} {below : List Frame} {meth : Method} {c : Code} (l : Launch) (w : ld_E) (hfl : l.stackTraces = false) {b : Nat} (L : Nat) (xs : Nat → Int32) (hX : va_X b L xs s s.heap) (hbl : b < s.heap.size) (hbA : ¬ ld_A w s.heap.size b) (hnew : ∀ i, i < 87 → s.heap.size ≤ ld_ad w i) (C : ld_C p l s m #[Value.ref b] meth c code 7 ret wsL_law RL w) (cb sb : Nat) (hcb : cb + 4 ≤ room_1.cells) (hsb : sb + 24 ≤ room_1.slots) (k : ld_M → Int32 → Option Int32) (hk : ∀ (Z : ld_M) (u0 : Int32), ld_T p l e room_1 s m #[Value.ref b] below meth c (lw_Z below #[Value.ref b] s) w (1 : Int32) (k Z u0) Z (cb + 4) (sb + 24) 23 [some (.ref b), some (.ref (ld_ad w 0)), some (.ref (ld_ad w 67)), some (.ref (ld_ad w 86)), some (.int u0), none, none] []) (Z : ld_M) (v4 : Int32) (t0 : Int32) (t1 : Int32) (t2 : Int32) (t3 : Int32) : ld_T p l e room_1 s m #[Value.ref b] below meth c (lw_Z below #[Value.ref b] s) w (1 : Int32) (kL_law_508 L xs k Z v4 t0 t1 t2 t3) Z (cb + 0) (sb + 0) 508 [some (.ref b), some (.ref (ld_ad w 0)), some (.ref (ld_ad w 67)), some (.ref (ld_ad w 86)), some (.int v4), none, none] [.int t0, .int t1, .int t2, .int t3, .ref (ld_ad w 0)] := by
  unfold kL_law_508
  refine lj_aload_n C rfl rfl dL_law_508 ?_
  refine lj_cW C (As := [.ref (ld_ad w 0), .int t3, .int t2, .int t1, .int t0, .ref (ld_ad w 86)]) (rest := []) (fun sz x hx => zL_addCue l hfl w Z t3 t2 t1 t0 hx sz) (vx_cwSW 6 C.2.2.2.2.1 gL_law_L_addCue rfl rfl rfl (by decide +kernel) ⟨Nat.le_of_ble_eq_true rfl, Nat.le_of_ble_eq_true rfl⟩) rfl rfl rfl (Nat.le_of_ble_eq_true rfl) ⟨Nat.le_trans (show cb + 0 + 4 ≤ cb + 4 by omega) hcb, Nat.le_trans (show sb + 0 + 24 ≤ sb + 24 by omega) hsb⟩ dL_law_509 (fun x509 hx509 => ?_)
  refine lj_istore C (lv2 := [some (.ref b), some (.ref (ld_ad w 0)), some (.ref (ld_ad w 67)), some (.ref (ld_ad w 86)), some (.int v4), some (.int x509.1), none]) (Nat.le_of_ble_eq_true rfl) rfl dL_law_512 ?_
  refine lj_aload_n C rfl rfl dL_law_514 ?_
  refine lj_aload_n C rfl rfl dL_law_515 ?_
  refine lj_iload C rfl dL_law_516 ?_
  refine lj_iconst C (v := 1) (by decide) dL_law_518 ?_
  refine lj_iadd C dL_law_519 ?_
  refine lj_sld C hX hbl hbA dL_law_520 ?_
  refine lj_aload_n C rfl rfl dL_law_521 ?_
  refine lj_iload C rfl dL_law_522 ?_
  refine lj_iconst C (v := 2) (by decide) dL_law_524 ?_
  refine lj_iadd C dL_law_525 ?_
  refine lj_sld C hX hbl hbA dL_law_526 ?_
  refine lj_aload_n C rfl rfl dL_law_527 ?_
  refine lj_iload C rfl dL_law_528 ?_
  refine lj_iconst C (v := 3) (by decide) dL_law_530 ?_
  refine lj_iadd C dL_law_531 ?_
  refine lj_sld C hX hbl hbA dL_law_532 ?_
  refine lj_aload_n C rfl rfl dL_law_533 ?_
  refine lj_iload C rfl dL_law_534 ?_
  refine lj_iconst C (v := 4) (by decide) dL_law_536 ?_
  refine lj_iadd C dL_law_537 ?_
  refine lj_sld C hX hbl hbA dL_law_538 ?_
  refine lj_if_eq C (tgt := 546) dL_law_539 (by decide) ?_ ?_
  · refine lj_iconst C (v := 0) (by decide) dL_law_546 ?_
    exact bL_law_547 l w hfl L xs hX hbl hbA hnew C cb sb hcb hsb (k) (fun Z9 u0 => hk Z9 u0) x509.2 v4 x509.1 0 (xs (v4 + 3).toNatClampNeg) (xs (v4 + 2).toNatClampNeg) (xs (v4 + 1).toNatClampNeg)
  · refine lj_iconst C (v := 1) (by decide) dL_law_542 ?_
    refine lj_goto C (tgt := 547) dL_law_543 (by decide) ?_
    exact bL_law_547 l w hfl L xs hX hbl hbA hnew C cb sb hcb hsb (k) (fun Z9 u0 => hk Z9 u0) x509.2 v4 x509.1 1 (xs (v4 + 3).toNatClampNeg) (xs (v4 + 2).toNatClampNeg) (xs (v4 + 1).toNatClampNeg)
def kL_law_475 (L : Nat) (xs : Nat → Int32) (k : ld_M → Int32 → Option Int32) (Z : ld_M) (v4 : Int32) : Option Int32 := ld_ck (ld_g (v4 + 1) L) (ld_ck (ld_g (v4 + 2) L) (ld_ck (ld_g (v4 + 3) L) (ld_ck (ld_g (v4 + 4) L) (if ((xs (v4 + 4).toNatClampNeg) : Int32) = 0 then (kL_law_508 L xs (k) Z v4 0 (xs (v4 + 3).toNatClampNeg) (xs (v4 + 2).toNatClampNeg) (xs (v4 + 1).toNatClampNeg)) else (kL_law_508 L xs (k) Z v4 1 (xs (v4 + 3).toNatClampNeg) (xs (v4 + 2).toNatClampNeg) (xs (v4 + 1).toNatClampNeg))))))
set_option maxHeartbeats 4000000 in
set_option maxRecDepth 100000 in
theorem bL_law_475 {p : Program} {e : Env} {s : State} {m : MethodId} {below : List Frame} {meth : Method} {c : Code} (l : Launch) (w : ld_E) (hfl : l.stackTraces = false) {b : Nat} (L : Nat) (xs : Nat → Int32) (hX : va_X b L xs s s.heap) (hbl : b < s.heap.size) (hbA : ¬ ld_A w s.heap.size b) (hnew : ∀ i, i < 87 → s.heap.size ≤ ld_ad w i) (C : ld_C p l s m #[Value.ref b] meth c code 7 ret wsL_law RL w) (cb sb : Nat) (hcb : cb + 4 ≤ room_1.cells) (hsb : sb + 24 ≤ room_1.slots) (k : ld_M → Int32 → Option Int32) (hk : ∀ (Z : ld_M) (u0 : Int32), ld_T p l e room_1 s m #[Value.ref b] below meth c (lw_Z below #[Value.ref b] s) w (1 : Int32) (k Z u0) Z (cb + 4) (sb + 24) 23 [some (.ref b), some (.ref (ld_ad w 0)), some (.ref (ld_ad w 67)), some (.ref (ld_ad w 86)), some (.int u0), none, none] []) (Z : ld_M) (v4 : Int32) : ld_T p l e room_1 s m #[Value.ref b] below meth c (lw_Z below #[Value.ref b] s) w (1 : Int32) (kL_law_475 L xs k Z v4) Z (cb + 0) (sb + 0) 475 [some (.ref b), some (.ref (ld_ad w 0)), some (.ref (ld_ad w 67)), some (.ref (ld_ad w 86)), some (.int v4), none, none] [] := by
  unfold kL_law_475
  refine lj_aload_n C rfl rfl dL_law_475 ?_
  refine lj_aload_n C rfl rfl dL_law_476 ?_
  refine lj_iload C rfl dL_law_477 ?_
  refine lj_iconst C (v := 1) (by decide) dL_law_479 ?_
  refine lj_iadd C dL_law_480 ?_
  refine lj_sld C hX hbl hbA dL_law_481 ?_
  refine lj_aload_n C rfl rfl dL_law_482 ?_
  refine lj_iload C rfl dL_law_483 ?_
  refine lj_iconst C (v := 2) (by decide) dL_law_485 ?_
  refine lj_iadd C dL_law_486 ?_
  refine lj_sld C hX hbl hbA dL_law_487 ?_
  refine lj_aload_n C rfl rfl dL_law_488 ?_
  refine lj_iload C rfl dL_law_489 ?_
  refine lj_iconst C (v := 3) (by decide) dL_law_491 ?_
  refine lj_iadd C dL_law_492 ?_
  refine lj_sld C hX hbl hbA dL_law_493 ?_
  refine lj_aload_n C rfl rfl dL_law_494 ?_
  refine lj_iload C rfl dL_law_495 ?_
  refine lj_iconst C (v := 4) (by decide) dL_law_497 ?_
  refine lj_iadd C dL_law_498 ?_
  refine lj_sld C hX hbl hbA dL_law_499 ?_
  refine lj_if_eq C (tgt := 507) dL_law_500 (by decide) ?_ ?_
  · refine lj_iconst C (v := 0) (by decide) dL_law_507 ?_
    exact bL_law_508 l w hfl L xs hX hbl hbA hnew C cb sb hcb hsb (k) (fun Z9 u0 => hk Z9 u0) Z v4 0 (xs (v4 + 3).toNatClampNeg) (xs (v4 + 2).toNatClampNeg) (xs (v4 + 1).toNatClampNeg)
  · refine lj_iconst C (v := 1) (by decide) dL_law_503 ?_
    refine lj_goto C (tgt := 508) dL_law_504 (by decide) ?_
    exact bL_law_508 l w hfl L xs hX hbl hbA hnew C cb sb hcb hsb (k) (fun Z9 u0 => hk Z9 u0) Z v4 1 (xs (v4 + 3).toNatClampNeg) (xs (v4 + 2).toNatClampNeg) (xs (v4 + 1).toNatClampNeg)
def kL_law_672 (L : Nat) (xs : Nat → Int32) (k : ld_M → Int32 → Option Int32) (Z : ld_M) (v4 : Int32) (v5 : Int32) (v6 : Int32) : Option Int32 := kL_law_1264 L xs (k) Z v4
set_option maxHeartbeats 4000000 in
set_option maxRecDepth 100000 in
theorem bL_law_672 {p : Program} {e : Env} {s : State} {m : MethodId} {below : List Frame} {meth : Method} {c : Code} (l : Launch) (w : ld_E) (hfl : l.stackTraces = false) {b : Nat} (L : Nat) (xs : Nat → Int32) (hX : va_X b L xs s s.heap) (hbl : b < s.heap.size) (hbA : ¬ ld_A w s.heap.size b) (hnew : ∀ i, i < 87 → s.heap.size ≤ ld_ad w i) (C : ld_C p l s m #[Value.ref b] meth c code 7 ret wsL_law RL w) (cb sb : Nat) (hcb : cb + 4 ≤ room_1.cells) (hsb : sb + 24 ≤ room_1.slots) (k : ld_M → Int32 → Option Int32) (hk : ∀ (Z : ld_M) (u0 : Int32), ld_T p l e room_1 s m #[Value.ref b] below meth c (lw_Z below #[Value.ref b] s) w (1 : Int32) (k Z u0) Z (cb + 4) (sb + 24) 23 [some (.ref b), some (.ref (ld_ad w 0)), some (.ref (ld_ad w 67)), some (.ref (ld_ad w 86)), some (.int u0), none, none] []) (Z : ld_M) (v4 : Int32) (v5 : Int32) (v6 : Int32) : ld_T p l e room_1 s m #[Value.ref b] below meth c (lw_Z below #[Value.ref b] s) w (1 : Int32) (kL_law_672 L xs k Z v4 v5 v6) Z (cb + 4) (sb + 24) 672 [some (.ref b), some (.ref (ld_ad w 0)), some (.ref (ld_ad w 67)), some (.ref (ld_ad w 86)), some (.int v4), some (.int v5), some (.int v6)] [] := by
  unfold kL_law_672
  refine lj_goto C (tgt := 1264) dL_law_672 (by decide) ?_
  refine lj_forget (lv2 := [some (.ref b), some (.ref (ld_ad w 0)), some (.ref (ld_ad w 67)), some (.ref (ld_ad w 86)), some (.int v4), none, none]) (by simp [ld_le]) ?_
  exact bL_law_1264 l w hfl L xs hX hbl hbA hnew C cb sb hcb hsb (k) (fun Z9 u0 => hk Z9 u0) Z v4
def kL_law_583 (L : Nat) (xs : Nat → Int32) (k : ld_M → Int32 → Option Int32) (Z : ld_M) (v4 : Int32) : Option Int32 := ld_ck (ld_g (v4 + 1) L) (ld_ck (ld_g (v4 + 2) L) (ld_ck (ld_g (v4 + 3) L) (ld_ck (ld_g (v4 + 4) L) (ld_bd (kL_setLevel Z (xs (v4 + 1).toNatClampNeg) (xs (v4 + 2).toNatClampNeg) (xs (v4 + 3).toNatClampNeg) (xs (v4 + 4).toNatClampNeg)) (fun x609 => ld_ck (ld_g (v4 + 1) L) (ld_ck (ld_g (v4 + 2) L) (ld_ck (ld_g (v4 + 3) L) (ld_ck (ld_g (v4 + 4) L) (ld_bd (kX4_setLevel x609.2 (xs (v4 + 1).toNatClampNeg) (xs (v4 + 2).toNatClampNeg) (xs (v4 + 3).toNatClampNeg) (xs (v4 + 4).toNatClampNeg)) (fun x639 => ld_bd (kX4_thrown x639.2) (fun x645 => if (x645 : Int32) = x609.1 then (if (x609.1 : Int32) = 0 then (ld_ck (ld_g 0 1) (if ((lg_cmp (x639.2 86 (0 : Int32).toNatClampNeg).toInt64 x639.1.toInt64) : Int32) = 0 then (kL_law_672 L xs (k) x639.2 v4 x609.1 x639.1) else (some 0))) else (kL_law_672 L xs (k) x639.2 v4 x609.1 x639.1)) else (some 0))))))))))))
set_option maxHeartbeats 4000000 in
set_option maxRecDepth 100000 in
theorem bL_law_583 {p : Program} {e : Env} {s : State} {m : MethodId} {below : List Frame} {meth : Method} {c : Code} (l : Launch) (w : ld_E) (hfl : l.stackTraces = false) {b : Nat} (L : Nat) (xs : Nat → Int32) (hX : va_X b L xs s s.heap) (hbl : b < s.heap.size) (hbA : ¬ ld_A w s.heap.size b) (hnew : ∀ i, i < 87 → s.heap.size ≤ ld_ad w i) (C : ld_C p l s m #[Value.ref b] meth c code 7 ret wsL_law RL w) (cb sb : Nat) (hcb : cb + 4 ≤ room_1.cells) (hsb : sb + 24 ≤ room_1.slots) (k : ld_M → Int32 → Option Int32) (hk : ∀ (Z : ld_M) (u0 : Int32), ld_T p l e room_1 s m #[Value.ref b] below meth c (lw_Z below #[Value.ref b] s) w (1 : Int32) (k Z u0) Z (cb + 4) (sb + 24) 23 [some (.ref b), some (.ref (ld_ad w 0)), some (.ref (ld_ad w 67)), some (.ref (ld_ad w 86)), some (.int u0), none, none] []) (Z : ld_M) (v4 : Int32) : ld_T p l e room_1 s m #[Value.ref b] below meth c (lw_Z below #[Value.ref b] s) w (1 : Int32) (kL_law_583 L xs k Z v4) Z (cb + 0) (sb + 0) 583 [some (.ref b), some (.ref (ld_ad w 0)), some (.ref (ld_ad w 67)), some (.ref (ld_ad w 86)), some (.int v4), none, none] [] := by
  unfold kL_law_583
  refine lj_aload_n C rfl rfl dL_law_583 ?_
  refine lj_aload_n C rfl rfl dL_law_584 ?_
  refine lj_iload C rfl dL_law_585 ?_
  refine lj_iconst C (v := 1) (by decide) dL_law_587 ?_
  refine lj_iadd C dL_law_588 ?_
  refine lj_sld C hX hbl hbA dL_law_589 ?_
  refine lj_aload_n C rfl rfl dL_law_590 ?_
  refine lj_iload C rfl dL_law_591 ?_
  refine lj_iconst C (v := 2) (by decide) dL_law_593 ?_
  refine lj_iadd C dL_law_594 ?_
  refine lj_sld C hX hbl hbA dL_law_595 ?_
  refine lj_aload_n C rfl rfl dL_law_596 ?_
  refine lj_iload C rfl dL_law_597 ?_
  refine lj_iconst C (v := 3) (by decide) dL_law_599 ?_
  refine lj_iadd C dL_law_600 ?_
  refine lj_sld C hX hbl hbA dL_law_601 ?_
  refine lj_aload_n C rfl rfl dL_law_602 ?_
  refine lj_iload C rfl dL_law_603 ?_
  refine lj_iconst C (v := 4) (by decide) dL_law_605 ?_
  refine lj_iadd C dL_law_606 ?_
  refine lj_sld C hX hbl hbA dL_law_607 ?_
  refine lj_aload_n C rfl rfl dL_law_608 ?_
  refine lj_cW C (As := [.ref (ld_ad w 0), .int (xs (v4 + 1).toNatClampNeg), .int (xs (v4 + 2).toNatClampNeg), .int (xs (v4 + 3).toNatClampNeg), .int (xs (v4 + 4).toNatClampNeg), .ref (ld_ad w 86)]) (rest := []) (fun sz x hx => zL_setLevel l hfl w Z (xs (v4 + 1).toNatClampNeg) (xs (v4 + 2).toNatClampNeg) (xs (v4 + 3).toNatClampNeg) (xs (v4 + 4).toNatClampNeg) hx sz) (vx_cwSW 6 C.2.2.2.2.1 gL_law_L_setLevel rfl rfl rfl (by decide +kernel) ⟨Nat.le_of_ble_eq_true rfl, Nat.le_of_ble_eq_true rfl⟩) rfl rfl rfl (Nat.le_of_ble_eq_true rfl) ⟨Nat.le_trans (show cb + 0 + 4 ≤ cb + 4 by omega) hcb, Nat.le_trans (show sb + 0 + 24 ≤ sb + 24 by omega) hsb⟩ dL_law_609 (fun x609 hx609 => ?_)
  refine lj_istore C (lv2 := [some (.ref b), some (.ref (ld_ad w 0)), some (.ref (ld_ad w 67)), some (.ref (ld_ad w 86)), some (.int v4), some (.int x609.1), none]) (Nat.le_of_ble_eq_true rfl) rfl dL_law_612 ?_
  refine lj_aload_n C rfl rfl dL_law_614 ?_
  refine lj_aload_n C rfl rfl dL_law_615 ?_
  refine lj_iload C rfl dL_law_616 ?_
  refine lj_iconst C (v := 1) (by decide) dL_law_618 ?_
  refine lj_iadd C dL_law_619 ?_
  refine lj_sld C hX hbl hbA dL_law_620 ?_
  refine lj_aload_n C rfl rfl dL_law_621 ?_
  refine lj_iload C rfl dL_law_622 ?_
  refine lj_iconst C (v := 2) (by decide) dL_law_624 ?_
  refine lj_iadd C dL_law_625 ?_
  refine lj_sld C hX hbl hbA dL_law_626 ?_
  refine lj_aload_n C rfl rfl dL_law_627 ?_
  refine lj_iload C rfl dL_law_628 ?_
  refine lj_iconst C (v := 3) (by decide) dL_law_630 ?_
  refine lj_iadd C dL_law_631 ?_
  refine lj_sld C hX hbl hbA dL_law_632 ?_
  refine lj_aload_n C rfl rfl dL_law_633 ?_
  refine lj_iload C rfl dL_law_634 ?_
  refine lj_iconst C (v := 4) (by decide) dL_law_636 ?_
  refine lj_iadd C dL_law_637 ?_
  refine lj_sld C hX hbl hbA dL_law_638 ?_
  refine lj_cVb C (As := [.int (xs (v4 + 1).toNatClampNeg), .int (xs (v4 + 2).toNatClampNeg), .int (xs (v4 + 3).toNatClampNeg), .int (xs (v4 + 4).toNatClampNeg)]) (rest := []) (i := 67) (ci := 4) (Cn := RX4) (Tb := TX4) (N := 23) (fs := (ld_f4 w) (x609.2 67)) (fun sz x hx => zX4_setLevel l w x609.2 (xs (v4 + 1).toNatClampNeg) (xs (v4 + 2).toNatClampNeg) (xs (v4 + 3).toNatClampNeg) (xs (v4 + 4).toNatClampNeg) hx sz) (cwV 4 C.2.2.2.2.1 gL_law_X4_setLevel rfl rfl rfl (by decide +kernel) ⟨Nat.le_of_ble_eq_true rfl, Nat.le_of_ble_eq_true rfl⟩) (by decide) ((fun _ => rfl) _) rfl rfl rfl rfl (Nat.le_of_ble_eq_true rfl) ⟨Nat.le_trans (show cb + 4 + 0 ≤ cb + 4 by omega) hcb, Nat.le_trans (show sb + 24 + 0 ≤ sb + 24 by omega) hsb⟩ dL_law_639 (fun x639 hx639 => ?_)
  refine lj_istore C (lv2 := [some (.ref b), some (.ref (ld_ad w 0)), some (.ref (ld_ad w 67)), some (.ref (ld_ad w 86)), some (.int v4), some (.int x609.1), some (.int x639.1)]) (Nat.le_of_ble_eq_true rfl) rfl dL_law_642 ?_
  refine lj_aload_n C rfl rfl dL_law_644 ?_
  refine lj_cVa C (As := []) (rest := []) (i := 67) (ci := 4) (Cn := RX4) (Tb := TX4) (N := 23) (fs := (ld_f4 w) (x639.2 67)) (fun sz x hx => zX4_thrown l w x639.2  hx sz) (cwV 0 C.2.2.2.2.1 gL_law_X4_thrown rfl rfl rfl (by decide +kernel) ⟨Nat.le_of_ble_eq_true rfl, Nat.le_of_ble_eq_true rfl⟩) (by decide) ((fun _ => rfl) _) rfl rfl rfl rfl (Nat.le_of_ble_eq_true rfl) ⟨Nat.le_trans (show cb + 4 + 0 ≤ cb + 4 by omega) hcb, Nat.le_trans (show sb + 24 + 0 ≤ sb + 24 by omega) hsb⟩ dL_law_645 (fun x645 hx645 => ?_)
  refine lj_iload C rfl dL_law_648 ?_
  refine lj_icmp_eq C (tgt := 655) dL_law_650 (by decide) ?_ ?_
  · refine lj_iload C rfl dL_law_655 ?_
    refine lj_if_ne C (tgt := 672) dL_law_657 (by decide) ?_ ?_
    · exact bL_law_672 l w hfl L xs hX hbl hbA hnew C cb sb hcb hsb (k) (fun Z9 u0 => hk Z9 u0) x639.2 v4 x609.1 x639.1
    · refine lj_aload_n C rfl rfl dL_law_660 ?_
      refine lj_iconst C (v := 0) (by decide) dL_law_661 ?_
      refine lj_lald C rfl dL_law_662 ?_
      refine lj_iload C rfl dL_law_663 ?_
      refine lj_i2l C rfl dL_law_665 ?_
      refine lj_lcmp C dL_law_666 ?_
      refine lj_if_eq C (tgt := 672) dL_law_667 (by decide) ?_ ?_
      · exact bL_law_672 l w hfl L xs hX hbl hbA hnew C cb sb hcb hsb (k) (fun Z9 u0 => hk Z9 u0) x639.2 v4 x609.1 x639.1
      · refine lj_iconst C (v := 0) (by decide) dL_law_670 ?_
        exact lj_lret C hnew (Nat.le_trans (by omega) hcb) (Nat.le_trans (by omega) hsb) dL_law_671
  · refine lj_iconst C (v := 0) (by decide) dL_law_653 ?_
    exact lj_lret C hnew (Nat.le_trans (by omega) hcb) (Nat.le_trans (by omega) hsb) dL_law_654
def kL_law_716 (L : Nat) (xs : Nat → Int32) (k : ld_M → Int32 → Option Int32) (Z : ld_M) (v4 : Int32) (v5 : Int32) (v6 : Int32) : Option Int32 := kL_law_1264 L xs (k) Z v4
set_option maxHeartbeats 4000000 in
set_option maxRecDepth 100000 in
theorem bL_law_716 {p : Program} {e : Env} {s : State} {m : MethodId} {below : List Frame} {meth : Method} {c : Code} (l : Launch) (w : ld_E) (hfl : l.stackTraces = false) {b : Nat} (L : Nat) (xs : Nat → Int32) (hX : va_X b L xs s s.heap) (hbl : b < s.heap.size) (hbA : ¬ ld_A w s.heap.size b) (hnew : ∀ i, i < 87 → s.heap.size ≤ ld_ad w i) (C : ld_C p l s m #[Value.ref b] meth c code 7 ret wsL_law RL w) (cb sb : Nat) (hcb : cb + 4 ≤ room_1.cells) (hsb : sb + 24 ≤ room_1.slots) (k : ld_M → Int32 → Option Int32) (hk : ∀ (Z : ld_M) (u0 : Int32), ld_T p l e room_1 s m #[Value.ref b] below meth c (lw_Z below #[Value.ref b] s) w (1 : Int32) (k Z u0) Z (cb + 4) (sb + 24) 23 [some (.ref b), some (.ref (ld_ad w 0)), some (.ref (ld_ad w 67)), some (.ref (ld_ad w 86)), some (.int u0), none, none] []) (Z : ld_M) (v4 : Int32) (v5 : Int32) (v6 : Int32) : ld_T p l e room_1 s m #[Value.ref b] below meth c (lw_Z below #[Value.ref b] s) w (1 : Int32) (kL_law_716 L xs k Z v4 v5 v6) Z (cb + 1) (sb + 6) 716 [some (.ref b), some (.ref (ld_ad w 0)), some (.ref (ld_ad w 67)), some (.ref (ld_ad w 86)), some (.int v4), some (.int v5), some (.int v6)] [] := by
  unfold kL_law_716
  refine lj_goto C (tgt := 1264) dL_law_716 (by decide) ?_
  refine lj_wide (k := cb + 4) (n := sb + 24) (by omega) (by omega) ?_
  refine lj_forget (lv2 := [some (.ref b), some (.ref (ld_ad w 0)), some (.ref (ld_ad w 67)), some (.ref (ld_ad w 86)), some (.int v4), none, none]) (by simp [ld_le]) ?_
  exact bL_law_1264 l w hfl L xs hX hbl hbA hnew C cb sb hcb hsb (k) (fun Z9 u0 => hk Z9 u0) Z v4
def kL_law_675 (L : Nat) (xs : Nat → Int32) (k : ld_M → Int32 → Option Int32) (Z : ld_M) (v4 : Int32) : Option Int32 := ld_bd (kL_undo Z) (fun x677 => ld_bd (kX4_undo x677.2) (fun x683 => ld_bd (kX4_thrown x683.2) (fun x689 => if (x689 : Int32) = x677.1 then (if (x677.1 : Int32) = 0 then (ld_ck (ld_g 0 1) (if ((lg_cmp (x683.2 86 (0 : Int32).toNatClampNeg).toInt64 x683.1.toInt64) : Int32) = 0 then (kL_law_716 L xs (k) x683.2 v4 x677.1 x683.1) else (some 0))) else (kL_law_716 L xs (k) x683.2 v4 x677.1 x683.1)) else (some 0))))
set_option maxHeartbeats 4000000 in
set_option maxRecDepth 100000 in
theorem bL_law_675 {p : Program} {e : Env} {s : State} {m : MethodId} {below : List Frame} {meth : Method} {c : Code} (l : Launch) (w : ld_E) (hfl : l.stackTraces = false) {b : Nat} (L : Nat) (xs : Nat → Int32) (hX : va_X b L xs s s.heap) (hbl : b < s.heap.size) (hbA : ¬ ld_A w s.heap.size b) (hnew : ∀ i, i < 87 → s.heap.size ≤ ld_ad w i) (C : ld_C p l s m #[Value.ref b] meth c code 7 ret wsL_law RL w) (cb sb : Nat) (hcb : cb + 4 ≤ room_1.cells) (hsb : sb + 24 ≤ room_1.slots) (k : ld_M → Int32 → Option Int32) (hk : ∀ (Z : ld_M) (u0 : Int32), ld_T p l e room_1 s m #[Value.ref b] below meth c (lw_Z below #[Value.ref b] s) w (1 : Int32) (k Z u0) Z (cb + 4) (sb + 24) 23 [some (.ref b), some (.ref (ld_ad w 0)), some (.ref (ld_ad w 67)), some (.ref (ld_ad w 86)), some (.int u0), none, none] []) (Z : ld_M) (v4 : Int32) : ld_T p l e room_1 s m #[Value.ref b] below meth c (lw_Z below #[Value.ref b] s) w (1 : Int32) (kL_law_675 L xs k Z v4) Z (cb + 0) (sb + 0) 675 [some (.ref b), some (.ref (ld_ad w 0)), some (.ref (ld_ad w 67)), some (.ref (ld_ad w 86)), some (.int v4), none, none] [] := by
  unfold kL_law_675
  refine lj_aload_n C rfl rfl dL_law_675 ?_
  refine lj_aload_n C rfl rfl dL_law_676 ?_
  refine lj_cW C (As := [.ref (ld_ad w 0), .ref (ld_ad w 86)]) (rest := []) (fun sz x hx => zL_undo l hfl w Z  hx sz) (vx_cwSW 2 C.2.2.2.2.1 gL_law_L_undo rfl rfl rfl (by decide +kernel) ⟨Nat.le_of_ble_eq_true rfl, Nat.le_of_ble_eq_true rfl⟩) rfl rfl rfl (Nat.le_of_ble_eq_true rfl) ⟨Nat.le_trans (show cb + 0 + 1 ≤ cb + 4 by omega) hcb, Nat.le_trans (show sb + 0 + 6 ≤ sb + 24 by omega) hsb⟩ dL_law_677 (fun x677 hx677 => ?_)
  refine lj_istore C (lv2 := [some (.ref b), some (.ref (ld_ad w 0)), some (.ref (ld_ad w 67)), some (.ref (ld_ad w 86)), some (.int v4), some (.int x677.1), none]) (Nat.le_of_ble_eq_true rfl) rfl dL_law_680 ?_
  refine lj_aload_n C rfl rfl dL_law_682 ?_
  refine lj_cVb C (As := []) (rest := []) (i := 67) (ci := 4) (Cn := RX4) (Tb := TX4) (N := 23) (fs := (ld_f4 w) (x677.2 67)) (fun sz x hx => zX4_undo l w x677.2  hx sz) (cwV 0 C.2.2.2.2.1 gL_law_X4_undo rfl rfl rfl (by decide +kernel) ⟨Nat.le_of_ble_eq_true rfl, Nat.le_of_ble_eq_true rfl⟩) (by decide) ((fun _ => rfl) _) rfl rfl rfl rfl (Nat.le_of_ble_eq_true rfl) ⟨Nat.le_trans (show cb + 1 + 0 ≤ cb + 4 by omega) hcb, Nat.le_trans (show sb + 6 + 0 ≤ sb + 24 by omega) hsb⟩ dL_law_683 (fun x683 hx683 => ?_)
  refine lj_istore C (lv2 := [some (.ref b), some (.ref (ld_ad w 0)), some (.ref (ld_ad w 67)), some (.ref (ld_ad w 86)), some (.int v4), some (.int x677.1), some (.int x683.1)]) (Nat.le_of_ble_eq_true rfl) rfl dL_law_686 ?_
  refine lj_aload_n C rfl rfl dL_law_688 ?_
  refine lj_cVa C (As := []) (rest := []) (i := 67) (ci := 4) (Cn := RX4) (Tb := TX4) (N := 23) (fs := (ld_f4 w) (x683.2 67)) (fun sz x hx => zX4_thrown l w x683.2  hx sz) (cwV 0 C.2.2.2.2.1 gL_law_X4_thrown rfl rfl rfl (by decide +kernel) ⟨Nat.le_of_ble_eq_true rfl, Nat.le_of_ble_eq_true rfl⟩) (by decide) ((fun _ => rfl) _) rfl rfl rfl rfl (Nat.le_of_ble_eq_true rfl) ⟨Nat.le_trans (show cb + 1 + 0 ≤ cb + 4 by omega) hcb, Nat.le_trans (show sb + 6 + 0 ≤ sb + 24 by omega) hsb⟩ dL_law_689 (fun x689 hx689 => ?_)
  refine lj_iload C rfl dL_law_692 ?_
  refine lj_icmp_eq C (tgt := 699) dL_law_694 (by decide) ?_ ?_
  · refine lj_iload C rfl dL_law_699 ?_
    refine lj_if_ne C (tgt := 716) dL_law_701 (by decide) ?_ ?_
    · exact bL_law_716 l w hfl L xs hX hbl hbA hnew C cb sb hcb hsb (k) (fun Z9 u0 => hk Z9 u0) x683.2 v4 x677.1 x683.1
    · refine lj_aload_n C rfl rfl dL_law_704 ?_
      refine lj_iconst C (v := 0) (by decide) dL_law_705 ?_
      refine lj_lald C rfl dL_law_706 ?_
      refine lj_iload C rfl dL_law_707 ?_
      refine lj_i2l C rfl dL_law_709 ?_
      refine lj_lcmp C dL_law_710 ?_
      refine lj_if_eq C (tgt := 716) dL_law_711 (by decide) ?_ ?_
      · exact bL_law_716 l w hfl L xs hX hbl hbA hnew C cb sb hcb hsb (k) (fun Z9 u0 => hk Z9 u0) x683.2 v4 x677.1 x683.1
      · refine lj_iconst C (v := 0) (by decide) dL_law_714 ?_
        exact lj_lret C hnew (Nat.le_trans (by omega) hcb) (Nat.le_trans (by omega) hsb) dL_law_715
  · refine lj_iconst C (v := 0) (by decide) dL_law_697 ?_
    exact lj_lret C hnew (Nat.le_trans (by omega) hcb) (Nat.le_trans (by omega) hsb) dL_law_698
def kL_law_784 (L : Nat) (xs : Nat → Int32) (k : ld_M → Int32 → Option Int32) (Z : ld_M) (v4 : Int32) (v5 : Int32) (v6 : Int32) : Option Int32 := kL_law_1264 L xs (k) Z v4
set_option maxHeartbeats 4000000 in
set_option maxRecDepth 100000 in
theorem bL_law_784 {p : Program} {e : Env} {s : State} {m : MethodId} {below : List Frame} {meth : Method} {c : Code} (l : Launch) (w : ld_E) (hfl : l.stackTraces = false) {b : Nat} (L : Nat) (xs : Nat → Int32) (hX : va_X b L xs s s.heap) (hbl : b < s.heap.size) (hbA : ¬ ld_A w s.heap.size b) (hnew : ∀ i, i < 87 → s.heap.size ≤ ld_ad w i) (C : ld_C p l s m #[Value.ref b] meth c code 7 ret wsL_law RL w) (cb sb : Nat) (hcb : cb + 4 ≤ room_1.cells) (hsb : sb + 24 ≤ room_1.slots) (k : ld_M → Int32 → Option Int32) (hk : ∀ (Z : ld_M) (u0 : Int32), ld_T p l e room_1 s m #[Value.ref b] below meth c (lw_Z below #[Value.ref b] s) w (1 : Int32) (k Z u0) Z (cb + 4) (sb + 24) 23 [some (.ref b), some (.ref (ld_ad w 0)), some (.ref (ld_ad w 67)), some (.ref (ld_ad w 86)), some (.int u0), none, none] []) (Z : ld_M) (v4 : Int32) (v5 : Int32) (v6 : Int32) : ld_T p l e room_1 s m #[Value.ref b] below meth c (lw_Z below #[Value.ref b] s) w (1 : Int32) (kL_law_784 L xs k Z v4 v5 v6) Z (cb + 2) (sb + 12) 784 [some (.ref b), some (.ref (ld_ad w 0)), some (.ref (ld_ad w 67)), some (.ref (ld_ad w 86)), some (.int v4), some (.int v5), some (.int v6)] [] := by
  unfold kL_law_784
  refine lj_goto C (tgt := 1264) dL_law_784 (by decide) ?_
  refine lj_wide (k := cb + 4) (n := sb + 24) (by omega) (by omega) ?_
  refine lj_forget (lv2 := [some (.ref b), some (.ref (ld_ad w 0)), some (.ref (ld_ad w 67)), some (.ref (ld_ad w 86)), some (.int v4), none, none]) (by simp [ld_le]) ?_
  exact bL_law_1264 l w hfl L xs hX hbl hbA hnew C cb sb hcb hsb (k) (fun Z9 u0 => hk Z9 u0) Z v4
def kL_law_719 (L : Nat) (xs : Nat → Int32) (k : ld_M → Int32 → Option Int32) (Z : ld_M) (v4 : Int32) : Option Int32 := ld_ck (ld_g (v4 + 1) L) (ld_ck (ld_g (v4 + 2) L) (ld_bd (kL_go Z (xs (v4 + 1).toNatClampNeg) (xs (v4 + 2).toNatClampNeg)) (fun x733 => ld_ck (ld_g (v4 + 1) L) (ld_ck (ld_g (v4 + 2) L) (ld_bd (kX4_go x733.2 (xs (v4 + 1).toNatClampNeg) (xs (v4 + 2).toNatClampNeg)) (fun x751 => ld_bd (kX4_thrown x751.2) (fun x757 => if (x757 : Int32) = x733.1 then (if (x733.1 : Int32) = 0 then (ld_ck (ld_g 0 1) (if ((lg_cmp (x751.2 86 (0 : Int32).toNatClampNeg).toInt64 x751.1.toInt64) : Int32) = 0 then (kL_law_784 L xs (k) x751.2 v4 x733.1 x751.1) else (some 0))) else (kL_law_784 L xs (k) x751.2 v4 x733.1 x751.1)) else (some 0))))))))
set_option maxHeartbeats 4000000 in
set_option maxRecDepth 100000 in
theorem bL_law_719 {p : Program} {e : Env} {s : State} {m : MethodId} {below : List Frame} {meth : Method} {c : Code} (l : Launch) (w : ld_E) (hfl : l.stackTraces = false) {b : Nat} (L : Nat) (xs : Nat → Int32) (hX : va_X b L xs s s.heap) (hbl : b < s.heap.size) (hbA : ¬ ld_A w s.heap.size b) (hnew : ∀ i, i < 87 → s.heap.size ≤ ld_ad w i) (C : ld_C p l s m #[Value.ref b] meth c code 7 ret wsL_law RL w) (cb sb : Nat) (hcb : cb + 4 ≤ room_1.cells) (hsb : sb + 24 ≤ room_1.slots) (k : ld_M → Int32 → Option Int32) (hk : ∀ (Z : ld_M) (u0 : Int32), ld_T p l e room_1 s m #[Value.ref b] below meth c (lw_Z below #[Value.ref b] s) w (1 : Int32) (k Z u0) Z (cb + 4) (sb + 24) 23 [some (.ref b), some (.ref (ld_ad w 0)), some (.ref (ld_ad w 67)), some (.ref (ld_ad w 86)), some (.int u0), none, none] []) (Z : ld_M) (v4 : Int32) : ld_T p l e room_1 s m #[Value.ref b] below meth c (lw_Z below #[Value.ref b] s) w (1 : Int32) (kL_law_719 L xs k Z v4) Z (cb + 0) (sb + 0) 719 [some (.ref b), some (.ref (ld_ad w 0)), some (.ref (ld_ad w 67)), some (.ref (ld_ad w 86)), some (.int v4), none, none] [] := by
  unfold kL_law_719
  refine lj_aload_n C rfl rfl dL_law_719 ?_
  refine lj_aload_n C rfl rfl dL_law_720 ?_
  refine lj_iload C rfl dL_law_721 ?_
  refine lj_iconst C (v := 1) (by decide) dL_law_723 ?_
  refine lj_iadd C dL_law_724 ?_
  refine lj_sld C hX hbl hbA dL_law_725 ?_
  refine lj_aload_n C rfl rfl dL_law_726 ?_
  refine lj_iload C rfl dL_law_727 ?_
  refine lj_iconst C (v := 2) (by decide) dL_law_729 ?_
  refine lj_iadd C dL_law_730 ?_
  refine lj_sld C hX hbl hbA dL_law_731 ?_
  refine lj_aload_n C rfl rfl dL_law_732 ?_
  refine lj_cW C (As := [.ref (ld_ad w 0), .int (xs (v4 + 1).toNatClampNeg), .int (xs (v4 + 2).toNatClampNeg), .ref (ld_ad w 86)]) (rest := []) (fun sz x hx => zL_go l hfl w Z (xs (v4 + 1).toNatClampNeg) (xs (v4 + 2).toNatClampNeg) hx sz) (vx_cwSW 4 C.2.2.2.2.1 gL_law_L_go rfl rfl rfl (by decide +kernel) ⟨Nat.le_of_ble_eq_true rfl, Nat.le_of_ble_eq_true rfl⟩) rfl rfl rfl (Nat.le_of_ble_eq_true rfl) ⟨Nat.le_trans (show cb + 0 + 2 ≤ cb + 4 by omega) hcb, Nat.le_trans (show sb + 0 + 12 ≤ sb + 24 by omega) hsb⟩ dL_law_733 (fun x733 hx733 => ?_)
  refine lj_istore C (lv2 := [some (.ref b), some (.ref (ld_ad w 0)), some (.ref (ld_ad w 67)), some (.ref (ld_ad w 86)), some (.int v4), some (.int x733.1), none]) (Nat.le_of_ble_eq_true rfl) rfl dL_law_736 ?_
  refine lj_aload_n C rfl rfl dL_law_738 ?_
  refine lj_aload_n C rfl rfl dL_law_739 ?_
  refine lj_iload C rfl dL_law_740 ?_
  refine lj_iconst C (v := 1) (by decide) dL_law_742 ?_
  refine lj_iadd C dL_law_743 ?_
  refine lj_sld C hX hbl hbA dL_law_744 ?_
  refine lj_aload_n C rfl rfl dL_law_745 ?_
  refine lj_iload C rfl dL_law_746 ?_
  refine lj_iconst C (v := 2) (by decide) dL_law_748 ?_
  refine lj_iadd C dL_law_749 ?_
  refine lj_sld C hX hbl hbA dL_law_750 ?_
  refine lj_cVb C (As := [.int (xs (v4 + 1).toNatClampNeg), .int (xs (v4 + 2).toNatClampNeg)]) (rest := []) (i := 67) (ci := 4) (Cn := RX4) (Tb := TX4) (N := 23) (fs := (ld_f4 w) (x733.2 67)) (fun sz x hx => zX4_go l w x733.2 (xs (v4 + 1).toNatClampNeg) (xs (v4 + 2).toNatClampNeg) hx sz) (cwV 2 C.2.2.2.2.1 gL_law_X4_go rfl rfl rfl (by decide +kernel) ⟨Nat.le_of_ble_eq_true rfl, Nat.le_of_ble_eq_true rfl⟩) (by decide) ((fun _ => rfl) _) rfl rfl rfl rfl (Nat.le_of_ble_eq_true rfl) ⟨Nat.le_trans (show cb + 2 + 0 ≤ cb + 4 by omega) hcb, Nat.le_trans (show sb + 12 + 0 ≤ sb + 24 by omega) hsb⟩ dL_law_751 (fun x751 hx751 => ?_)
  refine lj_istore C (lv2 := [some (.ref b), some (.ref (ld_ad w 0)), some (.ref (ld_ad w 67)), some (.ref (ld_ad w 86)), some (.int v4), some (.int x733.1), some (.int x751.1)]) (Nat.le_of_ble_eq_true rfl) rfl dL_law_754 ?_
  refine lj_aload_n C rfl rfl dL_law_756 ?_
  refine lj_cVa C (As := []) (rest := []) (i := 67) (ci := 4) (Cn := RX4) (Tb := TX4) (N := 23) (fs := (ld_f4 w) (x751.2 67)) (fun sz x hx => zX4_thrown l w x751.2  hx sz) (cwV 0 C.2.2.2.2.1 gL_law_X4_thrown rfl rfl rfl (by decide +kernel) ⟨Nat.le_of_ble_eq_true rfl, Nat.le_of_ble_eq_true rfl⟩) (by decide) ((fun _ => rfl) _) rfl rfl rfl rfl (Nat.le_of_ble_eq_true rfl) ⟨Nat.le_trans (show cb + 2 + 0 ≤ cb + 4 by omega) hcb, Nat.le_trans (show sb + 12 + 0 ≤ sb + 24 by omega) hsb⟩ dL_law_757 (fun x757 hx757 => ?_)
  refine lj_iload C rfl dL_law_760 ?_
  refine lj_icmp_eq C (tgt := 767) dL_law_762 (by decide) ?_ ?_
  · refine lj_iload C rfl dL_law_767 ?_
    refine lj_if_ne C (tgt := 784) dL_law_769 (by decide) ?_ ?_
    · exact bL_law_784 l w hfl L xs hX hbl hbA hnew C cb sb hcb hsb (k) (fun Z9 u0 => hk Z9 u0) x751.2 v4 x733.1 x751.1
    · refine lj_aload_n C rfl rfl dL_law_772 ?_
      refine lj_iconst C (v := 0) (by decide) dL_law_773 ?_
      refine lj_lald C rfl dL_law_774 ?_
      refine lj_iload C rfl dL_law_775 ?_
      refine lj_i2l C rfl dL_law_777 ?_
      refine lj_lcmp C dL_law_778 ?_
      refine lj_if_eq C (tgt := 784) dL_law_779 (by decide) ?_ ?_
      · exact bL_law_784 l w hfl L xs hX hbl hbA hnew C cb sb hcb hsb (k) (fun Z9 u0 => hk Z9 u0) x751.2 v4 x733.1 x751.1
      · refine lj_iconst C (v := 0) (by decide) dL_law_782 ?_
        exact lj_lret C hnew (Nat.le_trans (by omega) hcb) (Nat.le_trans (by omega) hsb) dL_law_783
  · refine lj_iconst C (v := 0) (by decide) dL_law_765 ?_
    exact lj_lret C hnew (Nat.le_trans (by omega) hcb) (Nat.le_trans (by omega) hsb) dL_law_766
def kL_law_840 (L : Nat) (xs : Nat → Int32) (k : ld_M → Int32 → Option Int32) (Z : ld_M) (v4 : Int32) (v5 : Int32) (v6 : Int32) : Option Int32 := kL_law_1264 L xs (k) Z v4
set_option maxHeartbeats 4000000 in
set_option maxRecDepth 100000 in
theorem bL_law_840 {p : Program} {e : Env} {s : State} {m : MethodId} {below : List Frame} {meth : Method} {c : Code} (l : Launch) (w : ld_E) (hfl : l.stackTraces = false) {b : Nat} (L : Nat) (xs : Nat → Int32) (hX : va_X b L xs s s.heap) (hbl : b < s.heap.size) (hbA : ¬ ld_A w s.heap.size b) (hnew : ∀ i, i < 87 → s.heap.size ≤ ld_ad w i) (C : ld_C p l s m #[Value.ref b] meth c code 7 ret wsL_law RL w) (cb sb : Nat) (hcb : cb + 4 ≤ room_1.cells) (hsb : sb + 24 ≤ room_1.slots) (k : ld_M → Int32 → Option Int32) (hk : ∀ (Z : ld_M) (u0 : Int32), ld_T p l e room_1 s m #[Value.ref b] below meth c (lw_Z below #[Value.ref b] s) w (1 : Int32) (k Z u0) Z (cb + 4) (sb + 24) 23 [some (.ref b), some (.ref (ld_ad w 0)), some (.ref (ld_ad w 67)), some (.ref (ld_ad w 86)), some (.int u0), none, none] []) (Z : ld_M) (v4 : Int32) (v5 : Int32) (v6 : Int32) : ld_T p l e room_1 s m #[Value.ref b] below meth c (lw_Z below #[Value.ref b] s) w (1 : Int32) (kL_law_840 L xs k Z v4 v5 v6) Z (cb + 1) (sb + 6) 840 [some (.ref b), some (.ref (ld_ad w 0)), some (.ref (ld_ad w 67)), some (.ref (ld_ad w 86)), some (.int v4), some (.int v5), some (.int v6)] [] := by
  unfold kL_law_840
  refine lj_goto C (tgt := 1264) dL_law_840 (by decide) ?_
  refine lj_wide (k := cb + 4) (n := sb + 24) (by omega) (by omega) ?_
  refine lj_forget (lv2 := [some (.ref b), some (.ref (ld_ad w 0)), some (.ref (ld_ad w 67)), some (.ref (ld_ad w 86)), some (.int v4), none, none]) (by simp [ld_le]) ?_
  exact bL_law_1264 l w hfl L xs hX hbl hbA hnew C cb sb hcb hsb (k) (fun Z9 u0 => hk Z9 u0) Z v4
def kL_law_787 (L : Nat) (xs : Nat → Int32) (k : ld_M → Int32 → Option Int32) (Z : ld_M) (v4 : Int32) : Option Int32 := ld_ck (ld_g (v4 + 1) L) (ld_bd (kL_pass Z (xs (v4 + 1).toNatClampNeg)) (fun x795 => ld_ck (ld_g (v4 + 1) L) (ld_bd (kX4_pass x795.2 (xs (v4 + 1).toNatClampNeg)) (fun x807 => ld_bd (kX4_thrown x807.2) (fun x813 => if (x813 : Int32) = x795.1 then (if (x795.1 : Int32) = 0 then (ld_ck (ld_g 0 1) (if ((lg_cmp (x807.2 86 (0 : Int32).toNatClampNeg).toInt64 x807.1.toInt64) : Int32) = 0 then (kL_law_840 L xs (k) x807.2 v4 x795.1 x807.1) else (some 0))) else (kL_law_840 L xs (k) x807.2 v4 x795.1 x807.1)) else (some 0))))))
set_option maxHeartbeats 4000000 in
set_option maxRecDepth 100000 in
theorem bL_law_787 {p : Program} {e : Env} {s : State} {m : MethodId} {below : List Frame} {meth : Method} {c : Code} (l : Launch) (w : ld_E) (hfl : l.stackTraces = false) {b : Nat} (L : Nat) (xs : Nat → Int32) (hX : va_X b L xs s s.heap) (hbl : b < s.heap.size) (hbA : ¬ ld_A w s.heap.size b) (hnew : ∀ i, i < 87 → s.heap.size ≤ ld_ad w i) (C : ld_C p l s m #[Value.ref b] meth c code 7 ret wsL_law RL w) (cb sb : Nat) (hcb : cb + 4 ≤ room_1.cells) (hsb : sb + 24 ≤ room_1.slots) (k : ld_M → Int32 → Option Int32) (hk : ∀ (Z : ld_M) (u0 : Int32), ld_T p l e room_1 s m #[Value.ref b] below meth c (lw_Z below #[Value.ref b] s) w (1 : Int32) (k Z u0) Z (cb + 4) (sb + 24) 23 [some (.ref b), some (.ref (ld_ad w 0)), some (.ref (ld_ad w 67)), some (.ref (ld_ad w 86)), some (.int u0), none, none] []) (Z : ld_M) (v4 : Int32) : ld_T p l e room_1 s m #[Value.ref b] below meth c (lw_Z below #[Value.ref b] s) w (1 : Int32) (kL_law_787 L xs k Z v4) Z (cb + 0) (sb + 0) 787 [some (.ref b), some (.ref (ld_ad w 0)), some (.ref (ld_ad w 67)), some (.ref (ld_ad w 86)), some (.int v4), none, none] [] := by
  unfold kL_law_787
  refine lj_aload_n C rfl rfl dL_law_787 ?_
  refine lj_aload_n C rfl rfl dL_law_788 ?_
  refine lj_iload C rfl dL_law_789 ?_
  refine lj_iconst C (v := 1) (by decide) dL_law_791 ?_
  refine lj_iadd C dL_law_792 ?_
  refine lj_sld C hX hbl hbA dL_law_793 ?_
  refine lj_aload_n C rfl rfl dL_law_794 ?_
  refine lj_cW C (As := [.ref (ld_ad w 0), .int (xs (v4 + 1).toNatClampNeg), .ref (ld_ad w 86)]) (rest := []) (fun sz x hx => zL_pass l hfl w Z (xs (v4 + 1).toNatClampNeg) hx sz) (vx_cwSW 3 C.2.2.2.2.1 gL_law_L_pass rfl rfl rfl (by decide +kernel) ⟨Nat.le_of_ble_eq_true rfl, Nat.le_of_ble_eq_true rfl⟩) rfl rfl rfl (Nat.le_of_ble_eq_true rfl) ⟨Nat.le_trans (show cb + 0 + 1 ≤ cb + 4 by omega) hcb, Nat.le_trans (show sb + 0 + 6 ≤ sb + 24 by omega) hsb⟩ dL_law_795 (fun x795 hx795 => ?_)
  refine lj_istore C (lv2 := [some (.ref b), some (.ref (ld_ad w 0)), some (.ref (ld_ad w 67)), some (.ref (ld_ad w 86)), some (.int v4), some (.int x795.1), none]) (Nat.le_of_ble_eq_true rfl) rfl dL_law_798 ?_
  refine lj_aload_n C rfl rfl dL_law_800 ?_
  refine lj_aload_n C rfl rfl dL_law_801 ?_
  refine lj_iload C rfl dL_law_802 ?_
  refine lj_iconst C (v := 1) (by decide) dL_law_804 ?_
  refine lj_iadd C dL_law_805 ?_
  refine lj_sld C hX hbl hbA dL_law_806 ?_
  refine lj_cVb C (As := [.int (xs (v4 + 1).toNatClampNeg)]) (rest := []) (i := 67) (ci := 4) (Cn := RX4) (Tb := TX4) (N := 23) (fs := (ld_f4 w) (x795.2 67)) (fun sz x hx => zX4_pass l w x795.2 (xs (v4 + 1).toNatClampNeg) hx sz) (cwV 1 C.2.2.2.2.1 gL_law_X4_pass rfl rfl rfl (by decide +kernel) ⟨Nat.le_of_ble_eq_true rfl, Nat.le_of_ble_eq_true rfl⟩) (by decide) ((fun _ => rfl) _) rfl rfl rfl rfl (Nat.le_of_ble_eq_true rfl) ⟨Nat.le_trans (show cb + 1 + 0 ≤ cb + 4 by omega) hcb, Nat.le_trans (show sb + 6 + 0 ≤ sb + 24 by omega) hsb⟩ dL_law_807 (fun x807 hx807 => ?_)
  refine lj_istore C (lv2 := [some (.ref b), some (.ref (ld_ad w 0)), some (.ref (ld_ad w 67)), some (.ref (ld_ad w 86)), some (.int v4), some (.int x795.1), some (.int x807.1)]) (Nat.le_of_ble_eq_true rfl) rfl dL_law_810 ?_
  refine lj_aload_n C rfl rfl dL_law_812 ?_
  refine lj_cVa C (As := []) (rest := []) (i := 67) (ci := 4) (Cn := RX4) (Tb := TX4) (N := 23) (fs := (ld_f4 w) (x807.2 67)) (fun sz x hx => zX4_thrown l w x807.2  hx sz) (cwV 0 C.2.2.2.2.1 gL_law_X4_thrown rfl rfl rfl (by decide +kernel) ⟨Nat.le_of_ble_eq_true rfl, Nat.le_of_ble_eq_true rfl⟩) (by decide) ((fun _ => rfl) _) rfl rfl rfl rfl (Nat.le_of_ble_eq_true rfl) ⟨Nat.le_trans (show cb + 1 + 0 ≤ cb + 4 by omega) hcb, Nat.le_trans (show sb + 6 + 0 ≤ sb + 24 by omega) hsb⟩ dL_law_813 (fun x813 hx813 => ?_)
  refine lj_iload C rfl dL_law_816 ?_
  refine lj_icmp_eq C (tgt := 823) dL_law_818 (by decide) ?_ ?_
  · refine lj_iload C rfl dL_law_823 ?_
    refine lj_if_ne C (tgt := 840) dL_law_825 (by decide) ?_ ?_
    · exact bL_law_840 l w hfl L xs hX hbl hbA hnew C cb sb hcb hsb (k) (fun Z9 u0 => hk Z9 u0) x807.2 v4 x795.1 x807.1
    · refine lj_aload_n C rfl rfl dL_law_828 ?_
      refine lj_iconst C (v := 0) (by decide) dL_law_829 ?_
      refine lj_lald C rfl dL_law_830 ?_
      refine lj_iload C rfl dL_law_831 ?_
      refine lj_i2l C rfl dL_law_833 ?_
      refine lj_lcmp C dL_law_834 ?_
      refine lj_if_eq C (tgt := 840) dL_law_835 (by decide) ?_ ?_
      · exact bL_law_840 l w hfl L xs hX hbl hbA hnew C cb sb hcb hsb (k) (fun Z9 u0 => hk Z9 u0) x807.2 v4 x795.1 x807.1
      · refine lj_iconst C (v := 0) (by decide) dL_law_838 ?_
        exact lj_lret C hnew (Nat.le_trans (by omega) hcb) (Nat.le_trans (by omega) hsb) dL_law_839
  · refine lj_iconst C (v := 0) (by decide) dL_law_821 ?_
    exact lj_lret C hnew (Nat.le_trans (by omega) hcb) (Nat.le_trans (by omega) hsb) dL_law_822
def kL_law_896 (L : Nat) (xs : Nat → Int32) (k : ld_M → Int32 → Option Int32) (Z : ld_M) (v4 : Int32) (v5 : Int32) (v6 : Int32) : Option Int32 := kL_law_1264 L xs (k) Z v4
set_option maxHeartbeats 4000000 in
set_option maxRecDepth 100000 in
theorem bL_law_896 {p : Program} {e : Env} {s : State} {m : MethodId} {below : List Frame} {meth : Method} {c : Code} (l : Launch) (w : ld_E) (hfl : l.stackTraces = false) {b : Nat} (L : Nat) (xs : Nat → Int32) (hX : va_X b L xs s s.heap) (hbl : b < s.heap.size) (hbA : ¬ ld_A w s.heap.size b) (hnew : ∀ i, i < 87 → s.heap.size ≤ ld_ad w i) (C : ld_C p l s m #[Value.ref b] meth c code 7 ret wsL_law RL w) (cb sb : Nat) (hcb : cb + 4 ≤ room_1.cells) (hsb : sb + 24 ≤ room_1.slots) (k : ld_M → Int32 → Option Int32) (hk : ∀ (Z : ld_M) (u0 : Int32), ld_T p l e room_1 s m #[Value.ref b] below meth c (lw_Z below #[Value.ref b] s) w (1 : Int32) (k Z u0) Z (cb + 4) (sb + 24) 23 [some (.ref b), some (.ref (ld_ad w 0)), some (.ref (ld_ad w 67)), some (.ref (ld_ad w 86)), some (.int u0), none, none] []) (Z : ld_M) (v4 : Int32) (v5 : Int32) (v6 : Int32) : ld_T p l e room_1 s m #[Value.ref b] below meth c (lw_Z below #[Value.ref b] s) w (1 : Int32) (kL_law_896 L xs k Z v4 v5 v6) Z (cb + 1) (sb + 6) 896 [some (.ref b), some (.ref (ld_ad w 0)), some (.ref (ld_ad w 67)), some (.ref (ld_ad w 86)), some (.int v4), some (.int v5), some (.int v6)] [] := by
  unfold kL_law_896
  refine lj_goto C (tgt := 1264) dL_law_896 (by decide) ?_
  refine lj_wide (k := cb + 4) (n := sb + 24) (by omega) (by omega) ?_
  refine lj_forget (lv2 := [some (.ref b), some (.ref (ld_ad w 0)), some (.ref (ld_ad w 67)), some (.ref (ld_ad w 86)), some (.int v4), none, none]) (by simp [ld_le]) ?_
  exact bL_law_1264 l w hfl L xs hX hbl hbA hnew C cb sb hcb hsb (k) (fun Z9 u0 => hk Z9 u0) Z v4
def kL_law_843 (L : Nat) (xs : Nat → Int32) (k : ld_M → Int32 → Option Int32) (Z : ld_M) (v4 : Int32) : Option Int32 := ld_ck (ld_g (v4 + 1) L) (ld_bd (kL_running Z (xs (v4 + 1).toNatClampNeg)) (fun x851 => ld_ck (ld_g (v4 + 1) L) (ld_bd (kX4_running x851.2 (xs (v4 + 1).toNatClampNeg)) (fun x863 => ld_bd (kX4_thrown x863.2) (fun x869 => if (x869 : Int32) = x851.1 then (if (x851.1 : Int32) = 0 then (ld_ck (ld_g 0 1) (if ((lg_cmp (x863.2 86 (0 : Int32).toNatClampNeg).toInt64 x863.1.toInt64) : Int32) = 0 then (kL_law_896 L xs (k) x863.2 v4 x851.1 x863.1) else (some 0))) else (kL_law_896 L xs (k) x863.2 v4 x851.1 x863.1)) else (some 0))))))
set_option maxHeartbeats 4000000 in
set_option maxRecDepth 100000 in
theorem bL_law_843 {p : Program} {e : Env} {s : State} {m : MethodId} {below : List Frame} {meth : Method} {c : Code} (l : Launch) (w : ld_E) (hfl : l.stackTraces = false) {b : Nat} (L : Nat) (xs : Nat → Int32) (hX : va_X b L xs s s.heap) (hbl : b < s.heap.size) (hbA : ¬ ld_A w s.heap.size b) (hnew : ∀ i, i < 87 → s.heap.size ≤ ld_ad w i) (C : ld_C p l s m #[Value.ref b] meth c code 7 ret wsL_law RL w) (cb sb : Nat) (hcb : cb + 4 ≤ room_1.cells) (hsb : sb + 24 ≤ room_1.slots) (k : ld_M → Int32 → Option Int32) (hk : ∀ (Z : ld_M) (u0 : Int32), ld_T p l e room_1 s m #[Value.ref b] below meth c (lw_Z below #[Value.ref b] s) w (1 : Int32) (k Z u0) Z (cb + 4) (sb + 24) 23 [some (.ref b), some (.ref (ld_ad w 0)), some (.ref (ld_ad w 67)), some (.ref (ld_ad w 86)), some (.int u0), none, none] []) (Z : ld_M) (v4 : Int32) : ld_T p l e room_1 s m #[Value.ref b] below meth c (lw_Z below #[Value.ref b] s) w (1 : Int32) (kL_law_843 L xs k Z v4) Z (cb + 0) (sb + 0) 843 [some (.ref b), some (.ref (ld_ad w 0)), some (.ref (ld_ad w 67)), some (.ref (ld_ad w 86)), some (.int v4), none, none] [] := by
  unfold kL_law_843
  refine lj_aload_n C rfl rfl dL_law_843 ?_
  refine lj_aload_n C rfl rfl dL_law_844 ?_
  refine lj_iload C rfl dL_law_845 ?_
  refine lj_iconst C (v := 1) (by decide) dL_law_847 ?_
  refine lj_iadd C dL_law_848 ?_
  refine lj_sld C hX hbl hbA dL_law_849 ?_
  refine lj_aload_n C rfl rfl dL_law_850 ?_
  refine lj_cW C (As := [.ref (ld_ad w 0), .int (xs (v4 + 1).toNatClampNeg), .ref (ld_ad w 86)]) (rest := []) (fun sz x hx => zL_running l hfl w Z (xs (v4 + 1).toNatClampNeg) hx sz) (vx_cwSW 3 C.2.2.2.2.1 gL_law_L_running rfl rfl rfl (by decide +kernel) ⟨Nat.le_of_ble_eq_true rfl, Nat.le_of_ble_eq_true rfl⟩) rfl rfl rfl (Nat.le_of_ble_eq_true rfl) ⟨Nat.le_trans (show cb + 0 + 1 ≤ cb + 4 by omega) hcb, Nat.le_trans (show sb + 0 + 6 ≤ sb + 24 by omega) hsb⟩ dL_law_851 (fun x851 hx851 => ?_)
  refine lj_istore C (lv2 := [some (.ref b), some (.ref (ld_ad w 0)), some (.ref (ld_ad w 67)), some (.ref (ld_ad w 86)), some (.int v4), some (.int x851.1), none]) (Nat.le_of_ble_eq_true rfl) rfl dL_law_854 ?_
  refine lj_aload_n C rfl rfl dL_law_856 ?_
  refine lj_aload_n C rfl rfl dL_law_857 ?_
  refine lj_iload C rfl dL_law_858 ?_
  refine lj_iconst C (v := 1) (by decide) dL_law_860 ?_
  refine lj_iadd C dL_law_861 ?_
  refine lj_sld C hX hbl hbA dL_law_862 ?_
  refine lj_cVb C (As := [.int (xs (v4 + 1).toNatClampNeg)]) (rest := []) (i := 67) (ci := 4) (Cn := RX4) (Tb := TX4) (N := 23) (fs := (ld_f4 w) (x851.2 67)) (fun sz x hx => zX4_running l w x851.2 (xs (v4 + 1).toNatClampNeg) hx sz) (cwV 1 C.2.2.2.2.1 gL_law_X4_running rfl rfl rfl (by decide +kernel) ⟨Nat.le_of_ble_eq_true rfl, Nat.le_of_ble_eq_true rfl⟩) (by decide) ((fun _ => rfl) _) rfl rfl rfl rfl (Nat.le_of_ble_eq_true rfl) ⟨Nat.le_trans (show cb + 1 + 0 ≤ cb + 4 by omega) hcb, Nat.le_trans (show sb + 6 + 0 ≤ sb + 24 by omega) hsb⟩ dL_law_863 (fun x863 hx863 => ?_)
  refine lj_istore C (lv2 := [some (.ref b), some (.ref (ld_ad w 0)), some (.ref (ld_ad w 67)), some (.ref (ld_ad w 86)), some (.int v4), some (.int x851.1), some (.int x863.1)]) (Nat.le_of_ble_eq_true rfl) rfl dL_law_866 ?_
  refine lj_aload_n C rfl rfl dL_law_868 ?_
  refine lj_cVa C (As := []) (rest := []) (i := 67) (ci := 4) (Cn := RX4) (Tb := TX4) (N := 23) (fs := (ld_f4 w) (x863.2 67)) (fun sz x hx => zX4_thrown l w x863.2  hx sz) (cwV 0 C.2.2.2.2.1 gL_law_X4_thrown rfl rfl rfl (by decide +kernel) ⟨Nat.le_of_ble_eq_true rfl, Nat.le_of_ble_eq_true rfl⟩) (by decide) ((fun _ => rfl) _) rfl rfl rfl rfl (Nat.le_of_ble_eq_true rfl) ⟨Nat.le_trans (show cb + 1 + 0 ≤ cb + 4 by omega) hcb, Nat.le_trans (show sb + 6 + 0 ≤ sb + 24 by omega) hsb⟩ dL_law_869 (fun x869 hx869 => ?_)
  refine lj_iload C rfl dL_law_872 ?_
  refine lj_icmp_eq C (tgt := 879) dL_law_874 (by decide) ?_ ?_
  · refine lj_iload C rfl dL_law_879 ?_
    refine lj_if_ne C (tgt := 896) dL_law_881 (by decide) ?_ ?_
    · exact bL_law_896 l w hfl L xs hX hbl hbA hnew C cb sb hcb hsb (k) (fun Z9 u0 => hk Z9 u0) x863.2 v4 x851.1 x863.1
    · refine lj_aload_n C rfl rfl dL_law_884 ?_
      refine lj_iconst C (v := 0) (by decide) dL_law_885 ?_
      refine lj_lald C rfl dL_law_886 ?_
      refine lj_iload C rfl dL_law_887 ?_
      refine lj_i2l C rfl dL_law_889 ?_
      refine lj_lcmp C dL_law_890 ?_
      refine lj_if_eq C (tgt := 896) dL_law_891 (by decide) ?_ ?_
      · exact bL_law_896 l w hfl L xs hX hbl hbA hnew C cb sb hcb hsb (k) (fun Z9 u0 => hk Z9 u0) x863.2 v4 x851.1 x863.1
      · refine lj_iconst C (v := 0) (by decide) dL_law_894 ?_
        exact lj_lret C hnew (Nat.le_trans (by omega) hcb) (Nat.le_trans (by omega) hsb) dL_law_895
  · refine lj_iconst C (v := 0) (by decide) dL_law_877 ?_
    exact lj_lret C hnew (Nat.le_trans (by omega) hcb) (Nat.le_trans (by omega) hsb) dL_law_878
def kL_law_964 (L : Nat) (xs : Nat → Int32) (k : ld_M → Int32 → Option Int32) (Z : ld_M) (v4 : Int32) (v5 : Int32) (v6 : Int32) : Option Int32 := kL_law_1264 L xs (k) Z v4
set_option maxHeartbeats 4000000 in
set_option maxRecDepth 100000 in
theorem bL_law_964 {p : Program} {e : Env} {s : State} {m : MethodId} {below : List Frame} {meth : Method} {c : Code} (l : Launch) (w : ld_E) (hfl : l.stackTraces = false) {b : Nat} (L : Nat) (xs : Nat → Int32) (hX : va_X b L xs s s.heap) (hbl : b < s.heap.size) (hbA : ¬ ld_A w s.heap.size b) (hnew : ∀ i, i < 87 → s.heap.size ≤ ld_ad w i) (C : ld_C p l s m #[Value.ref b] meth c code 7 ret wsL_law RL w) (cb sb : Nat) (hcb : cb + 4 ≤ room_1.cells) (hsb : sb + 24 ≤ room_1.slots) (k : ld_M → Int32 → Option Int32) (hk : ∀ (Z : ld_M) (u0 : Int32), ld_T p l e room_1 s m #[Value.ref b] below meth c (lw_Z below #[Value.ref b] s) w (1 : Int32) (k Z u0) Z (cb + 4) (sb + 24) 23 [some (.ref b), some (.ref (ld_ad w 0)), some (.ref (ld_ad w 67)), some (.ref (ld_ad w 86)), some (.int u0), none, none] []) (Z : ld_M) (v4 : Int32) (v5 : Int32) (v6 : Int32) : ld_T p l e room_1 s m #[Value.ref b] below meth c (lw_Z below #[Value.ref b] s) w (1 : Int32) (kL_law_964 L xs k Z v4 v5 v6) Z (cb + 2) (sb + 12) 964 [some (.ref b), some (.ref (ld_ad w 0)), some (.ref (ld_ad w 67)), some (.ref (ld_ad w 86)), some (.int v4), some (.int v5), some (.int v6)] [] := by
  unfold kL_law_964
  refine lj_goto C (tgt := 1264) dL_law_964 (by decide) ?_
  refine lj_wide (k := cb + 4) (n := sb + 24) (by omega) (by omega) ?_
  refine lj_forget (lv2 := [some (.ref b), some (.ref (ld_ad w 0)), some (.ref (ld_ad w 67)), some (.ref (ld_ad w 86)), some (.int v4), none, none]) (by simp [ld_le]) ?_
  exact bL_law_1264 l w hfl L xs hX hbl hbA hnew C cb sb hcb hsb (k) (fun Z9 u0 => hk Z9 u0) Z v4
def kL_law_899 (L : Nat) (xs : Nat → Int32) (k : ld_M → Int32 → Option Int32) (Z : ld_M) (v4 : Int32) : Option Int32 := ld_ck (ld_g (v4 + 1) L) (ld_ck (ld_g (v4 + 2) L) (ld_bd (kL_level Z (xs (v4 + 1).toNatClampNeg) (xs (v4 + 2).toNatClampNeg)) (fun x913 => ld_ck (ld_g (v4 + 1) L) (ld_ck (ld_g (v4 + 2) L) (ld_bd (kX4_level x913.2 (xs (v4 + 1).toNatClampNeg) (xs (v4 + 2).toNatClampNeg)) (fun x931 => ld_bd (kX4_thrown x931.2) (fun x937 => if (x937 : Int32) = x913.1 then (if (x913.1 : Int32) = 0 then (ld_ck (ld_g 0 1) (if ((lg_cmp (x931.2 86 (0 : Int32).toNatClampNeg).toInt64 x931.1.toInt64) : Int32) = 0 then (kL_law_964 L xs (k) x931.2 v4 x913.1 x931.1) else (some 0))) else (kL_law_964 L xs (k) x931.2 v4 x913.1 x931.1)) else (some 0))))))))
set_option maxHeartbeats 4000000 in
set_option maxRecDepth 100000 in
theorem bL_law_899 {p : Program} {e : Env} {s : State} {m : MethodId} {below : List Frame} {meth : Method} {c : Code} (l : Launch) (w : ld_E) (hfl : l.stackTraces = false) {b : Nat} (L : Nat) (xs : Nat → Int32) (hX : va_X b L xs s s.heap) (hbl : b < s.heap.size) (hbA : ¬ ld_A w s.heap.size b) (hnew : ∀ i, i < 87 → s.heap.size ≤ ld_ad w i) (C : ld_C p l s m #[Value.ref b] meth c code 7 ret wsL_law RL w) (cb sb : Nat) (hcb : cb + 4 ≤ room_1.cells) (hsb : sb + 24 ≤ room_1.slots) (k : ld_M → Int32 → Option Int32) (hk : ∀ (Z : ld_M) (u0 : Int32), ld_T p l e room_1 s m #[Value.ref b] below meth c (lw_Z below #[Value.ref b] s) w (1 : Int32) (k Z u0) Z (cb + 4) (sb + 24) 23 [some (.ref b), some (.ref (ld_ad w 0)), some (.ref (ld_ad w 67)), some (.ref (ld_ad w 86)), some (.int u0), none, none] []) (Z : ld_M) (v4 : Int32) : ld_T p l e room_1 s m #[Value.ref b] below meth c (lw_Z below #[Value.ref b] s) w (1 : Int32) (kL_law_899 L xs k Z v4) Z (cb + 0) (sb + 0) 899 [some (.ref b), some (.ref (ld_ad w 0)), some (.ref (ld_ad w 67)), some (.ref (ld_ad w 86)), some (.int v4), none, none] [] := by
  unfold kL_law_899
  refine lj_aload_n C rfl rfl dL_law_899 ?_
  refine lj_aload_n C rfl rfl dL_law_900 ?_
  refine lj_iload C rfl dL_law_901 ?_
  refine lj_iconst C (v := 1) (by decide) dL_law_903 ?_
  refine lj_iadd C dL_law_904 ?_
  refine lj_sld C hX hbl hbA dL_law_905 ?_
  refine lj_aload_n C rfl rfl dL_law_906 ?_
  refine lj_iload C rfl dL_law_907 ?_
  refine lj_iconst C (v := 2) (by decide) dL_law_909 ?_
  refine lj_iadd C dL_law_910 ?_
  refine lj_sld C hX hbl hbA dL_law_911 ?_
  refine lj_aload_n C rfl rfl dL_law_912 ?_
  refine lj_cW C (As := [.ref (ld_ad w 0), .int (xs (v4 + 1).toNatClampNeg), .int (xs (v4 + 2).toNatClampNeg), .ref (ld_ad w 86)]) (rest := []) (fun sz x hx => zL_level l hfl w Z (xs (v4 + 1).toNatClampNeg) (xs (v4 + 2).toNatClampNeg) hx sz) (vx_cwSW 4 C.2.2.2.2.1 gL_law_L_level rfl rfl rfl (by decide +kernel) ⟨Nat.le_of_ble_eq_true rfl, Nat.le_of_ble_eq_true rfl⟩) rfl rfl rfl (Nat.le_of_ble_eq_true rfl) ⟨Nat.le_trans (show cb + 0 + 2 ≤ cb + 4 by omega) hcb, Nat.le_trans (show sb + 0 + 12 ≤ sb + 24 by omega) hsb⟩ dL_law_913 (fun x913 hx913 => ?_)
  refine lj_istore C (lv2 := [some (.ref b), some (.ref (ld_ad w 0)), some (.ref (ld_ad w 67)), some (.ref (ld_ad w 86)), some (.int v4), some (.int x913.1), none]) (Nat.le_of_ble_eq_true rfl) rfl dL_law_916 ?_
  refine lj_aload_n C rfl rfl dL_law_918 ?_
  refine lj_aload_n C rfl rfl dL_law_919 ?_
  refine lj_iload C rfl dL_law_920 ?_
  refine lj_iconst C (v := 1) (by decide) dL_law_922 ?_
  refine lj_iadd C dL_law_923 ?_
  refine lj_sld C hX hbl hbA dL_law_924 ?_
  refine lj_aload_n C rfl rfl dL_law_925 ?_
  refine lj_iload C rfl dL_law_926 ?_
  refine lj_iconst C (v := 2) (by decide) dL_law_928 ?_
  refine lj_iadd C dL_law_929 ?_
  refine lj_sld C hX hbl hbA dL_law_930 ?_
  refine lj_cVb C (As := [.int (xs (v4 + 1).toNatClampNeg), .int (xs (v4 + 2).toNatClampNeg)]) (rest := []) (i := 67) (ci := 4) (Cn := RX4) (Tb := TX4) (N := 23) (fs := (ld_f4 w) (x913.2 67)) (fun sz x hx => zX4_level l w x913.2 (xs (v4 + 1).toNatClampNeg) (xs (v4 + 2).toNatClampNeg) hx sz) (cwV 2 C.2.2.2.2.1 gL_law_X4_level rfl rfl rfl (by decide +kernel) ⟨Nat.le_of_ble_eq_true rfl, Nat.le_of_ble_eq_true rfl⟩) (by decide) ((fun _ => rfl) _) rfl rfl rfl rfl (Nat.le_of_ble_eq_true rfl) ⟨Nat.le_trans (show cb + 2 + 0 ≤ cb + 4 by omega) hcb, Nat.le_trans (show sb + 12 + 0 ≤ sb + 24 by omega) hsb⟩ dL_law_931 (fun x931 hx931 => ?_)
  refine lj_istore C (lv2 := [some (.ref b), some (.ref (ld_ad w 0)), some (.ref (ld_ad w 67)), some (.ref (ld_ad w 86)), some (.int v4), some (.int x913.1), some (.int x931.1)]) (Nat.le_of_ble_eq_true rfl) rfl dL_law_934 ?_
  refine lj_aload_n C rfl rfl dL_law_936 ?_
  refine lj_cVa C (As := []) (rest := []) (i := 67) (ci := 4) (Cn := RX4) (Tb := TX4) (N := 23) (fs := (ld_f4 w) (x931.2 67)) (fun sz x hx => zX4_thrown l w x931.2  hx sz) (cwV 0 C.2.2.2.2.1 gL_law_X4_thrown rfl rfl rfl (by decide +kernel) ⟨Nat.le_of_ble_eq_true rfl, Nat.le_of_ble_eq_true rfl⟩) (by decide) ((fun _ => rfl) _) rfl rfl rfl rfl (Nat.le_of_ble_eq_true rfl) ⟨Nat.le_trans (show cb + 2 + 0 ≤ cb + 4 by omega) hcb, Nat.le_trans (show sb + 12 + 0 ≤ sb + 24 by omega) hsb⟩ dL_law_937 (fun x937 hx937 => ?_)
  refine lj_iload C rfl dL_law_940 ?_
  refine lj_icmp_eq C (tgt := 947) dL_law_942 (by decide) ?_ ?_
  · refine lj_iload C rfl dL_law_947 ?_
    refine lj_if_ne C (tgt := 964) dL_law_949 (by decide) ?_ ?_
    · exact bL_law_964 l w hfl L xs hX hbl hbA hnew C cb sb hcb hsb (k) (fun Z9 u0 => hk Z9 u0) x931.2 v4 x913.1 x931.1
    · refine lj_aload_n C rfl rfl dL_law_952 ?_
      refine lj_iconst C (v := 0) (by decide) dL_law_953 ?_
      refine lj_lald C rfl dL_law_954 ?_
      refine lj_iload C rfl dL_law_955 ?_
      refine lj_i2l C rfl dL_law_957 ?_
      refine lj_lcmp C dL_law_958 ?_
      refine lj_if_eq C (tgt := 964) dL_law_959 (by decide) ?_ ?_
      · exact bL_law_964 l w hfl L xs hX hbl hbA hnew C cb sb hcb hsb (k) (fun Z9 u0 => hk Z9 u0) x931.2 v4 x913.1 x931.1
      · refine lj_iconst C (v := 0) (by decide) dL_law_962 ?_
        exact lj_lret C hnew (Nat.le_trans (by omega) hcb) (Nat.le_trans (by omega) hsb) dL_law_963
  · refine lj_iconst C (v := 0) (by decide) dL_law_945 ?_
    exact lj_lret C hnew (Nat.le_trans (by omega) hcb) (Nat.le_trans (by omega) hsb) dL_law_946
def kL_law_1020 (L : Nat) (xs : Nat → Int32) (k : ld_M → Int32 → Option Int32) (Z : ld_M) (v4 : Int32) (v5 : Int32) (v6 : Int32) : Option Int32 := kL_law_1264 L xs (k) Z v4
set_option maxHeartbeats 4000000 in
set_option maxRecDepth 100000 in
theorem bL_law_1020 {p : Program} {e : Env} {s : State} {m : MethodId} {below : List Frame} {meth : Method} {c : Code} (l : Launch) (w : ld_E) (hfl : l.stackTraces = false) {b : Nat} (L : Nat) (xs : Nat → Int32) (hX : va_X b L xs s s.heap) (hbl : b < s.heap.size) (hbA : ¬ ld_A w s.heap.size b) (hnew : ∀ i, i < 87 → s.heap.size ≤ ld_ad w i) (C : ld_C p l s m #[Value.ref b] meth c code 7 ret wsL_law RL w) (cb sb : Nat) (hcb : cb + 4 ≤ room_1.cells) (hsb : sb + 24 ≤ room_1.slots) (k : ld_M → Int32 → Option Int32) (hk : ∀ (Z : ld_M) (u0 : Int32), ld_T p l e room_1 s m #[Value.ref b] below meth c (lw_Z below #[Value.ref b] s) w (1 : Int32) (k Z u0) Z (cb + 4) (sb + 24) 23 [some (.ref b), some (.ref (ld_ad w 0)), some (.ref (ld_ad w 67)), some (.ref (ld_ad w 86)), some (.int u0), none, none] []) (Z : ld_M) (v4 : Int32) (v5 : Int32) (v6 : Int32) : ld_T p l e room_1 s m #[Value.ref b] below meth c (lw_Z below #[Value.ref b] s) w (1 : Int32) (kL_law_1020 L xs k Z v4 v5 v6) Z (cb + 1) (sb + 6) 1020 [some (.ref b), some (.ref (ld_ad w 0)), some (.ref (ld_ad w 67)), some (.ref (ld_ad w 86)), some (.int v4), some (.int v5), some (.int v6)] [] := by
  unfold kL_law_1020
  refine lj_goto C (tgt := 1264) dL_law_1020 (by decide) ?_
  refine lj_wide (k := cb + 4) (n := sb + 24) (by omega) (by omega) ?_
  refine lj_forget (lv2 := [some (.ref b), some (.ref (ld_ad w 0)), some (.ref (ld_ad w 67)), some (.ref (ld_ad w 86)), some (.int v4), none, none]) (by simp [ld_le]) ?_
  exact bL_law_1264 l w hfl L xs hX hbl hbA hnew C cb sb hcb hsb (k) (fun Z9 u0 => hk Z9 u0) Z v4
def kL_law_967 (L : Nat) (xs : Nat → Int32) (k : ld_M → Int32 → Option Int32) (Z : ld_M) (v4 : Int32) : Option Int32 := ld_ck (ld_g (v4 + 1) L) (ld_bd (kL_merged Z (xs (v4 + 1).toNatClampNeg)) (fun x975 => ld_ck (ld_g (v4 + 1) L) (ld_bd (kX4_merged x975.2 (xs (v4 + 1).toNatClampNeg)) (fun x987 => ld_bd (kX4_thrown x987.2) (fun x993 => if (x993 : Int32) = x975.1 then (if (x975.1 : Int32) = 0 then (ld_ck (ld_g 0 1) (if ((lg_cmp (x987.2 86 (0 : Int32).toNatClampNeg).toInt64 x987.1.toInt64) : Int32) = 0 then (kL_law_1020 L xs (k) x987.2 v4 x975.1 x987.1) else (some 0))) else (kL_law_1020 L xs (k) x987.2 v4 x975.1 x987.1)) else (some 0))))))
set_option maxHeartbeats 4000000 in
set_option maxRecDepth 100000 in
theorem bL_law_967 {p : Program} {e : Env} {s : State} {m : MethodId} {below : List Frame} {meth : Method} {c : Code} (l : Launch) (w : ld_E) (hfl : l.stackTraces = false) {b : Nat} (L : Nat) (xs : Nat → Int32) (hX : va_X b L xs s s.heap) (hbl : b < s.heap.size) (hbA : ¬ ld_A w s.heap.size b) (hnew : ∀ i, i < 87 → s.heap.size ≤ ld_ad w i) (C : ld_C p l s m #[Value.ref b] meth c code 7 ret wsL_law RL w) (cb sb : Nat) (hcb : cb + 4 ≤ room_1.cells) (hsb : sb + 24 ≤ room_1.slots) (k : ld_M → Int32 → Option Int32) (hk : ∀ (Z : ld_M) (u0 : Int32), ld_T p l e room_1 s m #[Value.ref b] below meth c (lw_Z below #[Value.ref b] s) w (1 : Int32) (k Z u0) Z (cb + 4) (sb + 24) 23 [some (.ref b), some (.ref (ld_ad w 0)), some (.ref (ld_ad w 67)), some (.ref (ld_ad w 86)), some (.int u0), none, none] []) (Z : ld_M) (v4 : Int32) : ld_T p l e room_1 s m #[Value.ref b] below meth c (lw_Z below #[Value.ref b] s) w (1 : Int32) (kL_law_967 L xs k Z v4) Z (cb + 0) (sb + 0) 967 [some (.ref b), some (.ref (ld_ad w 0)), some (.ref (ld_ad w 67)), some (.ref (ld_ad w 86)), some (.int v4), none, none] [] := by
  unfold kL_law_967
  refine lj_aload_n C rfl rfl dL_law_967 ?_
  refine lj_aload_n C rfl rfl dL_law_968 ?_
  refine lj_iload C rfl dL_law_969 ?_
  refine lj_iconst C (v := 1) (by decide) dL_law_971 ?_
  refine lj_iadd C dL_law_972 ?_
  refine lj_sld C hX hbl hbA dL_law_973 ?_
  refine lj_aload_n C rfl rfl dL_law_974 ?_
  refine lj_cW C (As := [.ref (ld_ad w 0), .int (xs (v4 + 1).toNatClampNeg), .ref (ld_ad w 86)]) (rest := []) (fun sz x hx => zL_merged l hfl w Z (xs (v4 + 1).toNatClampNeg) hx sz) (vx_cwSW 3 C.2.2.2.2.1 gL_law_L_merged rfl rfl rfl (by decide +kernel) ⟨Nat.le_of_ble_eq_true rfl, Nat.le_of_ble_eq_true rfl⟩) rfl rfl rfl (Nat.le_of_ble_eq_true rfl) ⟨Nat.le_trans (show cb + 0 + 1 ≤ cb + 4 by omega) hcb, Nat.le_trans (show sb + 0 + 6 ≤ sb + 24 by omega) hsb⟩ dL_law_975 (fun x975 hx975 => ?_)
  refine lj_istore C (lv2 := [some (.ref b), some (.ref (ld_ad w 0)), some (.ref (ld_ad w 67)), some (.ref (ld_ad w 86)), some (.int v4), some (.int x975.1), none]) (Nat.le_of_ble_eq_true rfl) rfl dL_law_978 ?_
  refine lj_aload_n C rfl rfl dL_law_980 ?_
  refine lj_aload_n C rfl rfl dL_law_981 ?_
  refine lj_iload C rfl dL_law_982 ?_
  refine lj_iconst C (v := 1) (by decide) dL_law_984 ?_
  refine lj_iadd C dL_law_985 ?_
  refine lj_sld C hX hbl hbA dL_law_986 ?_
  refine lj_cVb C (As := [.int (xs (v4 + 1).toNatClampNeg)]) (rest := []) (i := 67) (ci := 4) (Cn := RX4) (Tb := TX4) (N := 23) (fs := (ld_f4 w) (x975.2 67)) (fun sz x hx => zX4_merged l w x975.2 (xs (v4 + 1).toNatClampNeg) hx sz) (cwV 1 C.2.2.2.2.1 gL_law_X4_merged rfl rfl rfl (by decide +kernel) ⟨Nat.le_of_ble_eq_true rfl, Nat.le_of_ble_eq_true rfl⟩) (by decide) ((fun _ => rfl) _) rfl rfl rfl rfl (Nat.le_of_ble_eq_true rfl) ⟨Nat.le_trans (show cb + 1 + 0 ≤ cb + 4 by omega) hcb, Nat.le_trans (show sb + 6 + 0 ≤ sb + 24 by omega) hsb⟩ dL_law_987 (fun x987 hx987 => ?_)
  refine lj_istore C (lv2 := [some (.ref b), some (.ref (ld_ad w 0)), some (.ref (ld_ad w 67)), some (.ref (ld_ad w 86)), some (.int v4), some (.int x975.1), some (.int x987.1)]) (Nat.le_of_ble_eq_true rfl) rfl dL_law_990 ?_
  refine lj_aload_n C rfl rfl dL_law_992 ?_
  refine lj_cVa C (As := []) (rest := []) (i := 67) (ci := 4) (Cn := RX4) (Tb := TX4) (N := 23) (fs := (ld_f4 w) (x987.2 67)) (fun sz x hx => zX4_thrown l w x987.2  hx sz) (cwV 0 C.2.2.2.2.1 gL_law_X4_thrown rfl rfl rfl (by decide +kernel) ⟨Nat.le_of_ble_eq_true rfl, Nat.le_of_ble_eq_true rfl⟩) (by decide) ((fun _ => rfl) _) rfl rfl rfl rfl (Nat.le_of_ble_eq_true rfl) ⟨Nat.le_trans (show cb + 1 + 0 ≤ cb + 4 by omega) hcb, Nat.le_trans (show sb + 6 + 0 ≤ sb + 24 by omega) hsb⟩ dL_law_993 (fun x993 hx993 => ?_)
  refine lj_iload C rfl dL_law_996 ?_
  refine lj_icmp_eq C (tgt := 1003) dL_law_998 (by decide) ?_ ?_
  · refine lj_iload C rfl dL_law_1003 ?_
    refine lj_if_ne C (tgt := 1020) dL_law_1005 (by decide) ?_ ?_
    · exact bL_law_1020 l w hfl L xs hX hbl hbA hnew C cb sb hcb hsb (k) (fun Z9 u0 => hk Z9 u0) x987.2 v4 x975.1 x987.1
    · refine lj_aload_n C rfl rfl dL_law_1008 ?_
      refine lj_iconst C (v := 0) (by decide) dL_law_1009 ?_
      refine lj_lald C rfl dL_law_1010 ?_
      refine lj_iload C rfl dL_law_1011 ?_
      refine lj_i2l C rfl dL_law_1013 ?_
      refine lj_lcmp C dL_law_1014 ?_
      refine lj_if_eq C (tgt := 1020) dL_law_1015 (by decide) ?_ ?_
      · exact bL_law_1020 l w hfl L xs hX hbl hbA hnew C cb sb hcb hsb (k) (fun Z9 u0 => hk Z9 u0) x987.2 v4 x975.1 x987.1
      · refine lj_iconst C (v := 0) (by decide) dL_law_1018 ?_
        exact lj_lret C hnew (Nat.le_trans (by omega) hcb) (Nat.le_trans (by omega) hsb) dL_law_1019
  · refine lj_iconst C (v := 0) (by decide) dL_law_1001 ?_
    exact lj_lret C hnew (Nat.le_trans (by omega) hcb) (Nat.le_trans (by omega) hsb) dL_law_1002
def kL_law_1076 (L : Nat) (xs : Nat → Int32) (k : ld_M → Int32 → Option Int32) (Z : ld_M) (v4 : Int32) (v5 : Int32) (v6 : Int32) : Option Int32 := kL_law_1264 L xs (k) Z v4
set_option maxHeartbeats 4000000 in
set_option maxRecDepth 100000 in
theorem bL_law_1076 {p : Program} {e : Env} {s : State} {m : MethodId} {below : List Frame} {meth : Method} {c : Code} (l : Launch) (w : ld_E) (hfl : l.stackTraces = false) {b : Nat} (L : Nat) (xs : Nat → Int32) (hX : va_X b L xs s s.heap) (hbl : b < s.heap.size) (hbA : ¬ ld_A w s.heap.size b) (hnew : ∀ i, i < 87 → s.heap.size ≤ ld_ad w i) (C : ld_C p l s m #[Value.ref b] meth c code 7 ret wsL_law RL w) (cb sb : Nat) (hcb : cb + 4 ≤ room_1.cells) (hsb : sb + 24 ≤ room_1.slots) (k : ld_M → Int32 → Option Int32) (hk : ∀ (Z : ld_M) (u0 : Int32), ld_T p l e room_1 s m #[Value.ref b] below meth c (lw_Z below #[Value.ref b] s) w (1 : Int32) (k Z u0) Z (cb + 4) (sb + 24) 23 [some (.ref b), some (.ref (ld_ad w 0)), some (.ref (ld_ad w 67)), some (.ref (ld_ad w 86)), some (.int u0), none, none] []) (Z : ld_M) (v4 : Int32) (v5 : Int32) (v6 : Int32) : ld_T p l e room_1 s m #[Value.ref b] below meth c (lw_Z below #[Value.ref b] s) w (1 : Int32) (kL_law_1076 L xs k Z v4 v5 v6) Z (cb + 1) (sb + 6) 1076 [some (.ref b), some (.ref (ld_ad w 0)), some (.ref (ld_ad w 67)), some (.ref (ld_ad w 86)), some (.int v4), some (.int v5), some (.int v6)] [] := by
  unfold kL_law_1076
  refine lj_goto C (tgt := 1264) dL_law_1076 (by decide) ?_
  refine lj_wide (k := cb + 4) (n := sb + 24) (by omega) (by omega) ?_
  refine lj_forget (lv2 := [some (.ref b), some (.ref (ld_ad w 0)), some (.ref (ld_ad w 67)), some (.ref (ld_ad w 86)), some (.int v4), none, none]) (by simp [ld_le]) ?_
  exact bL_law_1264 l w hfl L xs hX hbl hbA hnew C cb sb hcb hsb (k) (fun Z9 u0 => hk Z9 u0) Z v4
def kL_law_1023 (L : Nat) (xs : Nat → Int32) (k : ld_M → Int32 → Option Int32) (Z : ld_M) (v4 : Int32) : Option Int32 := ld_ck (ld_g (v4 + 1) L) (ld_bd (kL_light Z (xs (v4 + 1).toNatClampNeg)) (fun x1031 => ld_ck (ld_g (v4 + 1) L) (ld_bd (kX4_light x1031.2 (xs (v4 + 1).toNatClampNeg)) (fun x1043 => ld_bd (kX4_thrown x1043.2) (fun x1049 => if (x1049 : Int32) = x1031.1 then (if (x1031.1 : Int32) = 0 then (ld_ck (ld_g 0 1) (if ((lg_cmp (x1043.2 86 (0 : Int32).toNatClampNeg).toInt64 x1043.1.toInt64) : Int32) = 0 then (kL_law_1076 L xs (k) x1043.2 v4 x1031.1 x1043.1) else (some 0))) else (kL_law_1076 L xs (k) x1043.2 v4 x1031.1 x1043.1)) else (some 0))))))
set_option maxHeartbeats 4000000 in
set_option maxRecDepth 100000 in
theorem bL_law_1023 {p : Program} {e : Env} {s : State} {m : MethodId} {below : List Frame} {meth : Method} {c : Code} (l : Launch) (w : ld_E) (hfl : l.stackTraces = false) {b : Nat} (L : Nat) (xs : Nat → Int32) (hX : va_X b L xs s s.heap) (hbl : b < s.heap.size) (hbA : ¬ ld_A w s.heap.size b) (hnew : ∀ i, i < 87 → s.heap.size ≤ ld_ad w i) (C : ld_C p l s m #[Value.ref b] meth c code 7 ret wsL_law RL w) (cb sb : Nat) (hcb : cb + 4 ≤ room_1.cells) (hsb : sb + 24 ≤ room_1.slots) (k : ld_M → Int32 → Option Int32) (hk : ∀ (Z : ld_M) (u0 : Int32), ld_T p l e room_1 s m #[Value.ref b] below meth c (lw_Z below #[Value.ref b] s) w (1 : Int32) (k Z u0) Z (cb + 4) (sb + 24) 23 [some (.ref b), some (.ref (ld_ad w 0)), some (.ref (ld_ad w 67)), some (.ref (ld_ad w 86)), some (.int u0), none, none] []) (Z : ld_M) (v4 : Int32) : ld_T p l e room_1 s m #[Value.ref b] below meth c (lw_Z below #[Value.ref b] s) w (1 : Int32) (kL_law_1023 L xs k Z v4) Z (cb + 0) (sb + 0) 1023 [some (.ref b), some (.ref (ld_ad w 0)), some (.ref (ld_ad w 67)), some (.ref (ld_ad w 86)), some (.int v4), none, none] [] := by
  unfold kL_law_1023
  refine lj_aload_n C rfl rfl dL_law_1023 ?_
  refine lj_aload_n C rfl rfl dL_law_1024 ?_
  refine lj_iload C rfl dL_law_1025 ?_
  refine lj_iconst C (v := 1) (by decide) dL_law_1027 ?_
  refine lj_iadd C dL_law_1028 ?_
  refine lj_sld C hX hbl hbA dL_law_1029 ?_
  refine lj_aload_n C rfl rfl dL_law_1030 ?_
  refine lj_cW C (As := [.ref (ld_ad w 0), .int (xs (v4 + 1).toNatClampNeg), .ref (ld_ad w 86)]) (rest := []) (fun sz x hx => zL_light l hfl w Z (xs (v4 + 1).toNatClampNeg) hx sz) (vx_cwSW 3 C.2.2.2.2.1 gL_law_L_light rfl rfl rfl (by decide +kernel) ⟨Nat.le_of_ble_eq_true rfl, Nat.le_of_ble_eq_true rfl⟩) rfl rfl rfl (Nat.le_of_ble_eq_true rfl) ⟨Nat.le_trans (show cb + 0 + 1 ≤ cb + 4 by omega) hcb, Nat.le_trans (show sb + 0 + 6 ≤ sb + 24 by omega) hsb⟩ dL_law_1031 (fun x1031 hx1031 => ?_)
  refine lj_istore C (lv2 := [some (.ref b), some (.ref (ld_ad w 0)), some (.ref (ld_ad w 67)), some (.ref (ld_ad w 86)), some (.int v4), some (.int x1031.1), none]) (Nat.le_of_ble_eq_true rfl) rfl dL_law_1034 ?_
  refine lj_aload_n C rfl rfl dL_law_1036 ?_
  refine lj_aload_n C rfl rfl dL_law_1037 ?_
  refine lj_iload C rfl dL_law_1038 ?_
  refine lj_iconst C (v := 1) (by decide) dL_law_1040 ?_
  refine lj_iadd C dL_law_1041 ?_
  refine lj_sld C hX hbl hbA dL_law_1042 ?_
  refine lj_cVb C (As := [.int (xs (v4 + 1).toNatClampNeg)]) (rest := []) (i := 67) (ci := 4) (Cn := RX4) (Tb := TX4) (N := 23) (fs := (ld_f4 w) (x1031.2 67)) (fun sz x hx => zX4_light l w x1031.2 (xs (v4 + 1).toNatClampNeg) hx sz) (cwV 1 C.2.2.2.2.1 gL_law_X4_light rfl rfl rfl (by decide +kernel) ⟨Nat.le_of_ble_eq_true rfl, Nat.le_of_ble_eq_true rfl⟩) (by decide) ((fun _ => rfl) _) rfl rfl rfl rfl (Nat.le_of_ble_eq_true rfl) ⟨Nat.le_trans (show cb + 1 + 0 ≤ cb + 4 by omega) hcb, Nat.le_trans (show sb + 6 + 0 ≤ sb + 24 by omega) hsb⟩ dL_law_1043 (fun x1043 hx1043 => ?_)
  refine lj_istore C (lv2 := [some (.ref b), some (.ref (ld_ad w 0)), some (.ref (ld_ad w 67)), some (.ref (ld_ad w 86)), some (.int v4), some (.int x1031.1), some (.int x1043.1)]) (Nat.le_of_ble_eq_true rfl) rfl dL_law_1046 ?_
  refine lj_aload_n C rfl rfl dL_law_1048 ?_
  refine lj_cVa C (As := []) (rest := []) (i := 67) (ci := 4) (Cn := RX4) (Tb := TX4) (N := 23) (fs := (ld_f4 w) (x1043.2 67)) (fun sz x hx => zX4_thrown l w x1043.2  hx sz) (cwV 0 C.2.2.2.2.1 gL_law_X4_thrown rfl rfl rfl (by decide +kernel) ⟨Nat.le_of_ble_eq_true rfl, Nat.le_of_ble_eq_true rfl⟩) (by decide) ((fun _ => rfl) _) rfl rfl rfl rfl (Nat.le_of_ble_eq_true rfl) ⟨Nat.le_trans (show cb + 1 + 0 ≤ cb + 4 by omega) hcb, Nat.le_trans (show sb + 6 + 0 ≤ sb + 24 by omega) hsb⟩ dL_law_1049 (fun x1049 hx1049 => ?_)
  refine lj_iload C rfl dL_law_1052 ?_
  refine lj_icmp_eq C (tgt := 1059) dL_law_1054 (by decide) ?_ ?_
  · refine lj_iload C rfl dL_law_1059 ?_
    refine lj_if_ne C (tgt := 1076) dL_law_1061 (by decide) ?_ ?_
    · exact bL_law_1076 l w hfl L xs hX hbl hbA hnew C cb sb hcb hsb (k) (fun Z9 u0 => hk Z9 u0) x1043.2 v4 x1031.1 x1043.1
    · refine lj_aload_n C rfl rfl dL_law_1064 ?_
      refine lj_iconst C (v := 0) (by decide) dL_law_1065 ?_
      refine lj_lald C rfl dL_law_1066 ?_
      refine lj_iload C rfl dL_law_1067 ?_
      refine lj_i2l C rfl dL_law_1069 ?_
      refine lj_lcmp C dL_law_1070 ?_
      refine lj_if_eq C (tgt := 1076) dL_law_1071 (by decide) ?_ ?_
      · exact bL_law_1076 l w hfl L xs hX hbl hbA hnew C cb sb hcb hsb (k) (fun Z9 u0 => hk Z9 u0) x1043.2 v4 x1031.1 x1043.1
      · refine lj_iconst C (v := 0) (by decide) dL_law_1074 ?_
        exact lj_lret C hnew (Nat.le_trans (by omega) hcb) (Nat.le_trans (by omega) hsb) dL_law_1075
  · refine lj_iconst C (v := 0) (by decide) dL_law_1057 ?_
    exact lj_lret C hnew (Nat.le_trans (by omega) hcb) (Nat.le_trans (by omega) hsb) dL_law_1058
def kL_law_1079 (L : Nat) (xs : Nat → Int32) (k : ld_M → Int32 → Option Int32) (Z : ld_M) (v4 : Int32) : Option Int32 := ld_bd (kX3_allLight Z) (fun x1080 => ld_bd (kX4_allLight Z) (fun x1084 => if (x1080 : Int32) = x1084.1 then (kL_law_1264 L xs (k) x1084.2 v4) else (some 0)))
set_option maxHeartbeats 4000000 in
set_option maxRecDepth 100000 in
theorem bL_law_1079 {p : Program} {e : Env} {s : State} {m : MethodId} {below : List Frame} {meth : Method} {c : Code} (l : Launch) (w : ld_E) (hfl : l.stackTraces = false) {b : Nat} (L : Nat) (xs : Nat → Int32) (hX : va_X b L xs s s.heap) (hbl : b < s.heap.size) (hbA : ¬ ld_A w s.heap.size b) (hnew : ∀ i, i < 87 → s.heap.size ≤ ld_ad w i) (C : ld_C p l s m #[Value.ref b] meth c code 7 ret wsL_law RL w) (cb sb : Nat) (hcb : cb + 4 ≤ room_1.cells) (hsb : sb + 24 ≤ room_1.slots) (k : ld_M → Int32 → Option Int32) (hk : ∀ (Z : ld_M) (u0 : Int32), ld_T p l e room_1 s m #[Value.ref b] below meth c (lw_Z below #[Value.ref b] s) w (1 : Int32) (k Z u0) Z (cb + 4) (sb + 24) 23 [some (.ref b), some (.ref (ld_ad w 0)), some (.ref (ld_ad w 67)), some (.ref (ld_ad w 86)), some (.int u0), none, none] []) (Z : ld_M) (v4 : Int32) : ld_T p l e room_1 s m #[Value.ref b] below meth c (lw_Z below #[Value.ref b] s) w (1 : Int32) (kL_law_1079 L xs k Z v4) Z (cb + 0) (sb + 0) 1079 [some (.ref b), some (.ref (ld_ad w 0)), some (.ref (ld_ad w 67)), some (.ref (ld_ad w 86)), some (.int v4), none, none] [] := by
  unfold kL_law_1079
  refine lj_aload_n C rfl rfl dL_law_1079 ?_
  refine lj_cVa C (As := []) (rest := []) (i := 0) (ci := 3) (Cn := RX3) (Tb := TX3) (N := 7) (fs := (ld_f3 w) (Z 0)) (fun sz x hx => zX3_allLight l w Z  hx sz) (cwV 0 C.2.2.2.2.1 gL_law_X3_allLight rfl rfl rfl (by decide +kernel) ⟨Nat.le_of_ble_eq_true rfl, Nat.le_of_ble_eq_true rfl⟩) (by decide) ((fun _ => rfl) _) rfl rfl rfl rfl (Nat.le_of_ble_eq_true rfl) ⟨Nat.le_trans (show cb + 0 + 0 ≤ cb + 4 by omega) hcb, Nat.le_trans (show sb + 0 + 0 ≤ sb + 24 by omega) hsb⟩ dL_law_1080 (fun x1080 hx1080 => ?_)
  refine lj_aload_n C rfl rfl dL_law_1083 ?_
  refine lj_cVb C (As := []) (rest := [.int x1080]) (i := 67) (ci := 4) (Cn := RX4) (Tb := TX4) (N := 23) (fs := (ld_f4 w) (Z 67)) (fun sz x hx => zX4_allLight l w Z  hx sz) (cwV 0 C.2.2.2.2.1 gL_law_X4_allLight rfl rfl rfl (by decide +kernel) ⟨Nat.le_of_ble_eq_true rfl, Nat.le_of_ble_eq_true rfl⟩) (by decide) ((fun _ => rfl) _) rfl rfl rfl rfl (Nat.le_of_ble_eq_true rfl) ⟨Nat.le_trans (show cb + 0 + 0 ≤ cb + 4 by omega) hcb, Nat.le_trans (show sb + 0 + 0 ≤ sb + 24 by omega) hsb⟩ dL_law_1084 (fun x1084 hx1084 => ?_)
  refine lj_icmp_eq C (tgt := 1264) dL_law_1087 (by decide) ?_ ?_
  · refine lj_wide (k := cb + 4) (n := sb + 24) (by omega) (by omega) ?_
    exact bL_law_1264 l w hfl L xs hX hbl hbA hnew C cb sb hcb hsb (k) (fun Z9 u0 => hk Z9 u0) x1084.2 v4
  · refine lj_iconst C (v := 0) (by decide) dL_law_1090 ?_
    exact lj_lret C hnew (Nat.le_trans (by omega) hcb) (Nat.le_trans (by omega) hsb) dL_law_1091
def kL_law_1169 (L : Nat) (xs : Nat → Int32) (k : ld_M → Int32 → Option Int32) (Z : ld_M) (v4 : Int32) (v5 : Int32) (v6 : Int32) : Option Int32 := kL_law_1264 L xs (k) Z v4
set_option maxHeartbeats 4000000 in
set_option maxRecDepth 100000 in
theorem bL_law_1169 {p : Program} {e : Env} {s : State} {m : MethodId} {below : List Frame} {meth : Method} {c : Code} (l : Launch) (w : ld_E) (hfl : l.stackTraces = false) {b : Nat} (L : Nat) (xs : Nat → Int32) (hX : va_X b L xs s s.heap) (hbl : b < s.heap.size) (hbA : ¬ ld_A w s.heap.size b) (hnew : ∀ i, i < 87 → s.heap.size ≤ ld_ad w i) (C : ld_C p l s m #[Value.ref b] meth c code 7 ret wsL_law RL w) (cb sb : Nat) (hcb : cb + 4 ≤ room_1.cells) (hsb : sb + 24 ≤ room_1.slots) (k : ld_M → Int32 → Option Int32) (hk : ∀ (Z : ld_M) (u0 : Int32), ld_T p l e room_1 s m #[Value.ref b] below meth c (lw_Z below #[Value.ref b] s) w (1 : Int32) (k Z u0) Z (cb + 4) (sb + 24) 23 [some (.ref b), some (.ref (ld_ad w 0)), some (.ref (ld_ad w 67)), some (.ref (ld_ad w 86)), some (.int u0), none, none] []) (Z : ld_M) (v4 : Int32) (v5 : Int32) (v6 : Int32) : ld_T p l e room_1 s m #[Value.ref b] below meth c (lw_Z below #[Value.ref b] s) w (1 : Int32) (kL_law_1169 L xs k Z v4 v5 v6) Z (cb + 3) (sb + 18) 1169 [some (.ref b), some (.ref (ld_ad w 0)), some (.ref (ld_ad w 67)), some (.ref (ld_ad w 86)), some (.int v4), some (.int v5), some (.int v6)] [] := by
  unfold kL_law_1169
  refine lj_goto C (tgt := 1264) dL_law_1169 (by decide) ?_
  refine lj_wide (k := cb + 4) (n := sb + 24) (by omega) (by omega) ?_
  refine lj_forget (lv2 := [some (.ref b), some (.ref (ld_ad w 0)), some (.ref (ld_ad w 67)), some (.ref (ld_ad w 86)), some (.int v4), none, none]) (by simp [ld_le]) ?_
  exact bL_law_1264 l w hfl L xs hX hbl hbA hnew C cb sb hcb hsb (k) (fun Z9 u0 => hk Z9 u0) Z v4
def kL_law_1092 (L : Nat) (xs : Nat → Int32) (k : ld_M → Int32 → Option Int32) (Z : ld_M) (v4 : Int32) : Option Int32 := ld_ck (ld_g (v4 + 1) L) (ld_ck (ld_g (v4 + 2) L) (ld_ck (ld_g (v4 + 3) L) (ld_bd (kL_preview Z (xs (v4 + 1).toNatClampNeg) (xs (v4 + 2).toNatClampNeg) (xs (v4 + 3).toNatClampNeg)) (fun x1112 => ld_ck (ld_g (v4 + 1) L) (ld_ck (ld_g (v4 + 2) L) (ld_ck (ld_g (v4 + 3) L) (ld_bd (kX4_preview x1112.2 (xs (v4 + 1).toNatClampNeg) (xs (v4 + 2).toNatClampNeg) (xs (v4 + 3).toNatClampNeg)) (fun x1136 => ld_bd (kX4_thrown x1136.2) (fun x1142 => if (x1142 : Int32) = x1112.1 then (if (x1112.1 : Int32) = 0 then (ld_ck (ld_g 0 1) (if ((lg_cmp (x1136.2 86 (0 : Int32).toNatClampNeg).toInt64 x1136.1.toInt64) : Int32) = 0 then (kL_law_1169 L xs (k) x1136.2 v4 x1112.1 x1136.1) else (some 0))) else (kL_law_1169 L xs (k) x1136.2 v4 x1112.1 x1136.1)) else (some 0))))))))))
set_option maxHeartbeats 4000000 in
set_option maxRecDepth 100000 in
theorem bL_law_1092 {p : Program} {e : Env} {s : State} {m : MethodId} {below : List Frame} {meth : Method} {c : Code} (l : Launch) (w : ld_E) (hfl : l.stackTraces = false) {b : Nat} (L : Nat) (xs : Nat → Int32) (hX : va_X b L xs s s.heap) (hbl : b < s.heap.size) (hbA : ¬ ld_A w s.heap.size b) (hnew : ∀ i, i < 87 → s.heap.size ≤ ld_ad w i) (C : ld_C p l s m #[Value.ref b] meth c code 7 ret wsL_law RL w) (cb sb : Nat) (hcb : cb + 4 ≤ room_1.cells) (hsb : sb + 24 ≤ room_1.slots) (k : ld_M → Int32 → Option Int32) (hk : ∀ (Z : ld_M) (u0 : Int32), ld_T p l e room_1 s m #[Value.ref b] below meth c (lw_Z below #[Value.ref b] s) w (1 : Int32) (k Z u0) Z (cb + 4) (sb + 24) 23 [some (.ref b), some (.ref (ld_ad w 0)), some (.ref (ld_ad w 67)), some (.ref (ld_ad w 86)), some (.int u0), none, none] []) (Z : ld_M) (v4 : Int32) : ld_T p l e room_1 s m #[Value.ref b] below meth c (lw_Z below #[Value.ref b] s) w (1 : Int32) (kL_law_1092 L xs k Z v4) Z (cb + 0) (sb + 0) 1092 [some (.ref b), some (.ref (ld_ad w 0)), some (.ref (ld_ad w 67)), some (.ref (ld_ad w 86)), some (.int v4), none, none] [] := by
  unfold kL_law_1092
  refine lj_aload_n C rfl rfl dL_law_1092 ?_
  refine lj_aload_n C rfl rfl dL_law_1093 ?_
  refine lj_iload C rfl dL_law_1094 ?_
  refine lj_iconst C (v := 1) (by decide) dL_law_1096 ?_
  refine lj_iadd C dL_law_1097 ?_
  refine lj_sld C hX hbl hbA dL_law_1098 ?_
  refine lj_aload_n C rfl rfl dL_law_1099 ?_
  refine lj_iload C rfl dL_law_1100 ?_
  refine lj_iconst C (v := 2) (by decide) dL_law_1102 ?_
  refine lj_iadd C dL_law_1103 ?_
  refine lj_sld C hX hbl hbA dL_law_1104 ?_
  refine lj_aload_n C rfl rfl dL_law_1105 ?_
  refine lj_iload C rfl dL_law_1106 ?_
  refine lj_iconst C (v := 3) (by decide) dL_law_1108 ?_
  refine lj_iadd C dL_law_1109 ?_
  refine lj_sld C hX hbl hbA dL_law_1110 ?_
  refine lj_aload_n C rfl rfl dL_law_1111 ?_
  refine lj_cW C (As := [.ref (ld_ad w 0), .int (xs (v4 + 1).toNatClampNeg), .int (xs (v4 + 2).toNatClampNeg), .int (xs (v4 + 3).toNatClampNeg), .ref (ld_ad w 86)]) (rest := []) (fun sz x hx => zL_preview l hfl w Z (xs (v4 + 1).toNatClampNeg) (xs (v4 + 2).toNatClampNeg) (xs (v4 + 3).toNatClampNeg) hx sz) (vx_cwSW 5 C.2.2.2.2.1 gL_law_L_preview rfl rfl rfl (by decide +kernel) ⟨Nat.le_of_ble_eq_true rfl, Nat.le_of_ble_eq_true rfl⟩) rfl rfl rfl (Nat.le_of_ble_eq_true rfl) ⟨Nat.le_trans (show cb + 0 + 3 ≤ cb + 4 by omega) hcb, Nat.le_trans (show sb + 0 + 18 ≤ sb + 24 by omega) hsb⟩ dL_law_1112 (fun x1112 hx1112 => ?_)
  refine lj_istore C (lv2 := [some (.ref b), some (.ref (ld_ad w 0)), some (.ref (ld_ad w 67)), some (.ref (ld_ad w 86)), some (.int v4), some (.int x1112.1), none]) (Nat.le_of_ble_eq_true rfl) rfl dL_law_1115 ?_
  refine lj_aload_n C rfl rfl dL_law_1117 ?_
  refine lj_aload_n C rfl rfl dL_law_1118 ?_
  refine lj_iload C rfl dL_law_1119 ?_
  refine lj_iconst C (v := 1) (by decide) dL_law_1121 ?_
  refine lj_iadd C dL_law_1122 ?_
  refine lj_sld C hX hbl hbA dL_law_1123 ?_
  refine lj_aload_n C rfl rfl dL_law_1124 ?_
  refine lj_iload C rfl dL_law_1125 ?_
  refine lj_iconst C (v := 2) (by decide) dL_law_1127 ?_
  refine lj_iadd C dL_law_1128 ?_
  refine lj_sld C hX hbl hbA dL_law_1129 ?_
  refine lj_aload_n C rfl rfl dL_law_1130 ?_
  refine lj_iload C rfl dL_law_1131 ?_
  refine lj_iconst C (v := 3) (by decide) dL_law_1133 ?_
  refine lj_iadd C dL_law_1134 ?_
  refine lj_sld C hX hbl hbA dL_law_1135 ?_
  refine lj_cVb C (As := [.int (xs (v4 + 1).toNatClampNeg), .int (xs (v4 + 2).toNatClampNeg), .int (xs (v4 + 3).toNatClampNeg)]) (rest := []) (i := 67) (ci := 4) (Cn := RX4) (Tb := TX4) (N := 23) (fs := (ld_f4 w) (x1112.2 67)) (fun sz x hx => zX4_preview l w x1112.2 (xs (v4 + 1).toNatClampNeg) (xs (v4 + 2).toNatClampNeg) (xs (v4 + 3).toNatClampNeg) hx sz) (cwV 3 C.2.2.2.2.1 gL_law_X4_preview rfl rfl rfl (by decide +kernel) ⟨Nat.le_of_ble_eq_true rfl, Nat.le_of_ble_eq_true rfl⟩) (by decide) ((fun _ => rfl) _) rfl rfl rfl rfl (Nat.le_of_ble_eq_true rfl) ⟨Nat.le_trans (show cb + 3 + 0 ≤ cb + 4 by omega) hcb, Nat.le_trans (show sb + 18 + 0 ≤ sb + 24 by omega) hsb⟩ dL_law_1136 (fun x1136 hx1136 => ?_)
  refine lj_istore C (lv2 := [some (.ref b), some (.ref (ld_ad w 0)), some (.ref (ld_ad w 67)), some (.ref (ld_ad w 86)), some (.int v4), some (.int x1112.1), some (.int x1136.1)]) (Nat.le_of_ble_eq_true rfl) rfl dL_law_1139 ?_
  refine lj_aload_n C rfl rfl dL_law_1141 ?_
  refine lj_cVa C (As := []) (rest := []) (i := 67) (ci := 4) (Cn := RX4) (Tb := TX4) (N := 23) (fs := (ld_f4 w) (x1136.2 67)) (fun sz x hx => zX4_thrown l w x1136.2  hx sz) (cwV 0 C.2.2.2.2.1 gL_law_X4_thrown rfl rfl rfl (by decide +kernel) ⟨Nat.le_of_ble_eq_true rfl, Nat.le_of_ble_eq_true rfl⟩) (by decide) ((fun _ => rfl) _) rfl rfl rfl rfl (Nat.le_of_ble_eq_true rfl) ⟨Nat.le_trans (show cb + 3 + 0 ≤ cb + 4 by omega) hcb, Nat.le_trans (show sb + 18 + 0 ≤ sb + 24 by omega) hsb⟩ dL_law_1142 (fun x1142 hx1142 => ?_)
  refine lj_iload C rfl dL_law_1145 ?_
  refine lj_icmp_eq C (tgt := 1152) dL_law_1147 (by decide) ?_ ?_
  · refine lj_iload C rfl dL_law_1152 ?_
    refine lj_if_ne C (tgt := 1169) dL_law_1154 (by decide) ?_ ?_
    · exact bL_law_1169 l w hfl L xs hX hbl hbA hnew C cb sb hcb hsb (k) (fun Z9 u0 => hk Z9 u0) x1136.2 v4 x1112.1 x1136.1
    · refine lj_aload_n C rfl rfl dL_law_1157 ?_
      refine lj_iconst C (v := 0) (by decide) dL_law_1158 ?_
      refine lj_lald C rfl dL_law_1159 ?_
      refine lj_iload C rfl dL_law_1160 ?_
      refine lj_i2l C rfl dL_law_1162 ?_
      refine lj_lcmp C dL_law_1163 ?_
      refine lj_if_eq C (tgt := 1169) dL_law_1164 (by decide) ?_ ?_
      · exact bL_law_1169 l w hfl L xs hX hbl hbA hnew C cb sb hcb hsb (k) (fun Z9 u0 => hk Z9 u0) x1136.2 v4 x1112.1 x1136.1
      · refine lj_iconst C (v := 0) (by decide) dL_law_1167 ?_
        exact lj_lret C hnew (Nat.le_trans (by omega) hcb) (Nat.le_trans (by omega) hsb) dL_law_1168
  · refine lj_iconst C (v := 0) (by decide) dL_law_1150 ?_
    exact lj_lret C hnew (Nat.le_trans (by omega) hcb) (Nat.le_trans (by omega) hsb) dL_law_1151
def kL_law_1261 (L : Nat) (xs : Nat → Int32) (k : ld_M → Int32 → Option Int32) (Z : ld_M) (v4 : Int32) (v5 : Int32) (v6 : Int32) : Option Int32 := kL_law_1264 L xs (k) Z v4
set_option maxHeartbeats 4000000 in
set_option maxRecDepth 100000 in
theorem bL_law_1261 {p : Program} {e : Env} {s : State} {m : MethodId} {below : List Frame} {meth : Method} {c : Code} (l : Launch) (w : ld_E) (hfl : l.stackTraces = false) {b : Nat} (L : Nat) (xs : Nat → Int32) (hX : va_X b L xs s s.heap) (hbl : b < s.heap.size) (hbA : ¬ ld_A w s.heap.size b) (hnew : ∀ i, i < 87 → s.heap.size ≤ ld_ad w i) (C : ld_C p l s m #[Value.ref b] meth c code 7 ret wsL_law RL w) (cb sb : Nat) (hcb : cb + 4 ≤ room_1.cells) (hsb : sb + 24 ≤ room_1.slots) (k : ld_M → Int32 → Option Int32) (hk : ∀ (Z : ld_M) (u0 : Int32), ld_T p l e room_1 s m #[Value.ref b] below meth c (lw_Z below #[Value.ref b] s) w (1 : Int32) (k Z u0) Z (cb + 4) (sb + 24) 23 [some (.ref b), some (.ref (ld_ad w 0)), some (.ref (ld_ad w 67)), some (.ref (ld_ad w 86)), some (.int u0), none, none] []) (Z : ld_M) (v4 : Int32) (v5 : Int32) (v6 : Int32) : ld_T p l e room_1 s m #[Value.ref b] below meth c (lw_Z below #[Value.ref b] s) w (1 : Int32) (kL_law_1261 L xs k Z v4 v5 v6) Z (cb + 3) (sb + 18) 1261 [some (.ref b), some (.ref (ld_ad w 0)), some (.ref (ld_ad w 67)), some (.ref (ld_ad w 86)), some (.int v4), some (.int v5), some (.int v6)] [] := by
  unfold kL_law_1261
  refine lj_goto C (tgt := 1264) dL_law_1261 (by decide) ?_
  refine lj_wide (k := cb + 4) (n := sb + 24) (by omega) (by omega) ?_
  refine lj_forget (lv2 := [some (.ref b), some (.ref (ld_ad w 0)), some (.ref (ld_ad w 67)), some (.ref (ld_ad w 86)), some (.int v4), none, none]) (by simp [ld_le]) ?_
  exact bL_law_1264 l w hfl L xs hX hbl hbA hnew C cb sb hcb hsb (k) (fun Z9 u0 => hk Z9 u0) Z v4
def kL_law_1172 (L : Nat) (xs : Nat → Int32) (k : ld_M → Int32 → Option Int32) (Z : ld_M) (v4 : Int32) : Option Int32 := ld_ck (ld_g (v4 + 1) L) (ld_ck (ld_g (v4 + 2) L) (ld_ck (ld_g (v4 + 3) L) (ld_ck (ld_g (v4 + 4) L) (ld_bd (kL_touched Z (xs (v4 + 1).toNatClampNeg) (xs (v4 + 2).toNatClampNeg) (xs (v4 + 3).toNatClampNeg) (xs (v4 + 4).toNatClampNeg)) (fun x1198 => ld_ck (ld_g (v4 + 1) L) (ld_ck (ld_g (v4 + 2) L) (ld_ck (ld_g (v4 + 3) L) (ld_ck (ld_g (v4 + 4) L) (ld_bd (kX4_touched x1198.2 (xs (v4 + 1).toNatClampNeg) (xs (v4 + 2).toNatClampNeg) (xs (v4 + 3).toNatClampNeg) (xs (v4 + 4).toNatClampNeg)) (fun x1228 => ld_bd (kX4_thrown x1228.2) (fun x1234 => if (x1234 : Int32) = x1198.1 then (if (x1198.1 : Int32) = 0 then (ld_ck (ld_g 0 1) (if ((lg_cmp (x1228.2 86 (0 : Int32).toNatClampNeg).toInt64 x1228.1.toInt64) : Int32) = 0 then (kL_law_1261 L xs (k) x1228.2 v4 x1198.1 x1228.1) else (some 0))) else (kL_law_1261 L xs (k) x1228.2 v4 x1198.1 x1228.1)) else (some 0))))))))))))
set_option maxHeartbeats 4000000 in
set_option maxRecDepth 100000 in
theorem bL_law_1172 {p : Program} {e : Env} {s : State} {m : MethodId} {below : List Frame} {meth : Method} {c : Code} (l : Launch) (w : ld_E) (hfl : l.stackTraces = false) {b : Nat} (L : Nat) (xs : Nat → Int32) (hX : va_X b L xs s s.heap) (hbl : b < s.heap.size) (hbA : ¬ ld_A w s.heap.size b) (hnew : ∀ i, i < 87 → s.heap.size ≤ ld_ad w i) (C : ld_C p l s m #[Value.ref b] meth c code 7 ret wsL_law RL w) (cb sb : Nat) (hcb : cb + 4 ≤ room_1.cells) (hsb : sb + 24 ≤ room_1.slots) (k : ld_M → Int32 → Option Int32) (hk : ∀ (Z : ld_M) (u0 : Int32), ld_T p l e room_1 s m #[Value.ref b] below meth c (lw_Z below #[Value.ref b] s) w (1 : Int32) (k Z u0) Z (cb + 4) (sb + 24) 23 [some (.ref b), some (.ref (ld_ad w 0)), some (.ref (ld_ad w 67)), some (.ref (ld_ad w 86)), some (.int u0), none, none] []) (Z : ld_M) (v4 : Int32) : ld_T p l e room_1 s m #[Value.ref b] below meth c (lw_Z below #[Value.ref b] s) w (1 : Int32) (kL_law_1172 L xs k Z v4) Z (cb + 0) (sb + 0) 1172 [some (.ref b), some (.ref (ld_ad w 0)), some (.ref (ld_ad w 67)), some (.ref (ld_ad w 86)), some (.int v4), none, none] [] := by
  unfold kL_law_1172
  refine lj_aload_n C rfl rfl dL_law_1172 ?_
  refine lj_aload_n C rfl rfl dL_law_1173 ?_
  refine lj_iload C rfl dL_law_1174 ?_
  refine lj_iconst C (v := 1) (by decide) dL_law_1176 ?_
  refine lj_iadd C dL_law_1177 ?_
  refine lj_sld C hX hbl hbA dL_law_1178 ?_
  refine lj_aload_n C rfl rfl dL_law_1179 ?_
  refine lj_iload C rfl dL_law_1180 ?_
  refine lj_iconst C (v := 2) (by decide) dL_law_1182 ?_
  refine lj_iadd C dL_law_1183 ?_
  refine lj_sld C hX hbl hbA dL_law_1184 ?_
  refine lj_aload_n C rfl rfl dL_law_1185 ?_
  refine lj_iload C rfl dL_law_1186 ?_
  refine lj_iconst C (v := 3) (by decide) dL_law_1188 ?_
  refine lj_iadd C dL_law_1189 ?_
  refine lj_sld C hX hbl hbA dL_law_1190 ?_
  refine lj_aload_n C rfl rfl dL_law_1191 ?_
  refine lj_iload C rfl dL_law_1192 ?_
  refine lj_iconst C (v := 4) (by decide) dL_law_1194 ?_
  refine lj_iadd C dL_law_1195 ?_
  refine lj_sld C hX hbl hbA dL_law_1196 ?_
  refine lj_aload_n C rfl rfl dL_law_1197 ?_
  refine lj_cW C (As := [.ref (ld_ad w 0), .int (xs (v4 + 1).toNatClampNeg), .int (xs (v4 + 2).toNatClampNeg), .int (xs (v4 + 3).toNatClampNeg), .int (xs (v4 + 4).toNatClampNeg), .ref (ld_ad w 86)]) (rest := []) (fun sz x hx => zL_touched l hfl w Z (xs (v4 + 1).toNatClampNeg) (xs (v4 + 2).toNatClampNeg) (xs (v4 + 3).toNatClampNeg) (xs (v4 + 4).toNatClampNeg) hx sz) (vx_cwSW 6 C.2.2.2.2.1 gL_law_L_touched rfl rfl rfl (by decide +kernel) ⟨Nat.le_of_ble_eq_true rfl, Nat.le_of_ble_eq_true rfl⟩) rfl rfl rfl (Nat.le_of_ble_eq_true rfl) ⟨Nat.le_trans (show cb + 0 + 3 ≤ cb + 4 by omega) hcb, Nat.le_trans (show sb + 0 + 18 ≤ sb + 24 by omega) hsb⟩ dL_law_1198 (fun x1198 hx1198 => ?_)
  refine lj_istore C (lv2 := [some (.ref b), some (.ref (ld_ad w 0)), some (.ref (ld_ad w 67)), some (.ref (ld_ad w 86)), some (.int v4), some (.int x1198.1), none]) (Nat.le_of_ble_eq_true rfl) rfl dL_law_1201 ?_
  refine lj_aload_n C rfl rfl dL_law_1203 ?_
  refine lj_aload_n C rfl rfl dL_law_1204 ?_
  refine lj_iload C rfl dL_law_1205 ?_
  refine lj_iconst C (v := 1) (by decide) dL_law_1207 ?_
  refine lj_iadd C dL_law_1208 ?_
  refine lj_sld C hX hbl hbA dL_law_1209 ?_
  refine lj_aload_n C rfl rfl dL_law_1210 ?_
  refine lj_iload C rfl dL_law_1211 ?_
  refine lj_iconst C (v := 2) (by decide) dL_law_1213 ?_
  refine lj_iadd C dL_law_1214 ?_
  refine lj_sld C hX hbl hbA dL_law_1215 ?_
  refine lj_aload_n C rfl rfl dL_law_1216 ?_
  refine lj_iload C rfl dL_law_1217 ?_
  refine lj_iconst C (v := 3) (by decide) dL_law_1219 ?_
  refine lj_iadd C dL_law_1220 ?_
  refine lj_sld C hX hbl hbA dL_law_1221 ?_
  refine lj_aload_n C rfl rfl dL_law_1222 ?_
  refine lj_iload C rfl dL_law_1223 ?_
  refine lj_iconst C (v := 4) (by decide) dL_law_1225 ?_
  refine lj_iadd C dL_law_1226 ?_
  refine lj_sld C hX hbl hbA dL_law_1227 ?_
  refine lj_cVb C (As := [.int (xs (v4 + 1).toNatClampNeg), .int (xs (v4 + 2).toNatClampNeg), .int (xs (v4 + 3).toNatClampNeg), .int (xs (v4 + 4).toNatClampNeg)]) (rest := []) (i := 67) (ci := 4) (Cn := RX4) (Tb := TX4) (N := 23) (fs := (ld_f4 w) (x1198.2 67)) (fun sz x hx => zX4_touched l w x1198.2 (xs (v4 + 1).toNatClampNeg) (xs (v4 + 2).toNatClampNeg) (xs (v4 + 3).toNatClampNeg) (xs (v4 + 4).toNatClampNeg) hx sz) (cwV 4 C.2.2.2.2.1 gL_law_X4_touched rfl rfl rfl (by decide +kernel) ⟨Nat.le_of_ble_eq_true rfl, Nat.le_of_ble_eq_true rfl⟩) (by decide) ((fun _ => rfl) _) rfl rfl rfl rfl (Nat.le_of_ble_eq_true rfl) ⟨Nat.le_trans (show cb + 3 + 0 ≤ cb + 4 by omega) hcb, Nat.le_trans (show sb + 18 + 0 ≤ sb + 24 by omega) hsb⟩ dL_law_1228 (fun x1228 hx1228 => ?_)
  refine lj_istore C (lv2 := [some (.ref b), some (.ref (ld_ad w 0)), some (.ref (ld_ad w 67)), some (.ref (ld_ad w 86)), some (.int v4), some (.int x1198.1), some (.int x1228.1)]) (Nat.le_of_ble_eq_true rfl) rfl dL_law_1231 ?_
  refine lj_aload_n C rfl rfl dL_law_1233 ?_
  refine lj_cVa C (As := []) (rest := []) (i := 67) (ci := 4) (Cn := RX4) (Tb := TX4) (N := 23) (fs := (ld_f4 w) (x1228.2 67)) (fun sz x hx => zX4_thrown l w x1228.2  hx sz) (cwV 0 C.2.2.2.2.1 gL_law_X4_thrown rfl rfl rfl (by decide +kernel) ⟨Nat.le_of_ble_eq_true rfl, Nat.le_of_ble_eq_true rfl⟩) (by decide) ((fun _ => rfl) _) rfl rfl rfl rfl (Nat.le_of_ble_eq_true rfl) ⟨Nat.le_trans (show cb + 3 + 0 ≤ cb + 4 by omega) hcb, Nat.le_trans (show sb + 18 + 0 ≤ sb + 24 by omega) hsb⟩ dL_law_1234 (fun x1234 hx1234 => ?_)
  refine lj_iload C rfl dL_law_1237 ?_
  refine lj_icmp_eq C (tgt := 1244) dL_law_1239 (by decide) ?_ ?_
  · refine lj_iload C rfl dL_law_1244 ?_
    refine lj_if_ne C (tgt := 1261) dL_law_1246 (by decide) ?_ ?_
    · exact bL_law_1261 l w hfl L xs hX hbl hbA hnew C cb sb hcb hsb (k) (fun Z9 u0 => hk Z9 u0) x1228.2 v4 x1198.1 x1228.1
    · refine lj_aload_n C rfl rfl dL_law_1249 ?_
      refine lj_iconst C (v := 0) (by decide) dL_law_1250 ?_
      refine lj_lald C rfl dL_law_1251 ?_
      refine lj_iload C rfl dL_law_1252 ?_
      refine lj_i2l C rfl dL_law_1254 ?_
      refine lj_lcmp C dL_law_1255 ?_
      refine lj_if_eq C (tgt := 1261) dL_law_1256 (by decide) ?_ ?_
      · exact bL_law_1261 l w hfl L xs hX hbl hbA hnew C cb sb hcb hsb (k) (fun Z9 u0 => hk Z9 u0) x1228.2 v4 x1198.1 x1228.1
      · refine lj_iconst C (v := 0) (by decide) dL_law_1259 ?_
        exact lj_lret C hnew (Nat.le_trans (by omega) hcb) (Nat.le_trans (by omega) hsb) dL_law_1260
  · refine lj_iconst C (v := 0) (by decide) dL_law_1242 ?_
    exact lj_lret C hnew (Nat.le_trans (by omega) hcb) (Nat.le_trans (by omega) hsb) dL_law_1243
def kL_law_23 (L : Nat) (xs : Nat → Int32) : Nat → ld_M → Int32 → Option Int32
  | 0, _, _ => none
  | n + 1, Z, v4 => if (((nI L) - 5) : Int32) < v4 then (some 1) else (ld_ck (ld_g v4 L) (if (((xs v4.toNatClampNeg) &&& 31) : Int32) = 0 then (kL_law_120 L xs (kL_law_23 L xs n) Z v4) else if (((xs v4.toNatClampNeg) &&& 31) : Int32) = 1 then (kL_law_188 L xs (kL_law_23 L xs n) Z v4) else if (((xs v4.toNatClampNeg) &&& 31) : Int32) = 2 then (kL_law_248 L xs (kL_law_23 L xs n) Z v4) else if (((xs v4.toNatClampNeg) &&& 31) : Int32) = 3 then (kL_law_328 L xs (kL_law_23 L xs n) Z v4) else if (((xs v4.toNatClampNeg) &&& 31) : Int32) = 4 then (kL_law_384 L xs (kL_law_23 L xs n) Z v4) else if (((xs v4.toNatClampNeg) &&& 31) : Int32) = 5 then (kL_law_475 L xs (kL_law_23 L xs n) Z v4) else if (((xs v4.toNatClampNeg) &&& 31) : Int32) = 6 then (kL_law_583 L xs (kL_law_23 L xs n) Z v4) else if (((xs v4.toNatClampNeg) &&& 31) : Int32) = 7 then (kL_law_675 L xs (kL_law_23 L xs n) Z v4) else if (((xs v4.toNatClampNeg) &&& 31) : Int32) = 8 then (kL_law_719 L xs (kL_law_23 L xs n) Z v4) else if (((xs v4.toNatClampNeg) &&& 31) : Int32) = 9 then (kL_law_787 L xs (kL_law_23 L xs n) Z v4) else if (((xs v4.toNatClampNeg) &&& 31) : Int32) = 10 then (kL_law_843 L xs (kL_law_23 L xs n) Z v4) else if (((xs v4.toNatClampNeg) &&& 31) : Int32) = 11 then (kL_law_899 L xs (kL_law_23 L xs n) Z v4) else if (((xs v4.toNatClampNeg) &&& 31) : Int32) = 12 then (kL_law_967 L xs (kL_law_23 L xs n) Z v4) else if (((xs v4.toNatClampNeg) &&& 31) : Int32) = 13 then (kL_law_1023 L xs (kL_law_23 L xs n) Z v4) else if (((xs v4.toNatClampNeg) &&& 31) : Int32) = 14 then (kL_law_1079 L xs (kL_law_23 L xs n) Z v4) else if (((xs v4.toNatClampNeg) &&& 31) : Int32) = 15 then (kL_law_1092 L xs (kL_law_23 L xs n) Z v4) else if (((xs v4.toNatClampNeg) &&& 31) : Int32) = 16 then (kL_law_1172 L xs (kL_law_23 L xs n) Z v4) else (kL_law_1264 L xs (kL_law_23 L xs n) Z v4)))
set_option maxHeartbeats 4000000 in
set_option maxRecDepth 100000 in
theorem bL_law_23 {p : Program} {e : Env} {s : State} {m : MethodId} {below : List Frame} {meth : Method} {c : Code} (l : Launch) (w : ld_E) (hfl : l.stackTraces = false) {b : Nat} (L : Nat) (xs : Nat → Int32) (hX : va_X b L xs s s.heap) (hbl : b < s.heap.size) (hbA : ¬ ld_A w s.heap.size b) (hnew : ∀ i, i < 87 → s.heap.size ≤ ld_ad w i) (C : ld_C p l s m #[Value.ref b] meth c code 7 ret wsL_law RL w) : ∀ (n cb sb : Nat) (hc9 : cb + 4 * n + 4 ≤ room_1.cells) (hs9 : sb + 24 * n + 24 ≤ room_1.slots) (Z : ld_M) (v4 : Int32), ld_T p l e room_1 s m #[Value.ref b] below meth c (lw_Z below #[Value.ref b] s) w (1 : Int32) (kL_law_23 L xs n Z v4) Z cb sb 23 [some (.ref b), some (.ref (ld_ad w 0)), some (.ref (ld_ad w 67)), some (.ref (ld_ad w 86)), some (.int v4), none, none] [] := by
  intro n
  induction n with
  | zero => exact fun _ _ _ _ _ _ h => nomatch h
  | succ n ih =>
    intro cb sb hc9 hs9 Z v4
    have hcb : cb + 4 ≤ room_1.cells := by omega
    have hsb : sb + 24 ≤ room_1.slots := by omega
    refine lj_iload C rfl dL_law_23 ?_
    refine lj_aload_n C rfl rfl dL_law_25 ?_
    refine lj_slen C hX hbl hbA dL_law_26 ?_
    refine lj_iconst C (v := 5) (by decide) dL_law_27 ?_
    refine lj_isub C dL_law_28 ?_
    refine lj_icmp_gt C (tgt := 1270) dL_law_29 (by decide) ?_ ?_
    · refine lj_iconst C (v := 1) (by decide) dL_law_1270 ?_
      exact lj_lret C hnew (Nat.le_trans (by omega) hcb) (Nat.le_trans (by omega) hsb) dL_law_1271
    · refine lj_aload_n C rfl rfl dL_law_32 ?_
      refine lj_iload C rfl dL_law_33 ?_
      refine lj_sld C hX hbl hbA dL_law_35 ?_
      refine lj_bipush C (v := 31) (by decide) dL_law_36 ?_
      refine lj_iand C dL_law_38 ?_
      refine lj_sw17 C dL_law_39 (t0 := 120) (t1 := 188) (t2 := 248) (t3 := 328) (t4 := 384) (t5 := 475) (t6 := 583) (t7 := 675) (t8 := 719) (t9 := 787) (t10 := 843) (t11 := 899) (t12 := 967) (t13 := 1023) (t14 := 1079) (t15 := 1092) (t16 := 1172) (t17 := 1264) (by decide) (by decide) (by decide) (by decide) (by decide) (by decide) (by decide) (by decide) (by decide) (by decide) (by decide) (by decide) (by decide) (by decide) (by decide) (by decide) (by decide) (by decide) ?_ ?_ ?_ ?_ ?_ ?_ ?_ ?_ ?_ ?_ ?_ ?_ ?_ ?_ ?_ ?_ ?_ ?_
      · exact bL_law_120 l w hfl L xs hX hbl hbA hnew C cb sb hcb hsb (kL_law_23 L xs n) (fun Z9 u0 => ih (cb + 4) (sb + 24) (by omega) (by omega) Z9 u0) Z v4
      · exact bL_law_188 l w hfl L xs hX hbl hbA hnew C cb sb hcb hsb (kL_law_23 L xs n) (fun Z9 u0 => ih (cb + 4) (sb + 24) (by omega) (by omega) Z9 u0) Z v4
      · exact bL_law_248 l w hfl L xs hX hbl hbA hnew C cb sb hcb hsb (kL_law_23 L xs n) (fun Z9 u0 => ih (cb + 4) (sb + 24) (by omega) (by omega) Z9 u0) Z v4
      · exact bL_law_328 l w hfl L xs hX hbl hbA hnew C cb sb hcb hsb (kL_law_23 L xs n) (fun Z9 u0 => ih (cb + 4) (sb + 24) (by omega) (by omega) Z9 u0) Z v4
      · exact bL_law_384 l w hfl L xs hX hbl hbA hnew C cb sb hcb hsb (kL_law_23 L xs n) (fun Z9 u0 => ih (cb + 4) (sb + 24) (by omega) (by omega) Z9 u0) Z v4
      · exact bL_law_475 l w hfl L xs hX hbl hbA hnew C cb sb hcb hsb (kL_law_23 L xs n) (fun Z9 u0 => ih (cb + 4) (sb + 24) (by omega) (by omega) Z9 u0) Z v4
      · exact bL_law_583 l w hfl L xs hX hbl hbA hnew C cb sb hcb hsb (kL_law_23 L xs n) (fun Z9 u0 => ih (cb + 4) (sb + 24) (by omega) (by omega) Z9 u0) Z v4
      · exact bL_law_675 l w hfl L xs hX hbl hbA hnew C cb sb hcb hsb (kL_law_23 L xs n) (fun Z9 u0 => ih (cb + 4) (sb + 24) (by omega) (by omega) Z9 u0) Z v4
      · exact bL_law_719 l w hfl L xs hX hbl hbA hnew C cb sb hcb hsb (kL_law_23 L xs n) (fun Z9 u0 => ih (cb + 4) (sb + 24) (by omega) (by omega) Z9 u0) Z v4
      · exact bL_law_787 l w hfl L xs hX hbl hbA hnew C cb sb hcb hsb (kL_law_23 L xs n) (fun Z9 u0 => ih (cb + 4) (sb + 24) (by omega) (by omega) Z9 u0) Z v4
      · exact bL_law_843 l w hfl L xs hX hbl hbA hnew C cb sb hcb hsb (kL_law_23 L xs n) (fun Z9 u0 => ih (cb + 4) (sb + 24) (by omega) (by omega) Z9 u0) Z v4
      · exact bL_law_899 l w hfl L xs hX hbl hbA hnew C cb sb hcb hsb (kL_law_23 L xs n) (fun Z9 u0 => ih (cb + 4) (sb + 24) (by omega) (by omega) Z9 u0) Z v4
      · exact bL_law_967 l w hfl L xs hX hbl hbA hnew C cb sb hcb hsb (kL_law_23 L xs n) (fun Z9 u0 => ih (cb + 4) (sb + 24) (by omega) (by omega) Z9 u0) Z v4
      · exact bL_law_1023 l w hfl L xs hX hbl hbA hnew C cb sb hcb hsb (kL_law_23 L xs n) (fun Z9 u0 => ih (cb + 4) (sb + 24) (by omega) (by omega) Z9 u0) Z v4
      · exact bL_law_1079 l w hfl L xs hX hbl hbA hnew C cb sb hcb hsb (kL_law_23 L xs n) (fun Z9 u0 => ih (cb + 4) (sb + 24) (by omega) (by omega) Z9 u0) Z v4
      · exact bL_law_1092 l w hfl L xs hX hbl hbA hnew C cb sb hcb hsb (kL_law_23 L xs n) (fun Z9 u0 => ih (cb + 4) (sb + 24) (by omega) (by omega) Z9 u0) Z v4
      · exact bL_law_1172 l w hfl L xs hX hbl hbA hnew C cb sb hcb hsb (kL_law_23 L xs n) (fun Z9 u0 => ih (cb + 4) (sb + 24) (by omega) (by omega) Z9 u0) Z v4
      · refine lj_wide (k := cb + 4) (n := sb + 24) (by omega) (by omega) ?_
        exact bL_law_1264 l w hfl L xs hX hbl hbA hnew C cb sb hcb hsb (kL_law_23 L xs n) (fun Z9 u0 => ih (cb + 4) (sb + 24) (by omega) (by omega) Z9 u0) Z v4
