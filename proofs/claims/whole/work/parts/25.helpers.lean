theorem inL_addLamp_2 : ∀ q ∈ u_ws RX2 TX2 4, q ∈ wsL_addLamp := fun _ h => List.mem_cons_of_mem _ (List.mem_append_left _ (List.mem_append_left _ (List.mem_append_right _ h)))
theorem inL_addLamp_3 : ∀ q ∈ u_ws RX3 TX3 7, q ∈ wsL_addLamp := fun _ h => List.mem_cons_of_mem _ (List.mem_append_left _ (List.mem_append_left _ (List.mem_append_left _ (List.mem_append_right _ h))))
def kL_addLamp (Z : ld_M) (a2 : Int32) (a3 : Int32) : Option (Int32 × ld_M) := ld_bh (kX3_addLamp Z a2 a3) (fun x5 => ld_ck (ld_g 0 1) (some (0, (ld_up x5.2 86 (0 : Int32).toNatClampNeg x5.1)))) (fun e9 => if e9 = 0 then (some (1, Z)) else if e9 = 1 then (some (2, Z)) else none)
set_option maxHeartbeats 4000000 in
set_option maxRecDepth 100000 in
theorem zL_addLamp (l : Launch) (hfl : l.stackTraces = false) (w : ld_E) (Z : ld_M) (a2 : Int32) (a3 : Int32)  {r : Int32 × ld_M} (hr : kL_addLamp Z a2 a3 = some r) (sz : Nat) : Met l yL_addLamp wsL_addLamp ({ frames := 8, cells := 2, slots := 12, locals := 133 }) (ld_Pc w Z sz [.ref (ld_ad w 0), .int a2, .int a3, .ref (ld_ad w 86)]) (ld_Q w r.2 sz (some (.int r.1))) 2 12 (ld_A w sz) := by
  refine ld_ofH (ws := wsL_addLamp) (Qc := fun sz9 => ld_Q w r.2 sz9 (some (.int r.1))) RL (by decide +kernel) rfl rfl (by simp [Value.category]) (Nat.le_of_ble_eq_true rfl) sz ?_
  intro p e s m args below meth c C htb
  revert hr
  show ld_T p l e ({ frames := 8, cells := 2, slots := 12, locals := 133 }) s m args below meth c (MQ below (ld_Q w r.2 s.heap.size (some (.int r.1))) args s 2 12 (ld_A w s.heap.size)) w r (kL_addLamp Z a2 a3) Z 0 0 0 [some (.ref (ld_ad w 0)), some (.int a2), some (.int a3), some (.ref (ld_ad w 86)), none] []
  unfold kL_addLamp
  refine lj_aload_n C rfl rfl dL_addLamp_0 ?_
  refine lj_iconst C (v := 0) (by decide) dL_addLamp_1 ?_
  refine lj_aload_n C rfl rfl dL_addLamp_2 ?_
  refine lj_iload_n C rfl rfl dL_addLamp_3 ?_
  refine lj_iload_n C rfl rfl dL_addLamp_4 ?_
  refine lj_h23 C (As := [.int a2, .int a3]) (rest := [.int 0, .ref (ld_ad w 86)]) (i := 0) (ci := 3) (Cn := RX3) (Tb := TX3) (N := 7) (fs := (ld_f3 w) (Z 0)) (p0 := 0) (p1 := 10) (e1 := 0) (hp1 := 13) (nm1 := 13) (e2 := 1) (hp2 := 17) (nm2 := 15) htb (by decide) (List.mem_of_getElem? (i := 1) rfl) (by decide) (by decide) (List.mem_of_getElem? (i := 2) rfl) (by decide) (by decide) (fun sz x hx => zX3_addLamp l hfl w Z a2 a3 hx sz) (cwV 2 C.2.2.2.2.1 gL_addLamp_X3_addLamp rfl rfl rfl (by decide +kernel) ⟨Nat.le_of_ble_eq_true rfl, Nat.le_of_ble_eq_true rfl⟩) (by decide) ((fun _ => rfl) _) rfl rfl rfl rfl (Nat.le_of_ble_eq_true rfl) ⟨Nat.le_of_ble_eq_true rfl, Nat.le_of_ble_eq_true rfl⟩ dL_addLamp_5 ?_ ?_ ?_
  · intro x5 hx5
    refine lj_i2l C rfl dL_addLamp_8 ?_
    refine lj_last C rfl rfl dL_addLamp_9 ?_
    refine lj_goto C (tgt := 21) dL_addLamp_10 (by decide) ?_
    refine lj_iconst C (v := 0) (by decide) dL_addLamp_21 ?_
    exact lj_rb C (by decide) (by decide) dL_addLamp_22
  · intro q
    refine lj_astore C (lv2 := [some (.ref (ld_ad w 0)), some (.int a2), some (.int a3), some (.ref (ld_ad w 86)), some (.ref q)]) (Nat.le_of_ble_eq_true rfl) rfl dL_addLamp_13 ?_
    refine lj_iconst C (v := 1) (by decide) dL_addLamp_15 ?_
    exact lj_rb C (by decide) (by decide) dL_addLamp_16
  · intro q
    refine lj_astore C (lv2 := [some (.ref (ld_ad w 0)), some (.int a2), some (.int a3), some (.ref (ld_ad w 86)), some (.ref q)]) (Nat.le_of_ble_eq_true rfl) rfl dL_addLamp_17 ?_
    refine lj_iconst C (v := 2) (by decide) dL_addLamp_19 ?_
    exact lj_rb C (by decide) (by decide) dL_addLamp_20
theorem inL_swap_1 : ∀ q ∈ u_ws RX1 TX1 3, q ∈ wsL_swap := fun _ h => List.mem_cons_of_mem _ (List.mem_append_left _ (List.mem_append_left _ (List.mem_append_right _ h)))
theorem inL_swap_2 : ∀ q ∈ u_ws RX2 TX2 4, q ∈ wsL_swap := fun _ h => List.mem_cons_of_mem _ (List.mem_append_left _ (List.mem_append_left _ (List.mem_append_left _ (List.mem_append_right _ h))))
theorem inL_swap_3 : ∀ q ∈ u_ws RX3 TX3 7, q ∈ wsL_swap := fun _ h => List.mem_cons_of_mem _ (List.mem_append_left _ (List.mem_append_left _ (List.mem_append_left _ (List.mem_append_left _ (List.mem_append_right _ h)))))
def kL_swap (Z : ld_M) (a2 : Int32) (a3 : Int32) (a4 : Int32) : Option (Int32 × ld_M) := ld_bh (kX3_swap Z a2 a3 a4) (fun x4 => some (0, x4)) (fun e9 => if e9 = 2 then (some (1, Z)) else if e9 = 0 then (some (2, Z)) else none)
set_option maxHeartbeats 4000000 in
set_option maxRecDepth 100000 in
theorem zL_swap (l : Launch) (hfl : l.stackTraces = false) (w : ld_E) (Z : ld_M) (a2 : Int32) (a3 : Int32) (a4 : Int32)  {r : Int32 × ld_M} (hr : kL_swap Z a2 a3 a4 = some r) (sz : Nat) : Met l yL_swap wsL_swap ({ frames := 8, cells := 2, slots := 12, locals := 134 }) (ld_Pc w Z sz [.ref (ld_ad w 0), .int a2, .int a3, .int a4]) (ld_Q w r.2 sz (some (.int r.1))) 2 12 (ld_A w sz) := by
  refine ld_ofH (ws := wsL_swap) (Qc := fun sz9 => ld_Q w r.2 sz9 (some (.int r.1))) RL (by decide +kernel) rfl rfl (by simp [Value.category]) (Nat.le_of_ble_eq_true rfl) sz ?_
  intro p e s m args below meth c C htb
  revert hr
  show ld_T p l e ({ frames := 8, cells := 2, slots := 12, locals := 134 }) s m args below meth c (MQ below (ld_Q w r.2 s.heap.size (some (.int r.1))) args s 2 12 (ld_A w s.heap.size)) w r (kL_swap Z a2 a3 a4) Z 0 0 0 [some (.ref (ld_ad w 0)), some (.int a2), some (.int a3), some (.int a4), none] []
  unfold kL_swap
  refine lj_aload_n C rfl rfl dL_swap_0 ?_
  refine lj_iload_n C rfl rfl dL_swap_1 ?_
  refine lj_iload_n C rfl rfl dL_swap_2 ?_
  refine lj_iload_n C rfl rfl dL_swap_3 ?_
  refine lj_h22 C (As := [.int a2, .int a3, .int a4]) (rest := []) (i := 0) (ci := 3) (Cn := RX3) (Tb := TX3) (N := 7) (fs := (ld_f3 w) (Z 0)) (p0 := 0) (p1 := 7) (e1 := 2) (hp1 := 10) (nm1 := 21) (e2 := 0) (hp2 := 14) (nm2 := 13) htb (by decide) (List.mem_of_getElem? (i := 1) rfl) (by decide) (by decide) (List.mem_of_getElem? (i := 2) rfl) (by decide) (by decide) (fun sz x hx => zX3_swap l hfl w Z a2 a3 a4 hx sz) (cwV 3 C.2.2.2.2.1 gL_swap_X3_swap rfl rfl rfl (by decide +kernel) ⟨Nat.le_of_ble_eq_true rfl, Nat.le_of_ble_eq_true rfl⟩) (by decide) ((fun _ => rfl) _) rfl rfl rfl rfl (Nat.le_of_ble_eq_true rfl) ⟨Nat.le_of_ble_eq_true rfl, Nat.le_of_ble_eq_true rfl⟩ dL_swap_4 ?_ ?_ ?_
  · intro x4 hx4
    refine lj_goto C (tgt := 18) dL_swap_7 (by decide) ?_
    refine lj_iconst C (v := 0) (by decide) dL_swap_18 ?_
    exact lj_rb C (by decide) (by decide) dL_swap_19
  · intro q
    refine lj_astore C (lv2 := [some (.ref (ld_ad w 0)), some (.int a2), some (.int a3), some (.int a4), some (.ref q)]) (Nat.le_of_ble_eq_true rfl) rfl dL_swap_10 ?_
    refine lj_iconst C (v := 1) (by decide) dL_swap_12 ?_
    exact lj_rb C (by decide) (by decide) dL_swap_13
  · intro q
    refine lj_astore C (lv2 := [some (.ref (ld_ad w 0)), some (.int a2), some (.int a3), some (.int a4), some (.ref q)]) (Nat.le_of_ble_eq_true rfl) rfl dL_swap_14 ?_
    refine lj_iconst C (v := 2) (by decide) dL_swap_16 ?_
    exact lj_rb C (by decide) (by decide) dL_swap_17
theorem inL_hang_1 : ∀ q ∈ u_ws RX1 TX1 3, q ∈ wsL_hang := fun _ h => List.mem_cons_of_mem _ (List.mem_append_left _ (List.mem_append_left _ (List.mem_append_right _ h)))
theorem inL_hang_2 : ∀ q ∈ u_ws RX2 TX2 4, q ∈ wsL_hang := fun _ h => List.mem_cons_of_mem _ (List.mem_append_left _ (List.mem_append_left _ (List.mem_append_left _ (List.mem_append_right _ h))))
theorem inL_hang_3 : ∀ q ∈ u_ws RX3 TX3 7, q ∈ wsL_hang := fun _ h => List.mem_cons_of_mem _ (List.mem_append_left _ (List.mem_append_left _ (List.mem_append_left _ (List.mem_append_left _ (List.mem_append_right _ h)))))
def kL_hang (Z : ld_M) (a2 : Int32) (a3 : Int32) (a4 : Int32) : Option (Int32 × ld_M) := ld_bh (kX3_hang Z a2 a3 a4) (fun x7 => ld_ck (ld_g 0 1) (some (0, (ld_up x7.2 86 (0 : Int32).toNatClampNeg x7.1)))) (fun e9 => if e9 = 2 then (some (1, Z)) else if e9 = 0 then (some (2, Z)) else none)
set_option maxHeartbeats 4000000 in
set_option maxRecDepth 100000 in
theorem zL_hang (l : Launch) (hfl : l.stackTraces = false) (w : ld_E) (Z : ld_M) (a2 : Int32) (a3 : Int32) (a4 : Int32)  {r : Int32 × ld_M} (hr : kL_hang Z a2 a3 a4 = some r) (sz : Nat) : Met l yL_hang wsL_hang ({ frames := 9, cells := 3, slots := 18, locals := 154 }) (ld_Pc w Z sz [.ref (ld_ad w 0), .int a2, .int a3, .int a4, .ref (ld_ad w 86)]) (ld_Q w r.2 sz (some (.int r.1))) 3 18 (ld_A w sz) := by
  refine ld_ofH (ws := wsL_hang) (Qc := fun sz9 => ld_Q w r.2 sz9 (some (.int r.1))) RL (by decide +kernel) rfl rfl (by simp [Value.category]) (Nat.le_of_ble_eq_true rfl) sz ?_
  intro p e s m args below meth c C htb
  revert hr
  show ld_T p l e ({ frames := 9, cells := 3, slots := 18, locals := 154 }) s m args below meth c (MQ below (ld_Q w r.2 s.heap.size (some (.int r.1))) args s 3 18 (ld_A w s.heap.size)) w r (kL_hang Z a2 a3 a4) Z 0 0 0 [some (.ref (ld_ad w 0)), some (.int a2), some (.int a3), some (.int a4), some (.ref (ld_ad w 86)), none] []
  unfold kL_hang
  refine lj_aload C rfl dL_hang_0 ?_
  refine lj_iconst C (v := 0) (by decide) dL_hang_2 ?_
  refine lj_aload_n C rfl rfl dL_hang_3 ?_
  refine lj_iload_n C rfl rfl dL_hang_4 ?_
  refine lj_iload_n C rfl rfl dL_hang_5 ?_
  refine lj_iload_n C rfl rfl dL_hang_6 ?_
  refine lj_h23 C (As := [.int a2, .int a3, .int a4]) (rest := [.int 0, .ref (ld_ad w 86)]) (i := 0) (ci := 3) (Cn := RX3) (Tb := TX3) (N := 7) (fs := (ld_f3 w) (Z 0)) (p0 := 0) (p1 := 12) (e1 := 2) (hp1 := 15) (nm1 := 21) (e2 := 0) (hp2 := 19) (nm2 := 13) htb (by decide) (List.mem_of_getElem? (i := 1) rfl) (by decide) (by decide) (List.mem_of_getElem? (i := 2) rfl) (by decide) (by decide) (fun sz x hx => zX3_hang l hfl w Z a2 a3 a4 hx sz) (cwV 3 C.2.2.2.2.1 gL_hang_X3_hang rfl rfl rfl (by decide +kernel) ⟨Nat.le_of_ble_eq_true rfl, Nat.le_of_ble_eq_true rfl⟩) (by decide) ((fun _ => rfl) _) rfl rfl rfl rfl (Nat.le_of_ble_eq_true rfl) ⟨Nat.le_of_ble_eq_true rfl, Nat.le_of_ble_eq_true rfl⟩ dL_hang_7 ?_ ?_ ?_
  · intro x7 hx7
    refine lj_i2l C rfl dL_hang_10 ?_
    refine lj_last C rfl rfl dL_hang_11 ?_
    refine lj_goto C (tgt := 23) dL_hang_12 (by decide) ?_
    refine lj_iconst C (v := 0) (by decide) dL_hang_23 ?_
    exact lj_rb C (by decide) (by decide) dL_hang_24
  · intro q
    refine lj_astore C (lv2 := [some (.ref (ld_ad w 0)), some (.int a2), some (.int a3), some (.int a4), some (.ref (ld_ad w 86)), some (.ref q)]) (Nat.le_of_ble_eq_true rfl) rfl dL_hang_15 ?_
    refine lj_iconst C (v := 1) (by decide) dL_hang_17 ?_
    exact lj_rb C (by decide) (by decide) dL_hang_18
  · intro q
    refine lj_astore C (lv2 := [some (.ref (ld_ad w 0)), some (.int a2), some (.int a3), some (.int a4), some (.ref (ld_ad w 86)), some (.ref q)]) (Nat.le_of_ble_eq_true rfl) rfl dL_hang_19 ?_
    refine lj_iconst C (v := 2) (by decide) dL_hang_21 ?_
    exact lj_rb C (by decide) (by decide) dL_hang_22
theorem inL_setNight_3 : ∀ q ∈ u_ws RX3 TX3 7, q ∈ wsL_setNight := fun _ h => List.mem_cons_of_mem _ (List.mem_append_left _ (List.mem_append_right _ h))
def kL_setNight (Z : ld_M) (a2 : Int32) : Option (Int32 × ld_M) := ld_bh (kX3_setNight Z a2) (fun x4 => ld_ck (ld_g 0 1) (some (0, (ld_up x4.2 86 (0 : Int32).toNatClampNeg x4.1)))) (fun e9 => if e9 = 0 then (some (1, Z)) else none)
set_option maxHeartbeats 4000000 in
set_option maxRecDepth 100000 in
theorem zL_setNight (l : Launch) (hfl : l.stackTraces = false) (w : ld_E) (Z : ld_M) (a2 : Int32)  {r : Int32 × ld_M} (hr : kL_setNight Z a2 = some r) (sz : Nat) : Met l yL_setNight wsL_setNight ({ frames := 8, cells := 1, slots := 6, locals := 132 }) (ld_Pc w Z sz [.ref (ld_ad w 0), .int a2, .ref (ld_ad w 86)]) (ld_Q w r.2 sz (some (.int r.1))) 1 6 (ld_A w sz) := by
  refine ld_ofH (ws := wsL_setNight) (Qc := fun sz9 => ld_Q w r.2 sz9 (some (.int r.1))) RL (by decide +kernel) rfl rfl (by simp [Value.category]) (Nat.le_of_ble_eq_true rfl) sz ?_
  intro p e s m args below meth c C htb
  revert hr
  show ld_T p l e ({ frames := 8, cells := 1, slots := 6, locals := 132 }) s m args below meth c (MQ below (ld_Q w r.2 s.heap.size (some (.int r.1))) args s 1 6 (ld_A w s.heap.size)) w r (kL_setNight Z a2) Z 0 0 0 [some (.ref (ld_ad w 0)), some (.int a2), some (.ref (ld_ad w 86)), none] []
  unfold kL_setNight
  refine lj_aload_n C rfl rfl dL_setNight_0 ?_
  refine lj_iconst C (v := 0) (by decide) dL_setNight_1 ?_
  refine lj_aload_n C rfl rfl dL_setNight_2 ?_
  refine lj_iload_n C rfl rfl dL_setNight_3 ?_
  refine lj_h13 C (As := [.int a2]) (rest := [.int 0, .ref (ld_ad w 86)]) (i := 0) (ci := 3) (Cn := RX3) (Tb := TX3) (N := 7) (fs := (ld_f3 w) (Z 0)) (p0 := 0) (p1 := 9) (e1 := 0) (hp1 := 12) (nm1 := 13) htb (by decide) (List.mem_of_getElem? (i := 1) rfl) (by decide) (by decide) (fun sz x hx => zX3_setNight l hfl w Z a2 hx sz) (cwV 1 C.2.2.2.2.1 gL_setNight_X3_setNight rfl rfl rfl (by decide +kernel) ⟨Nat.le_of_ble_eq_true rfl, Nat.le_of_ble_eq_true rfl⟩) (by decide) ((fun _ => rfl) _) rfl rfl rfl rfl (Nat.le_of_ble_eq_true rfl) ⟨Nat.le_of_ble_eq_true rfl, Nat.le_of_ble_eq_true rfl⟩ dL_setNight_4 ?_ ?_
  · intro x4 hx4
    refine lj_i2l C rfl dL_setNight_7 ?_
    refine lj_last C rfl rfl dL_setNight_8 ?_
    refine lj_goto C (tgt := 15) dL_setNight_9 (by decide) ?_
    refine lj_iconst C (v := 0) (by decide) dL_setNight_15 ?_
    exact lj_rb C (by decide) (by decide) dL_setNight_16
  · intro q
    refine lj_astore_n C rfl (lv2 := [some (.ref (ld_ad w 0)), some (.int a2), some (.ref (ld_ad w 86)), some (.ref q)]) (Nat.le_of_ble_eq_true rfl) rfl dL_setNight_12 ?_
    refine lj_iconst C (v := 1) (by decide) dL_setNight_13 ?_
    exact lj_rb C (by decide) (by decide) dL_setNight_14
theorem inL_setLatest_3 : ∀ q ∈ u_ws RX3 TX3 7, q ∈ wsL_setLatest := fun _ h => List.mem_cons_of_mem _ (List.mem_append_left _ (List.mem_append_right _ h))
def kL_setLatest_16 (a2 : Int32) (a3 : Int32) (Z : ld_M) (t0 : Int32) (t1 : Int32) : Option (Int32 × ld_M) := ld_ck (ld_g t1 1) (some (0, (ld_up Z 86 (t1 : Int32).toNatClampNeg t0)))
set_option maxHeartbeats 4000000 in
set_option maxRecDepth 100000 in
theorem bL_setLatest_16 {p : Program} {e : Env} {s : State} {m : MethodId} {args : Array Value} {below : List Frame} {meth : Method} {c : Code} (l : Launch) (w : ld_E) (a2 : Int32) (a3 : Int32)  (hfl : l.stackTraces = false) (htb : c.exceptionTable.toList = tableOf [(0, 17, 20, 13)]) {r : Int32 × ld_M} (C : ld_C p l s m args meth c cL_setLatest 5 (some .int) wsL_setLatest RL w) (Z : ld_M) (t0 : Int32) (t1 : Int32) : ld_T p l e ({ frames := 8, cells := 1, slots := 6, locals := 133 }) s m args below meth c (MQ below (ld_Q w r.2 s.heap.size (some (.int r.1))) args s 1 6 (ld_A w s.heap.size)) w r (kL_setLatest_16 a2 a3 Z t0 t1) Z 1 6 16 [some (.ref (ld_ad w 0)), some (.int a2), some (.int a3), some (.ref (ld_ad w 86)), none] [.long t0.toInt64, .int t1, .ref (ld_ad w 86)] := by
  unfold kL_setLatest_16
  refine lj_last C rfl rfl dL_setLatest_16 ?_
  refine lj_goto C (tgt := 24) dL_setLatest_17 (by decide) ?_
  refine lj_iconst C (v := 0) (by decide) dL_setLatest_24 ?_
  exact lj_rb C (by decide) (by decide) dL_setLatest_25
def kL_setLatest (Z : ld_M) (a2 : Int32) (a3 : Int32) : Option (Int32 × ld_M) := ld_bh (kX3_setLatest Z a2 a3) (fun x5 => if (x5.1 : Int32) = 0 then (kL_setLatest_16 a2 a3 x5.2 0 0) else (kL_setLatest_16 a2 a3 x5.2 1 0)) (fun e9 => if e9 = 0 then (some (1, Z)) else none)
set_option maxHeartbeats 4000000 in
set_option maxRecDepth 100000 in
theorem zL_setLatest (l : Launch) (hfl : l.stackTraces = false) (w : ld_E) (Z : ld_M) (a2 : Int32) (a3 : Int32)  {r : Int32 × ld_M} (hr : kL_setLatest Z a2 a3 = some r) (sz : Nat) : Met l yL_setLatest wsL_setLatest ({ frames := 8, cells := 1, slots := 6, locals := 133 }) (ld_Pc w Z sz [.ref (ld_ad w 0), .int a2, .int a3, .ref (ld_ad w 86)]) (ld_Q w r.2 sz (some (.int r.1))) 1 6 (ld_A w sz) := by
  refine ld_ofH (ws := wsL_setLatest) (Qc := fun sz9 => ld_Q w r.2 sz9 (some (.int r.1))) RL (by decide +kernel) rfl rfl (by simp [Value.category]) (Nat.le_of_ble_eq_true rfl) sz ?_
  intro p e s m args below meth c C htb
  revert hr
  show ld_T p l e ({ frames := 8, cells := 1, slots := 6, locals := 133 }) s m args below meth c (MQ below (ld_Q w r.2 s.heap.size (some (.int r.1))) args s 1 6 (ld_A w s.heap.size)) w r (kL_setLatest Z a2 a3) Z 0 0 0 [some (.ref (ld_ad w 0)), some (.int a2), some (.int a3), some (.ref (ld_ad w 86)), none] []
  unfold kL_setLatest
  refine lj_aload_n C rfl rfl dL_setLatest_0 ?_
  refine lj_iconst C (v := 0) (by decide) dL_setLatest_1 ?_
  refine lj_aload_n C rfl rfl dL_setLatest_2 ?_
  refine lj_iload_n C rfl rfl dL_setLatest_3 ?_
  refine lj_iload_n C rfl rfl dL_setLatest_4 ?_
  refine lj_h13 C (As := [.int a2, .int a3]) (rest := [.int 0, .ref (ld_ad w 86)]) (i := 0) (ci := 3) (Cn := RX3) (Tb := TX3) (N := 7) (fs := (ld_f3 w) (Z 0)) (p0 := 0) (p1 := 17) (e1 := 0) (hp1 := 20) (nm1 := 13) htb (by decide) (List.mem_of_getElem? (i := 1) rfl) (by decide) (by decide) (fun sz x hx => zX3_setLatest l hfl w Z a2 a3 hx sz) (cwV 2 C.2.2.2.2.1 gL_setLatest_X3_setLatest rfl rfl rfl (by decide +kernel) ⟨Nat.le_of_ble_eq_true rfl, Nat.le_of_ble_eq_true rfl⟩) (by decide) ((fun _ => rfl) _) rfl rfl rfl rfl (Nat.le_of_ble_eq_true rfl) ⟨Nat.le_of_ble_eq_true rfl, Nat.le_of_ble_eq_true rfl⟩ dL_setLatest_5 ?_ ?_
  · intro x5 hx5
    refine lj_if_eq C (tgt := 15) dL_setLatest_8 (by decide) ?_ ?_
    · refine lj_lconst C (v := (0 : Int32).toInt64) (by decide) dL_setLatest_15 ?_
      exact bL_setLatest_16 l w a2 a3 hfl htb C x5.2 0 0
    · refine lj_lconst C (v := (1 : Int32).toInt64) (by decide) dL_setLatest_11 ?_
      refine lj_goto C (tgt := 16) dL_setLatest_12 (by decide) ?_
      exact bL_setLatest_16 l w a2 a3 hfl htb C x5.2 1 0
  · intro q
    refine lj_astore C (lv2 := [some (.ref (ld_ad w 0)), some (.int a2), some (.int a3), some (.ref (ld_ad w 86)), some (.ref q)]) (Nat.le_of_ble_eq_true rfl) rfl dL_setLatest_20 ?_
    refine lj_iconst C (v := 1) (by decide) dL_setLatest_22 ?_
    exact lj_rb C (by decide) (by decide) dL_setLatest_23
theorem inL_addCue_0 : ∀ q ∈ u_ws RX0 TX0 9, q ∈ wsL_addCue := fun _ h => List.mem_cons_of_mem _ (List.mem_append_left _ (List.mem_append_left _ (List.mem_append_right _ h)))
theorem inL_addCue_3 : ∀ q ∈ u_ws RX3 TX3 7, q ∈ wsL_addCue := fun _ h => List.mem_cons_of_mem _ (List.mem_append_left _ (List.mem_append_left _ (List.mem_append_left _ (List.mem_append_right _ h))))
def kL_addCue (Z : ld_M) (a2 : Int32) (a3 : Int32) (a4 : Int32) (a5 : Int32) : Option (Int32 × ld_M) := ld_bh (kX3_addCue Z a2 a3 a4 a5) (fun x9 => ld_ck (ld_g 0 1) (some (0, (ld_up x9.2 86 (0 : Int32).toNatClampNeg x9.1)))) (fun e9 => if e9 = 0 then (some (1, Z)) else if e9 = 1 then (some (2, Z)) else none)
set_option maxHeartbeats 4000000 in
set_option maxRecDepth 100000 in
theorem zL_addCue (l : Launch) (hfl : l.stackTraces = false) (w : ld_E) (Z : ld_M) (a2 : Int32) (a3 : Int32) (a4 : Int32) (a5 : Int32)  {r : Int32 × ld_M} (hr : kL_addCue Z a2 a3 a4 a5 = some r) (sz : Nat) : Met l yL_addCue wsL_addCue ({ frames := 8, cells := 4, slots := 24, locals := 135 }) (ld_Pc w Z sz [.ref (ld_ad w 0), .int a2, .int a3, .int a4, .int a5, .ref (ld_ad w 86)]) (ld_Q w r.2 sz (some (.int r.1))) 4 24 (ld_A w sz) := by
  refine ld_ofH (ws := wsL_addCue) (Qc := fun sz9 => ld_Q w r.2 sz9 (some (.int r.1))) RL (by decide +kernel) rfl rfl (by simp [Value.category]) (Nat.le_of_ble_eq_true rfl) sz ?_
  intro p e s m args below meth c C htb
  revert hr
  show ld_T p l e ({ frames := 8, cells := 4, slots := 24, locals := 135 }) s m args below meth c (MQ below (ld_Q w r.2 s.heap.size (some (.int r.1))) args s 4 24 (ld_A w s.heap.size)) w r (kL_addCue Z a2 a3 a4 a5) Z 0 0 0 [some (.ref (ld_ad w 0)), some (.int a2), some (.int a3), some (.int a4), some (.int a5), some (.ref (ld_ad w 86)), none] []
  unfold kL_addCue
  refine lj_aload C rfl dL_addCue_0 ?_
  refine lj_iconst C (v := 0) (by decide) dL_addCue_2 ?_
  refine lj_aload_n C rfl rfl dL_addCue_3 ?_
  refine lj_iload_n C rfl rfl dL_addCue_4 ?_
  refine lj_iload_n C rfl rfl dL_addCue_5 ?_
  refine lj_iload_n C rfl rfl dL_addCue_6 ?_
  refine lj_iload C rfl dL_addCue_7 ?_
  refine lj_h23 C (As := [.int a2, .int a3, .int a4, .int a5]) (rest := [.int 0, .ref (ld_ad w 86)]) (i := 0) (ci := 3) (Cn := RX3) (Tb := TX3) (N := 7) (fs := (ld_f3 w) (Z 0)) (p0 := 0) (p1 := 14) (e1 := 0) (hp1 := 17) (nm1 := 13) (e2 := 1) (hp2 := 21) (nm2 := 15) htb (by decide) (List.mem_of_getElem? (i := 1) rfl) (by decide) (by decide) (List.mem_of_getElem? (i := 2) rfl) (by decide) (by decide) (fun sz x hx => zX3_addCue l hfl w Z a2 a3 a4 a5 hx sz) (cwV 4 C.2.2.2.2.1 gL_addCue_X3_addCue rfl rfl rfl (by decide +kernel) ⟨Nat.le_of_ble_eq_true rfl, Nat.le_of_ble_eq_true rfl⟩) (by decide) ((fun _ => rfl) _) rfl rfl rfl rfl (Nat.le_of_ble_eq_true rfl) ⟨Nat.le_of_ble_eq_true rfl, Nat.le_of_ble_eq_true rfl⟩ dL_addCue_9 ?_ ?_ ?_
  · intro x9 hx9
    refine lj_i2l C rfl dL_addCue_12 ?_
    refine lj_last C rfl rfl dL_addCue_13 ?_
    refine lj_goto C (tgt := 25) dL_addCue_14 (by decide) ?_
    refine lj_iconst C (v := 0) (by decide) dL_addCue_25 ?_
    exact lj_rb C (by decide) (by decide) dL_addCue_26
  · intro q
    refine lj_astore C (lv2 := [some (.ref (ld_ad w 0)), some (.int a2), some (.int a3), some (.int a4), some (.int a5), some (.ref (ld_ad w 86)), some (.ref q)]) (Nat.le_of_ble_eq_true rfl) rfl dL_addCue_17 ?_
    refine lj_iconst C (v := 1) (by decide) dL_addCue_19 ?_
    exact lj_rb C (by decide) (by decide) dL_addCue_20
  · intro q
    refine lj_astore C (lv2 := [some (.ref (ld_ad w 0)), some (.int a2), some (.int a3), some (.int a4), some (.int a5), some (.ref (ld_ad w 86)), some (.ref q)]) (Nat.le_of_ble_eq_true rfl) rfl dL_addCue_21 ?_
    refine lj_iconst C (v := 2) (by decide) dL_addCue_23 ?_
    exact lj_rb C (by decide) (by decide) dL_addCue_24
theorem inL_setLevel_0 : ∀ q ∈ u_ws RX0 TX0 9, q ∈ wsL_setLevel := fun _ h => List.mem_cons_of_mem _ (List.mem_append_left _ (List.mem_append_left _ (List.mem_append_left _ (List.mem_append_right _ h))))
theorem inL_setLevel_1 : ∀ q ∈ u_ws RX1 TX1 3, q ∈ wsL_setLevel := fun _ h => List.mem_cons_of_mem _ (List.mem_append_left _ (List.mem_append_left _ (List.mem_append_right _ h)))
theorem inL_setLevel_3 : ∀ q ∈ u_ws RX3 TX3 7, q ∈ wsL_setLevel := fun _ h => List.mem_cons_of_mem _ (List.mem_append_left _ (List.mem_append_left _ (List.mem_append_left _ (List.mem_append_left _ (List.mem_append_right _ h)))))
def kL_setLevel (Z : ld_M) (a2 : Int32) (a3 : Int32) (a4 : Int32) (a5 : Int32) : Option (Int32 × ld_M) := ld_bh (kX3_setLevel Z a2 a3 a4 a5) (fun x9 => ld_ck (ld_g 0 1) (some (0, (ld_up x9.2 86 (0 : Int32).toNatClampNeg x9.1)))) (fun e9 => if e9 = 0 then (some (1, Z)) else if e9 = 2 then (some (2, Z)) else none)
set_option maxHeartbeats 4000000 in
set_option maxRecDepth 100000 in
theorem zL_setLevel (l : Launch) (hfl : l.stackTraces = false) (w : ld_E) (Z : ld_M) (a2 : Int32) (a3 : Int32) (a4 : Int32) (a5 : Int32)  {r : Int32 × ld_M} (hr : kL_setLevel Z a2 a3 a4 a5 = some r) (sz : Nat) : Met l yL_setLevel wsL_setLevel ({ frames := 8, cells := 4, slots := 24, locals := 138 }) (ld_Pc w Z sz [.ref (ld_ad w 0), .int a2, .int a3, .int a4, .int a5, .ref (ld_ad w 86)]) (ld_Q w r.2 sz (some (.int r.1))) 4 24 (ld_A w sz) := by
  refine ld_ofH (ws := wsL_setLevel) (Qc := fun sz9 => ld_Q w r.2 sz9 (some (.int r.1))) RL (by decide +kernel) rfl rfl (by simp [Value.category]) (Nat.le_of_ble_eq_true rfl) sz ?_
  intro p e s m args below meth c C htb
  revert hr
  show ld_T p l e ({ frames := 8, cells := 4, slots := 24, locals := 138 }) s m args below meth c (MQ below (ld_Q w r.2 s.heap.size (some (.int r.1))) args s 4 24 (ld_A w s.heap.size)) w r (kL_setLevel Z a2 a3 a4 a5) Z 0 0 0 [some (.ref (ld_ad w 0)), some (.int a2), some (.int a3), some (.int a4), some (.int a5), some (.ref (ld_ad w 86)), none] []
  unfold kL_setLevel
  refine lj_aload C rfl dL_setLevel_0 ?_
  refine lj_iconst C (v := 0) (by decide) dL_setLevel_2 ?_
  refine lj_aload_n C rfl rfl dL_setLevel_3 ?_
  refine lj_iload_n C rfl rfl dL_setLevel_4 ?_
  refine lj_iload_n C rfl rfl dL_setLevel_5 ?_
  refine lj_iload_n C rfl rfl dL_setLevel_6 ?_
  refine lj_iload C rfl dL_setLevel_7 ?_
  refine lj_h23 C (As := [.int a2, .int a3, .int a4, .int a5]) (rest := [.int 0, .ref (ld_ad w 86)]) (i := 0) (ci := 3) (Cn := RX3) (Tb := TX3) (N := 7) (fs := (ld_f3 w) (Z 0)) (p0 := 0) (p1 := 14) (e1 := 0) (hp1 := 17) (nm1 := 13) (e2 := 2) (hp2 := 21) (nm2 := 21) htb (by decide) (List.mem_of_getElem? (i := 1) rfl) (by decide) (by decide) (List.mem_of_getElem? (i := 2) rfl) (by decide) (by decide) (fun sz x hx => zX3_setLevel l hfl w Z a2 a3 a4 a5 hx sz) (cwV 4 C.2.2.2.2.1 gL_setLevel_X3_setLevel rfl rfl rfl (by decide +kernel) ⟨Nat.le_of_ble_eq_true rfl, Nat.le_of_ble_eq_true rfl⟩) (by decide) ((fun _ => rfl) _) rfl rfl rfl rfl (Nat.le_of_ble_eq_true rfl) ⟨Nat.le_of_ble_eq_true rfl, Nat.le_of_ble_eq_true rfl⟩ dL_setLevel_9 ?_ ?_ ?_
  · intro x9 hx9
    refine lj_i2l C rfl dL_setLevel_12 ?_
    refine lj_last C rfl rfl dL_setLevel_13 ?_
    refine lj_goto C (tgt := 25) dL_setLevel_14 (by decide) ?_
    refine lj_iconst C (v := 0) (by decide) dL_setLevel_25 ?_
    exact lj_rb C (by decide) (by decide) dL_setLevel_26
  · intro q
    refine lj_astore C (lv2 := [some (.ref (ld_ad w 0)), some (.int a2), some (.int a3), some (.int a4), some (.int a5), some (.ref (ld_ad w 86)), some (.ref q)]) (Nat.le_of_ble_eq_true rfl) rfl dL_setLevel_17 ?_
    refine lj_iconst C (v := 1) (by decide) dL_setLevel_19 ?_
    exact lj_rb C (by decide) (by decide) dL_setLevel_20
  · intro q
    refine lj_astore C (lv2 := [some (.ref (ld_ad w 0)), some (.int a2), some (.int a3), some (.int a4), some (.int a5), some (.ref (ld_ad w 86)), some (.ref q)]) (Nat.le_of_ble_eq_true rfl) rfl dL_setLevel_21 ?_
    refine lj_iconst C (v := 2) (by decide) dL_setLevel_23 ?_
    exact lj_rb C (by decide) (by decide) dL_setLevel_24
theorem inL_undo_0 : ∀ q ∈ u_ws RX0 TX0 9, q ∈ wsL_undo := fun _ h => List.mem_cons_of_mem _ (List.mem_append_left _ (List.mem_append_right _ h))
theorem inL_undo_1 : ∀ q ∈ u_ws RX1 TX1 3, q ∈ wsL_undo := fun _ h => List.mem_cons_of_mem _ (List.mem_append_left _ (List.mem_append_left _ (List.mem_append_left _ (List.mem_append_right _ h))))
theorem inL_undo_2 : ∀ q ∈ u_ws RX2 TX2 4, q ∈ wsL_undo := fun _ h => List.mem_cons_of_mem _ (List.mem_append_left _ (List.mem_append_left _ (List.mem_append_right _ h)))
theorem inL_undo_3 : ∀ q ∈ u_ws RX3 TX3 7, q ∈ wsL_undo := fun _ h => List.mem_cons_of_mem _ (List.mem_append_left _ (List.mem_append_left _ (List.mem_append_left _ (List.mem_append_left _ (List.mem_append_right _ h)))))
def kL_undo (Z : ld_M)  : Option (Int32 × ld_M) := ld_bh (kX3_undo Z) (fun x3 => ld_ck (ld_g 0 1) (some (0, (ld_up x3.2 86 (0 : Int32).toNatClampNeg x3.1)))) (fun e9 => if e9 = 1 then (some (1, Z)) else none)
set_option maxHeartbeats 4000000 in
set_option maxRecDepth 100000 in
theorem zL_undo (l : Launch) (hfl : l.stackTraces = false) (w : ld_E) (Z : ld_M)   {r : Int32 × ld_M} (hr : kL_undo Z  = some r) (sz : Nat) : Met l yL_undo wsL_undo ({ frames := 7, cells := 1, slots := 6, locals := 110 }) (ld_Pc w Z sz [.ref (ld_ad w 0), .ref (ld_ad w 86)]) (ld_Q w r.2 sz (some (.int r.1))) 1 6 (ld_A w sz) := by
  refine ld_ofH (ws := wsL_undo) (Qc := fun sz9 => ld_Q w r.2 sz9 (some (.int r.1))) RL (by decide +kernel) rfl rfl (by simp [Value.category]) (Nat.le_of_ble_eq_true rfl) sz ?_
  intro p e s m args below meth c C htb
  revert hr
  show ld_T p l e ({ frames := 7, cells := 1, slots := 6, locals := 110 }) s m args below meth c (MQ below (ld_Q w r.2 s.heap.size (some (.int r.1))) args s 1 6 (ld_A w s.heap.size)) w r (kL_undo Z ) Z 0 0 0 [some (.ref (ld_ad w 0)), some (.ref (ld_ad w 86)), none] []
  unfold kL_undo
  refine lj_aload_n C rfl rfl dL_undo_0 ?_
  refine lj_iconst C (v := 0) (by decide) dL_undo_1 ?_
  refine lj_aload_n C rfl rfl dL_undo_2 ?_
  refine lj_h13 C (As := []) (rest := [.int 0, .ref (ld_ad w 86)]) (i := 0) (ci := 3) (Cn := RX3) (Tb := TX3) (N := 7) (fs := (ld_f3 w) (Z 0)) (p0 := 0) (p1 := 8) (e1 := 1) (hp1 := 11) (nm1 := 15) htb (by decide) (List.mem_of_getElem? (i := 1) rfl) (by decide) (by decide) (fun sz x hx => zX3_undo l hfl w Z  hx sz) (cwV 0 C.2.2.2.2.1 gL_undo_X3_undo rfl rfl rfl (by decide +kernel) ⟨Nat.le_of_ble_eq_true rfl, Nat.le_of_ble_eq_true rfl⟩) (by decide) ((fun _ => rfl) _) rfl rfl rfl rfl (Nat.le_of_ble_eq_true rfl) ⟨Nat.le_of_ble_eq_true rfl, Nat.le_of_ble_eq_true rfl⟩ dL_undo_3 ?_ ?_
  · intro x3 hx3
    refine lj_i2l C rfl dL_undo_6 ?_
    refine lj_last C rfl rfl dL_undo_7 ?_
    refine lj_goto C (tgt := 14) dL_undo_8 (by decide) ?_
    refine lj_iconst C (v := 0) (by decide) dL_undo_14 ?_
    exact lj_rb C (by decide) (by decide) dL_undo_15
  · intro q
    refine lj_astore_n C rfl (lv2 := [some (.ref (ld_ad w 0)), some (.ref (ld_ad w 86)), some (.ref q)]) (Nat.le_of_ble_eq_true rfl) rfl dL_undo_11 ?_
    refine lj_iconst C (v := 1) (by decide) dL_undo_12 ?_
    exact lj_rb C (by decide) (by decide) dL_undo_13
theorem inL_go_0 : ∀ q ∈ u_ws RX0 TX0 9, q ∈ wsL_go := fun _ h => List.mem_cons_of_mem _ (List.mem_append_left _ (List.mem_append_left _ (List.mem_append_right _ h)))
theorem inL_go_3 : ∀ q ∈ u_ws RX3 TX3 7, q ∈ wsL_go := fun _ h => List.mem_cons_of_mem _ (List.mem_append_left _ (List.mem_append_left _ (List.mem_append_left _ (List.mem_append_right _ h))))
def kL_go (Z : ld_M) (a2 : Int32) (a3 : Int32) : Option (Int32 × ld_M) := ld_bh (kX3_go Z a2 a3) (fun x5 => ld_ck (ld_g 0 1) (some (0, (ld_up x5.2 86 (0 : Int32).toNatClampNeg x5.1)))) (fun e9 => if e9 = 0 then (some (1, Z)) else if e9 = 2 then (some (2, Z)) else none)
set_option maxHeartbeats 4000000 in
set_option maxRecDepth 100000 in
theorem zL_go (l : Launch) (hfl : l.stackTraces = false) (w : ld_E) (Z : ld_M) (a2 : Int32) (a3 : Int32)  {r : Int32 × ld_M} (hr : kL_go Z a2 a3 = some r) (sz : Nat) : Met l yL_go wsL_go ({ frames := 8, cells := 2, slots := 12, locals := 135 }) (ld_Pc w Z sz [.ref (ld_ad w 0), .int a2, .int a3, .ref (ld_ad w 86)]) (ld_Q w r.2 sz (some (.int r.1))) 2 12 (ld_A w sz) := by
  refine ld_ofH (ws := wsL_go) (Qc := fun sz9 => ld_Q w r.2 sz9 (some (.int r.1))) RL (by decide +kernel) rfl rfl (by simp [Value.category]) (Nat.le_of_ble_eq_true rfl) sz ?_
  intro p e s m args below meth c C htb
  revert hr
  show ld_T p l e ({ frames := 8, cells := 2, slots := 12, locals := 135 }) s m args below meth c (MQ below (ld_Q w r.2 s.heap.size (some (.int r.1))) args s 2 12 (ld_A w s.heap.size)) w r (kL_go Z a2 a3) Z 0 0 0 [some (.ref (ld_ad w 0)), some (.int a2), some (.int a3), some (.ref (ld_ad w 86)), none] []
  unfold kL_go
  refine lj_aload_n C rfl rfl dL_go_0 ?_
  refine lj_iconst C (v := 0) (by decide) dL_go_1 ?_
  refine lj_aload_n C rfl rfl dL_go_2 ?_
  refine lj_iload_n C rfl rfl dL_go_3 ?_
  refine lj_iload_n C rfl rfl dL_go_4 ?_
  refine lj_h23 C (As := [.int a2, .int a3]) (rest := [.int 0, .ref (ld_ad w 86)]) (i := 0) (ci := 3) (Cn := RX3) (Tb := TX3) (N := 7) (fs := (ld_f3 w) (Z 0)) (p0 := 0) (p1 := 10) (e1 := 0) (hp1 := 13) (nm1 := 13) (e2 := 2) (hp2 := 17) (nm2 := 21) htb (by decide) (List.mem_of_getElem? (i := 1) rfl) (by decide) (by decide) (List.mem_of_getElem? (i := 2) rfl) (by decide) (by decide) (fun sz x hx => zX3_go l hfl w Z a2 a3 hx sz) (cwV 2 C.2.2.2.2.1 gL_go_X3_go rfl rfl rfl (by decide +kernel) ⟨Nat.le_of_ble_eq_true rfl, Nat.le_of_ble_eq_true rfl⟩) (by decide) ((fun _ => rfl) _) rfl rfl rfl rfl (Nat.le_of_ble_eq_true rfl) ⟨Nat.le_of_ble_eq_true rfl, Nat.le_of_ble_eq_true rfl⟩ dL_go_5 ?_ ?_ ?_
  · intro x5 hx5
    refine lj_i2l C rfl dL_go_8 ?_
    refine lj_last C rfl rfl dL_go_9 ?_
    refine lj_goto C (tgt := 21) dL_go_10 (by decide) ?_
    refine lj_iconst C (v := 0) (by decide) dL_go_21 ?_
    exact lj_rb C (by decide) (by decide) dL_go_22
  · intro q
    refine lj_astore C (lv2 := [some (.ref (ld_ad w 0)), some (.int a2), some (.int a3), some (.ref (ld_ad w 86)), some (.ref q)]) (Nat.le_of_ble_eq_true rfl) rfl dL_go_13 ?_
    refine lj_iconst C (v := 1) (by decide) dL_go_15 ?_
    exact lj_rb C (by decide) (by decide) dL_go_16
  · intro q
    refine lj_astore C (lv2 := [some (.ref (ld_ad w 0)), some (.int a2), some (.int a3), some (.ref (ld_ad w 86)), some (.ref q)]) (Nat.le_of_ble_eq_true rfl) rfl dL_go_17 ?_
    refine lj_iconst C (v := 2) (by decide) dL_go_19 ?_
    exact lj_rb C (by decide) (by decide) dL_go_20
theorem inL_pass_0 : ∀ q ∈ u_ws RX0 TX0 9, q ∈ wsL_pass := fun _ h => List.mem_cons_of_mem _ (List.mem_append_left _ (List.mem_append_right _ h))
theorem inL_pass_3 : ∀ q ∈ u_ws RX3 TX3 7, q ∈ wsL_pass := fun _ h => List.mem_cons_of_mem _ (List.mem_append_left _ (List.mem_append_left _ (List.mem_append_right _ h)))
def kL_pass (Z : ld_M) (a2 : Int32) : Option (Int32 × ld_M) := ld_bh (kX3_pass Z a2) (fun x4 => ld_ck (ld_g 0 1) (some (0, (ld_up x4.2 86 (0 : Int32).toNatClampNeg x4.1)))) (fun e9 => if e9 = 0 then (some (1, Z)) else none)
set_option maxHeartbeats 4000000 in
set_option maxRecDepth 100000 in
theorem zL_pass (l : Launch) (hfl : l.stackTraces = false) (w : ld_E) (Z : ld_M) (a2 : Int32)  {r : Int32 × ld_M} (hr : kL_pass Z a2 = some r) (sz : Nat) : Met l yL_pass wsL_pass ({ frames := 7, cells := 1, slots := 6, locals := 138 }) (ld_Pc w Z sz [.ref (ld_ad w 0), .int a2, .ref (ld_ad w 86)]) (ld_Q w r.2 sz (some (.int r.1))) 1 6 (ld_A w sz) := by
  refine ld_ofH (ws := wsL_pass) (Qc := fun sz9 => ld_Q w r.2 sz9 (some (.int r.1))) RL (by decide +kernel) rfl rfl (by simp [Value.category]) (Nat.le_of_ble_eq_true rfl) sz ?_
  intro p e s m args below meth c C htb
  revert hr
  show ld_T p l e ({ frames := 7, cells := 1, slots := 6, locals := 138 }) s m args below meth c (MQ below (ld_Q w r.2 s.heap.size (some (.int r.1))) args s 1 6 (ld_A w s.heap.size)) w r (kL_pass Z a2) Z 0 0 0 [some (.ref (ld_ad w 0)), some (.int a2), some (.ref (ld_ad w 86)), none] []
  unfold kL_pass
  refine lj_aload_n C rfl rfl dL_pass_0 ?_
  refine lj_iconst C (v := 0) (by decide) dL_pass_1 ?_
  refine lj_aload_n C rfl rfl dL_pass_2 ?_
  refine lj_iload_n C rfl rfl dL_pass_3 ?_
  refine lj_h13 C (As := [.int a2]) (rest := [.int 0, .ref (ld_ad w 86)]) (i := 0) (ci := 3) (Cn := RX3) (Tb := TX3) (N := 7) (fs := (ld_f3 w) (Z 0)) (p0 := 0) (p1 := 9) (e1 := 0) (hp1 := 12) (nm1 := 13) htb (by decide) (List.mem_of_getElem? (i := 1) rfl) (by decide) (by decide) (fun sz x hx => zX3_pass l hfl w Z a2 hx sz) (cwV 1 C.2.2.2.2.1 gL_pass_X3_pass rfl rfl rfl (by decide +kernel) ⟨Nat.le_of_ble_eq_true rfl, Nat.le_of_ble_eq_true rfl⟩) (by decide) ((fun _ => rfl) _) rfl rfl rfl rfl (Nat.le_of_ble_eq_true rfl) ⟨Nat.le_of_ble_eq_true rfl, Nat.le_of_ble_eq_true rfl⟩ dL_pass_4 ?_ ?_
  · intro x4 hx4
    refine lj_i2l C rfl dL_pass_7 ?_
    refine lj_last C rfl rfl dL_pass_8 ?_
    refine lj_goto C (tgt := 15) dL_pass_9 (by decide) ?_
    refine lj_iconst C (v := 0) (by decide) dL_pass_15 ?_
    exact lj_rb C (by decide) (by decide) dL_pass_16
  · intro q
    refine lj_astore_n C rfl (lv2 := [some (.ref (ld_ad w 0)), some (.int a2), some (.ref (ld_ad w 86)), some (.ref q)]) (Nat.le_of_ble_eq_true rfl) rfl dL_pass_12 ?_
    refine lj_iconst C (v := 1) (by decide) dL_pass_13 ?_
    exact lj_rb C (by decide) (by decide) dL_pass_14
theorem inL_running_0 : ∀ q ∈ u_ws RX0 TX0 9, q ∈ wsL_running := fun _ h => List.mem_cons_of_mem _ (List.mem_append_left _ (List.mem_append_right _ h))
theorem inL_running_3 : ∀ q ∈ u_ws RX3 TX3 7, q ∈ wsL_running := fun _ h => List.mem_cons_of_mem _ (List.mem_append_left _ (List.mem_append_left _ (List.mem_append_right _ h)))
def kL_running (Z : ld_M) (a2 : Int32) : Option (Int32 × ld_M) := ld_bh (kX3_running Z a2) (fun x4 => ld_ck (ld_g 0 1) (some (0, (ld_up Z 86 (0 : Int32).toNatClampNeg x4)))) (fun e9 => if e9 = 0 then (some (1, Z)) else none)
set_option maxHeartbeats 4000000 in
set_option maxRecDepth 100000 in
theorem zL_running (l : Launch) (hfl : l.stackTraces = false) (w : ld_E) (Z : ld_M) (a2 : Int32)  {r : Int32 × ld_M} (hr : kL_running Z a2 = some r) (sz : Nat) : Met l yL_running wsL_running ({ frames := 8, cells := 1, slots := 6, locals := 131 }) (ld_Pc w Z sz [.ref (ld_ad w 0), .int a2, .ref (ld_ad w 86)]) (ld_Q w r.2 sz (some (.int r.1))) 1 6 (ld_A w sz) := by
  refine ld_ofH (ws := wsL_running) (Qc := fun sz9 => ld_Q w r.2 sz9 (some (.int r.1))) RL (by decide +kernel) rfl rfl (by simp [Value.category]) (Nat.le_of_ble_eq_true rfl) sz ?_
  intro p e s m args below meth c C htb
  revert hr
  show ld_T p l e ({ frames := 8, cells := 1, slots := 6, locals := 131 }) s m args below meth c (MQ below (ld_Q w r.2 s.heap.size (some (.int r.1))) args s 1 6 (ld_A w s.heap.size)) w r (kL_running Z a2) Z 0 0 0 [some (.ref (ld_ad w 0)), some (.int a2), some (.ref (ld_ad w 86)), none] []
  unfold kL_running
  refine lj_aload_n C rfl rfl dL_running_0 ?_
  refine lj_iconst C (v := 0) (by decide) dL_running_1 ?_
  refine lj_aload_n C rfl rfl dL_running_2 ?_
  refine lj_iload_n C rfl rfl dL_running_3 ?_
  refine lj_h11 C (As := [.int a2]) (rest := [.int 0, .ref (ld_ad w 86)]) (i := 0) (ci := 3) (Cn := RX3) (Tb := TX3) (N := 7) (fs := (ld_f3 w) (Z 0)) (p0 := 0) (p1 := 9) (e1 := 0) (hp1 := 12) (nm1 := 13) htb (by decide) (List.mem_of_getElem? (i := 1) rfl) (by decide) (by decide) (fun sz x hx => zX3_running l hfl w Z a2 hx sz) (cwV 1 C.2.2.2.2.1 gL_running_X3_running rfl rfl rfl (by decide +kernel) ⟨Nat.le_of_ble_eq_true rfl, Nat.le_of_ble_eq_true rfl⟩) (by decide) ((fun _ => rfl) _) rfl rfl rfl rfl (Nat.le_of_ble_eq_true rfl) ⟨Nat.le_of_ble_eq_true rfl, Nat.le_of_ble_eq_true rfl⟩ dL_running_4 ?_ ?_
  · intro x4 hx4
    refine lj_i2l C rfl dL_running_7 ?_
    refine lj_last C rfl rfl dL_running_8 ?_
    refine lj_goto C (tgt := 15) dL_running_9 (by decide) ?_
    refine lj_iconst C (v := 0) (by decide) dL_running_15 ?_
    exact lj_rb C (by decide) (by decide) dL_running_16
  · intro q
    refine lj_astore_n C rfl (lv2 := [some (.ref (ld_ad w 0)), some (.int a2), some (.ref (ld_ad w 86)), some (.ref q)]) (Nat.le_of_ble_eq_true rfl) rfl dL_running_12 ?_
    refine lj_iconst C (v := 1) (by decide) dL_running_13 ?_
    exact lj_rb C (by decide) (by decide) dL_running_14
theorem inL_level_0 : ∀ q ∈ u_ws RX0 TX0 9, q ∈ wsL_level := fun _ h => List.mem_cons_of_mem _ (List.mem_append_left _ (List.mem_append_right _ h))
theorem inL_level_3 : ∀ q ∈ u_ws RX3 TX3 7, q ∈ wsL_level := fun _ h => List.mem_cons_of_mem _ (List.mem_append_left _ (List.mem_append_left _ (List.mem_append_right _ h)))
def kL_level (Z : ld_M) (a2 : Int32) (a3 : Int32) : Option (Int32 × ld_M) := ld_bh (kX3_level Z a2 a3) (fun x5 => ld_ck (ld_g 0 1) (some (0, (ld_up Z 86 (0 : Int32).toNatClampNeg x5)))) (fun e9 => if e9 = 0 then (some (1, Z)) else none)
set_option maxHeartbeats 4000000 in
set_option maxRecDepth 100000 in
theorem zL_level (l : Launch) (hfl : l.stackTraces = false) (w : ld_E) (Z : ld_M) (a2 : Int32) (a3 : Int32)  {r : Int32 × ld_M} (hr : kL_level Z a2 a3 = some r) (sz : Nat) : Met l yL_level wsL_level ({ frames := 8, cells := 2, slots := 12, locals := 132 }) (ld_Pc w Z sz [.ref (ld_ad w 0), .int a2, .int a3, .ref (ld_ad w 86)]) (ld_Q w r.2 sz (some (.int r.1))) 2 12 (ld_A w sz) := by
  refine ld_ofH (ws := wsL_level) (Qc := fun sz9 => ld_Q w r.2 sz9 (some (.int r.1))) RL (by decide +kernel) rfl rfl (by simp [Value.category]) (Nat.le_of_ble_eq_true rfl) sz ?_
  intro p e s m args below meth c C htb
  revert hr
  show ld_T p l e ({ frames := 8, cells := 2, slots := 12, locals := 132 }) s m args below meth c (MQ below (ld_Q w r.2 s.heap.size (some (.int r.1))) args s 2 12 (ld_A w s.heap.size)) w r (kL_level Z a2 a3) Z 0 0 0 [some (.ref (ld_ad w 0)), some (.int a2), some (.int a3), some (.ref (ld_ad w 86)), none] []
  unfold kL_level
  refine lj_aload_n C rfl rfl dL_level_0 ?_
  refine lj_iconst C (v := 0) (by decide) dL_level_1 ?_
  refine lj_aload_n C rfl rfl dL_level_2 ?_
  refine lj_iload_n C rfl rfl dL_level_3 ?_
  refine lj_iload_n C rfl rfl dL_level_4 ?_
  refine lj_h11 C (As := [.int a2, .int a3]) (rest := [.int 0, .ref (ld_ad w 86)]) (i := 0) (ci := 3) (Cn := RX3) (Tb := TX3) (N := 7) (fs := (ld_f3 w) (Z 0)) (p0 := 0) (p1 := 10) (e1 := 0) (hp1 := 13) (nm1 := 13) htb (by decide) (List.mem_of_getElem? (i := 1) rfl) (by decide) (by decide) (fun sz x hx => zX3_level l hfl w Z a2 a3 hx sz) (cwV 2 C.2.2.2.2.1 gL_level_X3_level rfl rfl rfl (by decide +kernel) ⟨Nat.le_of_ble_eq_true rfl, Nat.le_of_ble_eq_true rfl⟩) (by decide) ((fun _ => rfl) _) rfl rfl rfl rfl (Nat.le_of_ble_eq_true rfl) ⟨Nat.le_of_ble_eq_true rfl, Nat.le_of_ble_eq_true rfl⟩ dL_level_5 ?_ ?_
  · intro x5 hx5
    refine lj_i2l C rfl dL_level_8 ?_
    refine lj_last C rfl rfl dL_level_9 ?_
    refine lj_goto C (tgt := 17) dL_level_10 (by decide) ?_
    refine lj_iconst C (v := 0) (by decide) dL_level_17 ?_
    exact lj_rb C (by decide) (by decide) dL_level_18
  · intro q
    refine lj_astore C (lv2 := [some (.ref (ld_ad w 0)), some (.int a2), some (.int a3), some (.ref (ld_ad w 86)), some (.ref q)]) (Nat.le_of_ble_eq_true rfl) rfl dL_level_13 ?_
    refine lj_iconst C (v := 1) (by decide) dL_level_15 ?_
    exact lj_rb C (by decide) (by decide) dL_level_16
theorem inL_merged_0 : ∀ q ∈ u_ws RX0 TX0 9, q ∈ wsL_merged := fun _ h => List.mem_cons_of_mem _ (List.mem_append_left _ (List.mem_append_right _ h))
theorem inL_merged_3 : ∀ q ∈ u_ws RX3 TX3 7, q ∈ wsL_merged := fun _ h => List.mem_cons_of_mem _ (List.mem_append_left _ (List.mem_append_left _ (List.mem_append_right _ h)))
def kL_merged (Z : ld_M) (a2 : Int32) : Option (Int32 × ld_M) := ld_bh (kX3_merged Z a2) (fun x4 => ld_ck (ld_g 0 1) (some (0, (ld_up Z 86 (0 : Int32).toNatClampNeg x4)))) (fun e9 => if e9 = 0 then (some (1, Z)) else none)
set_option maxHeartbeats 4000000 in
set_option maxRecDepth 100000 in
theorem zL_merged (l : Launch) (hfl : l.stackTraces = false) (w : ld_E) (Z : ld_M) (a2 : Int32)  {r : Int32 × ld_M} (hr : kL_merged Z a2 = some r) (sz : Nat) : Met l yL_merged wsL_merged ({ frames := 8, cells := 1, slots := 6, locals := 131 }) (ld_Pc w Z sz [.ref (ld_ad w 0), .int a2, .ref (ld_ad w 86)]) (ld_Q w r.2 sz (some (.int r.1))) 1 6 (ld_A w sz) := by
  refine ld_ofH (ws := wsL_merged) (Qc := fun sz9 => ld_Q w r.2 sz9 (some (.int r.1))) RL (by decide +kernel) rfl rfl (by simp [Value.category]) (Nat.le_of_ble_eq_true rfl) sz ?_
  intro p e s m args below meth c C htb
  revert hr
  show ld_T p l e ({ frames := 8, cells := 1, slots := 6, locals := 131 }) s m args below meth c (MQ below (ld_Q w r.2 s.heap.size (some (.int r.1))) args s 1 6 (ld_A w s.heap.size)) w r (kL_merged Z a2) Z 0 0 0 [some (.ref (ld_ad w 0)), some (.int a2), some (.ref (ld_ad w 86)), none] []
  unfold kL_merged
  refine lj_aload_n C rfl rfl dL_merged_0 ?_
  refine lj_iconst C (v := 0) (by decide) dL_merged_1 ?_
  refine lj_aload_n C rfl rfl dL_merged_2 ?_
  refine lj_iload_n C rfl rfl dL_merged_3 ?_
  refine lj_h11 C (As := [.int a2]) (rest := [.int 0, .ref (ld_ad w 86)]) (i := 0) (ci := 3) (Cn := RX3) (Tb := TX3) (N := 7) (fs := (ld_f3 w) (Z 0)) (p0 := 0) (p1 := 9) (e1 := 0) (hp1 := 12) (nm1 := 13) htb (by decide) (List.mem_of_getElem? (i := 1) rfl) (by decide) (by decide) (fun sz x hx => zX3_merged l hfl w Z a2 hx sz) (cwV 1 C.2.2.2.2.1 gL_merged_X3_merged rfl rfl rfl (by decide +kernel) ⟨Nat.le_of_ble_eq_true rfl, Nat.le_of_ble_eq_true rfl⟩) (by decide) ((fun _ => rfl) _) rfl rfl rfl rfl (Nat.le_of_ble_eq_true rfl) ⟨Nat.le_of_ble_eq_true rfl, Nat.le_of_ble_eq_true rfl⟩ dL_merged_4 ?_ ?_
  · intro x4 hx4
    refine lj_i2l C rfl dL_merged_7 ?_
    refine lj_last C rfl rfl dL_merged_8 ?_
    refine lj_goto C (tgt := 15) dL_merged_9 (by decide) ?_
    refine lj_iconst C (v := 0) (by decide) dL_merged_15 ?_
    exact lj_rb C (by decide) (by decide) dL_merged_16
  · intro q
    refine lj_astore_n C rfl (lv2 := [some (.ref (ld_ad w 0)), some (.int a2), some (.ref (ld_ad w 86)), some (.ref q)]) (Nat.le_of_ble_eq_true rfl) rfl dL_merged_12 ?_
    refine lj_iconst C (v := 1) (by decide) dL_merged_13 ?_
    exact lj_rb C (by decide) (by decide) dL_merged_14
theorem inL_light_0 : ∀ q ∈ u_ws RX0 TX0 9, q ∈ wsL_light := fun _ h => List.mem_cons_of_mem _ (List.mem_append_left _ (List.mem_append_left _ (List.mem_append_right _ h)))
theorem inL_light_2 : ∀ q ∈ u_ws RX2 TX2 4, q ∈ wsL_light := fun _ h => List.mem_cons_of_mem _ (List.mem_append_left _ (List.mem_append_right _ h))
theorem inL_light_3 : ∀ q ∈ u_ws RX3 TX3 7, q ∈ wsL_light := fun _ h => List.mem_cons_of_mem _ (List.mem_append_left _ (List.mem_append_left _ (List.mem_append_left _ (List.mem_append_right _ h))))
def kL_light (Z : ld_M) (a2 : Int32) : Option (Int32 × ld_M) := ld_bh (kX3_light Z a2) (fun x4 => ld_ck (ld_g 0 1) (some (0, (ld_up Z 86 (0 : Int32).toNatClampNeg x4)))) (fun e9 => if e9 = 0 then (some (1, Z)) else none)
set_option maxHeartbeats 4000000 in
set_option maxRecDepth 100000 in
theorem zL_light (l : Launch) (hfl : l.stackTraces = false) (w : ld_E) (Z : ld_M) (a2 : Int32)  {r : Int32 × ld_M} (hr : kL_light Z a2 = some r) (sz : Nat) : Met l yL_light wsL_light ({ frames := 8, cells := 1, slots := 6, locals := 131 }) (ld_Pc w Z sz [.ref (ld_ad w 0), .int a2, .ref (ld_ad w 86)]) (ld_Q w r.2 sz (some (.int r.1))) 1 6 (ld_A w sz) := by
  refine ld_ofH (ws := wsL_light) (Qc := fun sz9 => ld_Q w r.2 sz9 (some (.int r.1))) RL (by decide +kernel) rfl rfl (by simp [Value.category]) (Nat.le_of_ble_eq_true rfl) sz ?_
  intro p e s m args below meth c C htb
  revert hr
  show ld_T p l e ({ frames := 8, cells := 1, slots := 6, locals := 131 }) s m args below meth c (MQ below (ld_Q w r.2 s.heap.size (some (.int r.1))) args s 1 6 (ld_A w s.heap.size)) w r (kL_light Z a2) Z 0 0 0 [some (.ref (ld_ad w 0)), some (.int a2), some (.ref (ld_ad w 86)), none] []
  unfold kL_light
  refine lj_aload_n C rfl rfl dL_light_0 ?_
  refine lj_iconst C (v := 0) (by decide) dL_light_1 ?_
  refine lj_aload_n C rfl rfl dL_light_2 ?_
  refine lj_iload_n C rfl rfl dL_light_3 ?_
  refine lj_h11 C (As := [.int a2]) (rest := [.int 0, .ref (ld_ad w 86)]) (i := 0) (ci := 3) (Cn := RX3) (Tb := TX3) (N := 7) (fs := (ld_f3 w) (Z 0)) (p0 := 0) (p1 := 9) (e1 := 0) (hp1 := 12) (nm1 := 13) htb (by decide) (List.mem_of_getElem? (i := 1) rfl) (by decide) (by decide) (fun sz x hx => zX3_light l hfl w Z a2 hx sz) (cwV 1 C.2.2.2.2.1 gL_light_X3_light rfl rfl rfl (by decide +kernel) ⟨Nat.le_of_ble_eq_true rfl, Nat.le_of_ble_eq_true rfl⟩) (by decide) ((fun _ => rfl) _) rfl rfl rfl rfl (Nat.le_of_ble_eq_true rfl) ⟨Nat.le_of_ble_eq_true rfl, Nat.le_of_ble_eq_true rfl⟩ dL_light_4 ?_ ?_
  · intro x4 hx4
    refine lj_i2l C rfl dL_light_7 ?_
    refine lj_last C rfl rfl dL_light_8 ?_
    refine lj_goto C (tgt := 15) dL_light_9 (by decide) ?_
    refine lj_iconst C (v := 0) (by decide) dL_light_15 ?_
    exact lj_rb C (by decide) (by decide) dL_light_16
  · intro q
    refine lj_astore_n C rfl (lv2 := [some (.ref (ld_ad w 0)), some (.int a2), some (.ref (ld_ad w 86)), some (.ref q)]) (Nat.le_of_ble_eq_true rfl) rfl dL_light_12 ?_
    refine lj_iconst C (v := 1) (by decide) dL_light_13 ?_
    exact lj_rb C (by decide) (by decide) dL_light_14
theorem inL_preview_0 : ∀ q ∈ u_ws RX0 TX0 9, q ∈ wsL_preview := fun _ h => List.mem_cons_of_mem _ (List.mem_append_left _ (List.mem_append_left _ (List.mem_append_left _ (List.mem_append_right _ h))))
theorem inL_preview_2 : ∀ q ∈ u_ws RX2 TX2 4, q ∈ wsL_preview := fun _ h => List.mem_cons_of_mem _ (List.mem_append_left _ (List.mem_append_left _ (List.mem_append_right _ h)))
theorem inL_preview_3 : ∀ q ∈ u_ws RX3 TX3 7, q ∈ wsL_preview := fun _ h => List.mem_cons_of_mem _ (List.mem_append_left _ (List.mem_append_left _ (List.mem_append_left _ (List.mem_append_left _ (List.mem_append_right _ h)))))
def kL_preview (Z : ld_M) (a2 : Int32) (a3 : Int32) (a4 : Int32) : Option (Int32 × ld_M) := ld_bh (kX3_preview Z a2 a3 a4) (fun x7 => ld_ck (ld_g 0 1) (some (0, (ld_up Z 86 (0 : Int32).toNatClampNeg x7)))) (fun e9 => if e9 = 0 then (some (1, Z)) else if e9 = 2 then (some (2, Z)) else none)
set_option maxHeartbeats 4000000 in
set_option maxRecDepth 100000 in
theorem zL_preview (l : Launch) (hfl : l.stackTraces = false) (w : ld_E) (Z : ld_M) (a2 : Int32) (a3 : Int32) (a4 : Int32)  {r : Int32 × ld_M} (hr : kL_preview Z a2 a3 a4 = some r) (sz : Nat) : Met l yL_preview wsL_preview ({ frames := 8, cells := 3, slots := 18, locals := 138 }) (ld_Pc w Z sz [.ref (ld_ad w 0), .int a2, .int a3, .int a4, .ref (ld_ad w 86)]) (ld_Q w r.2 sz (some (.int r.1))) 3 18 (ld_A w sz) := by
  refine ld_ofH (ws := wsL_preview) (Qc := fun sz9 => ld_Q w r.2 sz9 (some (.int r.1))) RL (by decide +kernel) rfl rfl (by simp [Value.category]) (Nat.le_of_ble_eq_true rfl) sz ?_
  intro p e s m args below meth c C htb
  revert hr
  show ld_T p l e ({ frames := 8, cells := 3, slots := 18, locals := 138 }) s m args below meth c (MQ below (ld_Q w r.2 s.heap.size (some (.int r.1))) args s 3 18 (ld_A w s.heap.size)) w r (kL_preview Z a2 a3 a4) Z 0 0 0 [some (.ref (ld_ad w 0)), some (.int a2), some (.int a3), some (.int a4), some (.ref (ld_ad w 86)), none] []
  unfold kL_preview
  refine lj_aload C rfl dL_preview_0 ?_
  refine lj_iconst C (v := 0) (by decide) dL_preview_2 ?_
  refine lj_aload_n C rfl rfl dL_preview_3 ?_
  refine lj_iload_n C rfl rfl dL_preview_4 ?_
  refine lj_iload_n C rfl rfl dL_preview_5 ?_
  refine lj_iload_n C rfl rfl dL_preview_6 ?_
  refine lj_h21 C (As := [.int a2, .int a3, .int a4]) (rest := [.int 0, .ref (ld_ad w 86)]) (i := 0) (ci := 3) (Cn := RX3) (Tb := TX3) (N := 7) (fs := (ld_f3 w) (Z 0)) (p0 := 0) (p1 := 12) (e1 := 0) (hp1 := 15) (nm1 := 13) (e2 := 2) (hp2 := 19) (nm2 := 21) htb (by decide) (List.mem_of_getElem? (i := 1) rfl) (by decide) (by decide) (List.mem_of_getElem? (i := 2) rfl) (by decide) (by decide) (fun sz x hx => zX3_preview l hfl w Z a2 a3 a4 hx sz) (cwV 3 C.2.2.2.2.1 gL_preview_X3_preview rfl rfl rfl (by decide +kernel) ⟨Nat.le_of_ble_eq_true rfl, Nat.le_of_ble_eq_true rfl⟩) (by decide) ((fun _ => rfl) _) rfl rfl rfl rfl (Nat.le_of_ble_eq_true rfl) ⟨Nat.le_of_ble_eq_true rfl, Nat.le_of_ble_eq_true rfl⟩ dL_preview_7 ?_ ?_ ?_
  · intro x7 hx7
    refine lj_i2l C rfl dL_preview_10 ?_
    refine lj_last C rfl rfl dL_preview_11 ?_
    refine lj_goto C (tgt := 23) dL_preview_12 (by decide) ?_
    refine lj_iconst C (v := 0) (by decide) dL_preview_23 ?_
    exact lj_rb C (by decide) (by decide) dL_preview_24
  · intro q
    refine lj_astore C (lv2 := [some (.ref (ld_ad w 0)), some (.int a2), some (.int a3), some (.int a4), some (.ref (ld_ad w 86)), some (.ref q)]) (Nat.le_of_ble_eq_true rfl) rfl dL_preview_15 ?_
    refine lj_iconst C (v := 1) (by decide) dL_preview_17 ?_
    exact lj_rb C (by decide) (by decide) dL_preview_18
  · intro q
    refine lj_astore C (lv2 := [some (.ref (ld_ad w 0)), some (.int a2), some (.int a3), some (.int a4), some (.ref (ld_ad w 86)), some (.ref q)]) (Nat.le_of_ble_eq_true rfl) rfl dL_preview_19 ?_
    refine lj_iconst C (v := 2) (by decide) dL_preview_21 ?_
    exact lj_rb C (by decide) (by decide) dL_preview_22
theorem inL_touched_0 : ∀ q ∈ u_ws RX0 TX0 9, q ∈ wsL_touched := fun _ h => List.mem_cons_of_mem _ (List.mem_append_left _ (List.mem_append_left _ (List.mem_append_right _ h)))
theorem inL_touched_2 : ∀ q ∈ u_ws RX2 TX2 4, q ∈ wsL_touched := fun _ h => List.mem_cons_of_mem _ (List.mem_append_left _ (List.mem_append_left _ (List.mem_append_left _ (List.mem_append_right _ h))))
theorem inL_touched_3 : ∀ q ∈ u_ws RX3 TX3 7, q ∈ wsL_touched := fun _ h => List.mem_cons_of_mem _ (List.mem_append_left _ (List.mem_append_left _ (List.mem_append_left _ (List.mem_append_left _ (List.mem_append_right _ h)))))
def kL_touched (Z : ld_M) (a2 : Int32) (a3 : Int32) (a4 : Int32) (a5 : Int32) : Option (Int32 × ld_M) := ld_bh (kX3_touched Z a2 a3 a4 a5) (fun x9 => ld_ck (ld_g 0 1) (some (0, (ld_up Z 86 (0 : Int32).toNatClampNeg x9)))) (fun e9 => if e9 = 2 then (some (1, Z)) else if e9 = 0 then (some (2, Z)) else none)
set_option maxHeartbeats 4000000 in
set_option maxRecDepth 100000 in
theorem zL_touched (l : Launch) (hfl : l.stackTraces = false) (w : ld_E) (Z : ld_M) (a2 : Int32) (a3 : Int32) (a4 : Int32) (a5 : Int32)  {r : Int32 × ld_M} (hr : kL_touched Z a2 a3 a4 a5 = some r) (sz : Nat) : Met l yL_touched wsL_touched ({ frames := 8, cells := 3, slots := 18, locals := 136 }) (ld_Pc w Z sz [.ref (ld_ad w 0), .int a2, .int a3, .int a4, .int a5, .ref (ld_ad w 86)]) (ld_Q w r.2 sz (some (.int r.1))) 3 18 (ld_A w sz) := by
  refine ld_ofH (ws := wsL_touched) (Qc := fun sz9 => ld_Q w r.2 sz9 (some (.int r.1))) RL (by decide +kernel) rfl rfl (by simp [Value.category]) (Nat.le_of_ble_eq_true rfl) sz ?_
  intro p e s m args below meth c C htb
  revert hr
  show ld_T p l e ({ frames := 8, cells := 3, slots := 18, locals := 136 }) s m args below meth c (MQ below (ld_Q w r.2 s.heap.size (some (.int r.1))) args s 3 18 (ld_A w s.heap.size)) w r (kL_touched Z a2 a3 a4 a5) Z 0 0 0 [some (.ref (ld_ad w 0)), some (.int a2), some (.int a3), some (.int a4), some (.int a5), some (.ref (ld_ad w 86)), none] []
  unfold kL_touched
  refine lj_aload C rfl dL_touched_0 ?_
  refine lj_iconst C (v := 0) (by decide) dL_touched_2 ?_
  refine lj_aload_n C rfl rfl dL_touched_3 ?_
  refine lj_iload_n C rfl rfl dL_touched_4 ?_
  refine lj_iload_n C rfl rfl dL_touched_5 ?_
  refine lj_iload_n C rfl rfl dL_touched_6 ?_
  refine lj_iload C rfl dL_touched_7 ?_
  refine lj_h21 C (As := [.int a2, .int a3, .int a4, .int a5]) (rest := [.int 0, .ref (ld_ad w 86)]) (i := 0) (ci := 3) (Cn := RX3) (Tb := TX3) (N := 7) (fs := (ld_f3 w) (Z 0)) (p0 := 0) (p1 := 14) (e1 := 2) (hp1 := 17) (nm1 := 21) (e2 := 0) (hp2 := 21) (nm2 := 13) htb (by decide) (List.mem_of_getElem? (i := 1) rfl) (by decide) (by decide) (List.mem_of_getElem? (i := 2) rfl) (by decide) (by decide) (fun sz x hx => zX3_touched l hfl w Z a2 a3 a4 a5 hx sz) (cwV 4 C.2.2.2.2.1 gL_touched_X3_touched rfl rfl rfl (by decide +kernel) ⟨Nat.le_of_ble_eq_true rfl, Nat.le_of_ble_eq_true rfl⟩) (by decide) ((fun _ => rfl) _) rfl rfl rfl rfl (Nat.le_of_ble_eq_true rfl) ⟨Nat.le_of_ble_eq_true rfl, Nat.le_of_ble_eq_true rfl⟩ dL_touched_9 ?_ ?_ ?_
  · intro x9 hx9
    refine lj_i2l C rfl dL_touched_12 ?_
    refine lj_last C rfl rfl dL_touched_13 ?_
    refine lj_goto C (tgt := 25) dL_touched_14 (by decide) ?_
    refine lj_iconst C (v := 0) (by decide) dL_touched_25 ?_
    exact lj_rb C (by decide) (by decide) dL_touched_26
  · intro q
    refine lj_astore C (lv2 := [some (.ref (ld_ad w 0)), some (.int a2), some (.int a3), some (.int a4), some (.int a5), some (.ref (ld_ad w 86)), some (.ref q)]) (Nat.le_of_ble_eq_true rfl) rfl dL_touched_17 ?_
    refine lj_iconst C (v := 1) (by decide) dL_touched_19 ?_
    exact lj_rb C (by decide) (by decide) dL_touched_20
  · intro q
    refine lj_astore C (lv2 := [some (.ref (ld_ad w 0)), some (.int a2), some (.int a3), some (.int a4), some (.int a5), some (.ref (ld_ad w 86)), some (.ref q)]) (Nat.le_of_ble_eq_true rfl) rfl dL_touched_21 ?_
    refine lj_iconst C (v := 2) (by decide) dL_touched_23 ?_
    exact lj_rb C (by decide) (by decide) dL_touched_24
