theorem inX3_addLamp_2 : ∀ q ∈ u_ws RX2 TX2 4, q ∈ wsX3_addLamp := fun _ h => List.mem_cons_of_mem _ (List.mem_append_left _ (List.mem_append_left _ (List.mem_append_right _ h)))
theorem inX3_addLamp_3 : ∀ q ∈ u_ws RX3 TX3 7, q ∈ wsX3_addLamp := fun _ h => List.mem_cons_of_mem _ (List.mem_append_left _ (List.mem_append_left _ (List.mem_append_left _ (List.mem_append_right _ h))))
def kX3_addLamp (Z : ld_M) (a1 : Int32) (a2 : Int32) : Option (Int32 × ld_M ⊕ Nat) := ld_bx (kX3_needLampKind Z a1 a2) (fun x2 => ld_bd (kX2_isFull Z) (fun x9 => if (x9 : Int32) = 0 then (ld_bd (kX2_add Z a1 a2) (fun x31 => some (.inl (x31.1, x31.2)))) else (some (.inr 1))))
set_option maxHeartbeats 4000000 in
set_option maxRecDepth 100000 in
theorem zX3_addLamp (l : Launch) (hfl : l.stackTraces = false) (w : ld_E) (Z : ld_M) (a1 : Int32) (a2 : Int32)  {r : (Int32 × ld_M) ⊕ Nat} (hr : kX3_addLamp Z a1 a2 = some r) (sz : Nat) : vx_Met l yX3_addLamp wsX3_addLamp ({ frames := 7, cells := 2, slots := 12, locals := 111 }) (ld_Pc w Z sz [.ref (ld_ad w 0), .int a1, .int a2]) (ld_Q3 w Z sz r) (ld_XC w Z sz r) 2 12 (ld_A w sz) := by
  refine ld_ofX (ws := wsX3_addLamp) (Qc := fun sz9 => ld_Q3 w Z sz9 r) (XC := fun sz9 => ld_XC w Z sz9 r) RX3 (by decide +kernel) rfl rfl (by simp [Value.category]) (Nat.le_of_ble_eq_true rfl) sz ?_
  intro p e s m args below meth c C htb
  revert hr
  show ld_T p l e ({ frames := 7, cells := 2, slots := 12, locals := 111 }) s m args below meth c (vx_MQ below (ld_Q3 w Z s.heap.size r) (ld_XC w Z s.heap.size r) args s 2 12 (ld_A w s.heap.size)) w r (kX3_addLamp Z a1 a2) Z 0 0 0 [some (.ref (ld_ad w 0)), some (.int a1), some (.int a2)] []
  unfold kX3_addLamp
  refine lj_iload_n C rfl rfl dX3_addLamp_0 ?_
  refine lj_iload_n C rfl rfl dX3_addLamp_1 ?_
  refine lj_xS0 C htb (As := [.int a1, .int a2]) (rest := []) (fun sz x hx => zX3_needLampKind l hfl w Z a1 a2 hx sz) (va_cwS 2 C.2.2.2.2.1 gX3_addLamp_X3_needLampKind rfl rfl rfl (by decide +kernel) ⟨Nat.le_of_ble_eq_true rfl, Nat.le_of_ble_eq_true rfl⟩) rfl rfl rfl (Nat.le_of_ble_eq_true rfl) ⟨Nat.le_of_ble_eq_true rfl, Nat.le_of_ble_eq_true rfl⟩ (by decide) (by decide) dX3_addLamp_2 (fun x2 hx2 => ?_)
  refine lj_aload_n C rfl rfl dX3_addLamp_5 ?_
  refine lj_get C (i := 0) (kk := 0) (G := (ld_f3 w)) (v := .ref (ld_ad w 3)) (Tb := TX3) (N := 7) (by decide) (fun _ => rfl) rfl inX3_addLamp_3 (by decide) (List.mem_of_getElem? (i := 3) rfl) rfl rfl dX3_addLamp_6 ?_
  refine lj_cVa C (As := []) (rest := []) (i := 3) (ci := 2) (Cn := RX2) (Tb := TX2) (N := 4) (fs := (ld_f2 w) (Z 3)) (fun sz x hx => zX2_isFull l w Z  hx sz) (cwV 0 C.2.2.2.2.1 gX3_addLamp_X2_isFull rfl rfl rfl (by decide +kernel) ⟨Nat.le_of_ble_eq_true rfl, Nat.le_of_ble_eq_true rfl⟩) (by decide) ((fun _ => rfl) _) rfl rfl rfl rfl (Nat.le_of_ble_eq_true rfl) ⟨Nat.le_of_ble_eq_true rfl, Nat.le_of_ble_eq_true rfl⟩ dX3_addLamp_9 (fun x9 hx9 => ?_)
  refine lj_if_eq C (tgt := 25) dX3_addLamp_12 (by decide) ?_ ?_
  · refine lj_aload_n C rfl rfl dX3_addLamp_25 ?_
    refine lj_get C (i := 0) (kk := 0) (G := (ld_f3 w)) (v := .ref (ld_ad w 3)) (Tb := TX3) (N := 7) (by decide) (fun _ => rfl) rfl inX3_addLamp_3 (by decide) (List.mem_of_getElem? (i := 3) rfl) rfl rfl dX3_addLamp_26 ?_
    refine lj_iload_n C rfl rfl dX3_addLamp_29 ?_
    refine lj_iload_n C rfl rfl dX3_addLamp_30 ?_
    refine lj_cVb C (As := [.int a1, .int a2]) (rest := []) (i := 3) (ci := 2) (Cn := RX2) (Tb := TX2) (N := 4) (fs := (ld_f2 w) (Z 3)) (fun sz x hx => zX2_add l w Z a1 a2 hx sz) (cwV 2 C.2.2.2.2.1 gX3_addLamp_X2_add rfl rfl rfl (by decide +kernel) ⟨Nat.le_of_ble_eq_true rfl, Nat.le_of_ble_eq_true rfl⟩) (by decide) ((fun _ => rfl) _) rfl rfl rfl rfl (Nat.le_of_ble_eq_true rfl) ⟨Nat.le_of_ble_eq_true rfl, Nat.le_of_ble_eq_true rfl⟩ dX3_addLamp_31 (fun x31 hx31 => ?_)
    exact lj_t3 C (by decide) (by decide) dX3_addLamp_34
  · exact lj_throw1 C hfl htb (text := "there are 20 lamps") rfl (by decide) (List.mem_of_getElem? (i := 1) rfl) (List.mem_of_getElem? (i := 2) rfl) (fun _ h => List.mem_cons_of_mem _ (List.mem_append_left _ (List.mem_append_right _ h))) (Nat.le_of_ble_eq_true rfl) (Nat.le_of_ble_eq_true rfl) (Nat.le_of_ble_eq_true rfl) (Nat.le_of_ble_eq_true rfl) (by decide) (by decide) dX3_addLamp_15 dX3_addLamp_18 dX3_addLamp_19 dX3_addLamp_21 dX3_addLamp_24
theorem inX3_swap_1 : ∀ q ∈ u_ws RX1 TX1 3, q ∈ wsX3_swap := fun _ h => List.mem_cons_of_mem _ (List.mem_append_left _ (List.mem_append_left _ (List.mem_append_right _ h)))
theorem inX3_swap_2 : ∀ q ∈ u_ws RX2 TX2 4, q ∈ wsX3_swap := fun _ h => List.mem_cons_of_mem _ (List.mem_append_left _ (List.mem_append_left _ (List.mem_append_left _ (List.mem_append_right _ h))))
theorem inX3_swap_3 : ∀ q ∈ u_ws RX3 TX3 7, q ∈ wsX3_swap := fun _ h => List.mem_cons_of_mem _ (List.mem_append_left _ (List.mem_append_left _ (List.mem_append_left _ (List.mem_append_left _ (List.mem_append_right _ h)))))
def kX3_swap (Z : ld_M) (a1 : Int32) (a2 : Int32) (a3 : Int32) : Option (ld_M ⊕ Nat) := ld_bx (kX3_needLamp Z a1) (fun x2 => ld_bx (kX3_needLampKind Z a2 a3) (fun x7 => ld_bd (kX2_powerOf Z a1) (fun x21 => ld_bd (kX2_gelOf Z a1) (fun x29 => ld_bd (kX1_note Z 0 a1 x21 x29 0) (fun x33 => ld_bd (kX2_setKind x33 a1 a2 a3) (fun x43 => some (.inl x43)))))))
set_option maxHeartbeats 4000000 in
set_option maxRecDepth 100000 in
theorem zX3_swap (l : Launch) (hfl : l.stackTraces = false) (w : ld_E) (Z : ld_M) (a1 : Int32) (a2 : Int32) (a3 : Int32)  {r : ld_M ⊕ Nat} (hr : kX3_swap Z a1 a2 a3 = some r) (sz : Nat) : vx_Met l yX3_swap wsX3_swap ({ frames := 7, cells := 2, slots := 12, locals := 111 }) (ld_Pc w Z sz [.ref (ld_ad w 0), .int a1, .int a2, .int a3]) (ld_Q2 w Z sz r) (ld_XC w Z sz r) 2 12 (ld_A w sz) := by
  refine ld_ofX (ws := wsX3_swap) (Qc := fun sz9 => ld_Q2 w Z sz9 r) (XC := fun sz9 => ld_XC w Z sz9 r) RX3 (by decide +kernel) rfl rfl (by simp [Value.category]) (Nat.le_of_ble_eq_true rfl) sz ?_
  intro p e s m args below meth c C htb
  revert hr
  show ld_T p l e ({ frames := 7, cells := 2, slots := 12, locals := 111 }) s m args below meth c (vx_MQ below (ld_Q2 w Z s.heap.size r) (ld_XC w Z s.heap.size r) args s 2 12 (ld_A w s.heap.size)) w r (kX3_swap Z a1 a2 a3) Z 0 0 0 [some (.ref (ld_ad w 0)), some (.int a1), some (.int a2), some (.int a3)] []
  unfold kX3_swap
  refine lj_aload_n C rfl rfl dX3_swap_0 ?_
  refine lj_iload_n C rfl rfl dX3_swap_1 ?_
  refine lj_xV0 C htb (As := [.int a1]) (rest := []) (i := 0) (ci := 3) (Cn := RX3) (Tb := TX3) (N := 7) (fs := (ld_f3 w) (Z 0)) (fun sz x hx => zX3_needLamp l hfl w Z a1 hx sz) (cwV 1 C.2.2.2.2.1 gX3_swap_X3_needLamp rfl rfl rfl (by decide +kernel) ⟨Nat.le_of_ble_eq_true rfl, Nat.le_of_ble_eq_true rfl⟩) (by decide) ((fun _ => rfl) _) rfl rfl rfl rfl (Nat.le_of_ble_eq_true rfl) ⟨Nat.le_of_ble_eq_true rfl, Nat.le_of_ble_eq_true rfl⟩ (by decide) (by decide) dX3_swap_2 (fun x2 hx2 => ?_)
  refine lj_iload_n C rfl rfl dX3_swap_5 ?_
  refine lj_iload_n C rfl rfl dX3_swap_6 ?_
  refine lj_xS0 C htb (As := [.int a2, .int a3]) (rest := []) (fun sz x hx => zX3_needLampKind l hfl w Z a2 a3 hx sz) (va_cwS 2 C.2.2.2.2.1 gX3_swap_X3_needLampKind rfl rfl rfl (by decide +kernel) ⟨Nat.le_of_ble_eq_true rfl, Nat.le_of_ble_eq_true rfl⟩) rfl rfl rfl (Nat.le_of_ble_eq_true rfl) ⟨Nat.le_of_ble_eq_true rfl, Nat.le_of_ble_eq_true rfl⟩ (by decide) (by decide) dX3_swap_7 (fun x7 hx7 => ?_)
  refine lj_aload_n C rfl rfl dX3_swap_10 ?_
  refine lj_get C (i := 0) (kk := 3) (G := (ld_f3 w)) (v := .ref (ld_ad w 45)) (Tb := TX3) (N := 7) (by decide) (fun _ => rfl) rfl inX3_swap_3 (by decide) (List.mem_of_getElem? (i := 1) rfl) rfl rfl dX3_swap_11 ?_
  refine lj_iconst C (v := 0) (by decide) dX3_swap_14 ?_
  refine lj_iload_n C rfl rfl dX3_swap_15 ?_
  refine lj_aload_n C rfl rfl dX3_swap_16 ?_
  refine lj_get C (i := 0) (kk := 0) (G := (ld_f3 w)) (v := .ref (ld_ad w 3)) (Tb := TX3) (N := 7) (by decide) (fun _ => rfl) rfl inX3_swap_3 (by decide) (List.mem_of_getElem? (i := 2) rfl) rfl rfl dX3_swap_17 ?_
  refine lj_iload_n C rfl rfl dX3_swap_20 ?_
  refine lj_cVa C (As := [.int a1]) (rest := [.int a1, .int 0, .ref (ld_ad w 45)]) (i := 3) (ci := 2) (Cn := RX2) (Tb := TX2) (N := 4) (fs := (ld_f2 w) (Z 3)) (fun sz x hx => zX2_powerOf l w Z a1 hx sz) (cwV 1 C.2.2.2.2.1 gX3_swap_X2_powerOf rfl rfl rfl (by decide +kernel) ⟨Nat.le_of_ble_eq_true rfl, Nat.le_of_ble_eq_true rfl⟩) (by decide) ((fun _ => rfl) _) rfl rfl rfl rfl (Nat.le_of_ble_eq_true rfl) ⟨Nat.le_of_ble_eq_true rfl, Nat.le_of_ble_eq_true rfl⟩ dX3_swap_21 (fun x21 hx21 => ?_)
  refine lj_aload_n C rfl rfl dX3_swap_24 ?_
  refine lj_get C (i := 0) (kk := 0) (G := (ld_f3 w)) (v := .ref (ld_ad w 3)) (Tb := TX3) (N := 7) (by decide) (fun _ => rfl) rfl inX3_swap_3 (by decide) (List.mem_of_getElem? (i := 2) rfl) rfl rfl dX3_swap_25 ?_
  refine lj_iload_n C rfl rfl dX3_swap_28 ?_
  refine lj_cVa C (As := [.int a1]) (rest := [.int x21, .int a1, .int 0, .ref (ld_ad w 45)]) (i := 3) (ci := 2) (Cn := RX2) (Tb := TX2) (N := 4) (fs := (ld_f2 w) (Z 3)) (fun sz x hx => zX2_gelOf l w Z a1 hx sz) (cwV 1 C.2.2.2.2.1 gX3_swap_X2_gelOf rfl rfl rfl (by decide +kernel) ⟨Nat.le_of_ble_eq_true rfl, Nat.le_of_ble_eq_true rfl⟩) (by decide) ((fun _ => rfl) _) rfl rfl rfl rfl (Nat.le_of_ble_eq_true rfl) ⟨Nat.le_of_ble_eq_true rfl, Nat.le_of_ble_eq_true rfl⟩ dX3_swap_29 (fun x29 hx29 => ?_)
  refine lj_iconst C (v := 0) (by decide) dX3_swap_32 ?_
  refine lj_cVv C (As := [.int 0, .int a1, .int x21, .int x29, .int 0]) (rest := []) (i := 45) (ci := 1) (Cn := RX1) (Tb := TX1) (N := 3) (fs := (ld_f1 w) (Z 45)) (fun sz x hx => zX1_note l w Z 0 a1 x21 x29 0 hx sz) (cwV 5 C.2.2.2.2.1 gX3_swap_X1_note rfl rfl rfl (by decide +kernel) ⟨Nat.le_of_ble_eq_true rfl, Nat.le_of_ble_eq_true rfl⟩) (by decide) ((fun _ => rfl) _) rfl rfl rfl rfl (Nat.le_of_ble_eq_true rfl) ⟨Nat.le_of_ble_eq_true rfl, Nat.le_of_ble_eq_true rfl⟩ dX3_swap_33 (fun x33 hx33 => ?_)
  refine lj_aload_n C rfl rfl dX3_swap_36 ?_
  refine lj_get C (i := 0) (kk := 0) (G := (ld_f3 w)) (v := .ref (ld_ad w 3)) (Tb := TX3) (N := 7) (by decide) (fun _ => rfl) rfl inX3_swap_3 (by decide) (List.mem_of_getElem? (i := 2) rfl) rfl rfl dX3_swap_37 ?_
  refine lj_iload_n C rfl rfl dX3_swap_40 ?_
  refine lj_iload_n C rfl rfl dX3_swap_41 ?_
  refine lj_iload_n C rfl rfl dX3_swap_42 ?_
  refine lj_cVv C (As := [.int a1, .int a2, .int a3]) (rest := []) (i := 3) (ci := 2) (Cn := RX2) (Tb := TX2) (N := 4) (fs := (ld_f2 w) (x33 3)) (fun sz x hx => zX2_setKind l w x33 a1 a2 a3 hx sz) (cwV 3 C.2.2.2.2.1 gX3_swap_X2_setKind rfl rfl rfl (by decide +kernel) ⟨Nat.le_of_ble_eq_true rfl, Nat.le_of_ble_eq_true rfl⟩) (by decide) ((fun _ => rfl) _) rfl rfl rfl rfl (Nat.le_of_ble_eq_true rfl) ⟨Nat.le_of_ble_eq_true rfl, Nat.le_of_ble_eq_true rfl⟩ dX3_swap_43 (fun x43 hx43 => ?_)
  exact lj_t2 C (by decide) (by decide) dX3_swap_46
theorem inX3_hang_1 : ∀ q ∈ u_ws RX1 TX1 3, q ∈ wsX3_hang := fun _ h => List.mem_cons_of_mem _ (List.mem_append_left _ (List.mem_append_left _ (List.mem_append_right _ h)))
theorem inX3_hang_2 : ∀ q ∈ u_ws RX2 TX2 4, q ∈ wsX3_hang := fun _ h => List.mem_cons_of_mem _ (List.mem_append_left _ (List.mem_append_left _ (List.mem_append_left _ (List.mem_append_right _ h))))
theorem inX3_hang_3 : ∀ q ∈ u_ws RX3 TX3 7, q ∈ wsX3_hang := fun _ h => List.mem_cons_of_mem _ (List.mem_append_left _ (List.mem_append_left _ (List.mem_append_left _ (List.mem_append_left _ (List.mem_append_right _ h)))))
def kX3_hang (Z : ld_M) (a1 : Int32) (a2 : Int32) (a3 : Int32) : Option (Int32 × ld_M ⊕ Nat) := ld_bx (kX3_needLamp Z a2) (fun x2 => ld_bx (kX3_needNight Z a1) (fun x6 => ld_bx (kX3_needChannelOrNone Z a3) (fun x10 => ld_bd (kX2_channelOf Z a1 a2) (fun x19 => ld_bd (kX1_note Z 1 a1 a2 x19 0) (fun x34 => ld_bd (kX2_setChannel x34 a1 a2 a3) (fun x44 => some (.inl (x19, x44))))))))
set_option maxHeartbeats 4000000 in
set_option maxRecDepth 100000 in
theorem zX3_hang (l : Launch) (hfl : l.stackTraces = false) (w : ld_E) (Z : ld_M) (a1 : Int32) (a2 : Int32) (a3 : Int32)  {r : (Int32 × ld_M) ⊕ Nat} (hr : kX3_hang Z a1 a2 a3 = some r) (sz : Nat) : vx_Met l yX3_hang wsX3_hang ({ frames := 8, cells := 3, slots := 18, locals := 130 }) (ld_Pc w Z sz [.ref (ld_ad w 0), .int a1, .int a2, .int a3]) (ld_Q3 w Z sz r) (ld_XC w Z sz r) 3 18 (ld_A w sz) := by
  refine ld_ofX (ws := wsX3_hang) (Qc := fun sz9 => ld_Q3 w Z sz9 r) (XC := fun sz9 => ld_XC w Z sz9 r) RX3 (by decide +kernel) rfl rfl (by simp [Value.category]) (Nat.le_of_ble_eq_true rfl) sz ?_
  intro p e s m args below meth c C htb
  revert hr
  show ld_T p l e ({ frames := 8, cells := 3, slots := 18, locals := 130 }) s m args below meth c (vx_MQ below (ld_Q3 w Z s.heap.size r) (ld_XC w Z s.heap.size r) args s 3 18 (ld_A w s.heap.size)) w r (kX3_hang Z a1 a2 a3) Z 0 0 0 [some (.ref (ld_ad w 0)), some (.int a1), some (.int a2), some (.int a3), none] []
  unfold kX3_hang
  refine lj_aload_n C rfl rfl dX3_hang_0 ?_
  refine lj_iload_n C rfl rfl dX3_hang_1 ?_
  refine lj_xV0 C htb (As := [.int a2]) (rest := []) (i := 0) (ci := 3) (Cn := RX3) (Tb := TX3) (N := 7) (fs := (ld_f3 w) (Z 0)) (fun sz x hx => zX3_needLamp l hfl w Z a2 hx sz) (cwV 1 C.2.2.2.2.1 gX3_hang_X3_needLamp rfl rfl rfl (by decide +kernel) ⟨Nat.le_of_ble_eq_true rfl, Nat.le_of_ble_eq_true rfl⟩) (by decide) ((fun _ => rfl) _) rfl rfl rfl rfl (Nat.le_of_ble_eq_true rfl) ⟨Nat.le_of_ble_eq_true rfl, Nat.le_of_ble_eq_true rfl⟩ (by decide) (by decide) dX3_hang_2 (fun x2 hx2 => ?_)
  refine lj_iload_n C rfl rfl dX3_hang_5 ?_
  refine lj_xS0 C htb (As := [.int a1]) (rest := []) (fun sz x hx => zX3_needNight l hfl w Z a1 hx sz) (va_cwS 1 C.2.2.2.2.1 gX3_hang_X3_needNight rfl rfl rfl (by decide +kernel) ⟨Nat.le_of_ble_eq_true rfl, Nat.le_of_ble_eq_true rfl⟩) rfl rfl rfl (Nat.le_of_ble_eq_true rfl) ⟨Nat.le_of_ble_eq_true rfl, Nat.le_of_ble_eq_true rfl⟩ (by decide) (by decide) dX3_hang_6 (fun x6 hx6 => ?_)
  refine lj_iload_n C rfl rfl dX3_hang_9 ?_
  refine lj_xS0 C htb (As := [.int a3]) (rest := []) (fun sz x hx => zX3_needChannelOrNone l hfl w Z a3 hx sz) (va_cwS 1 C.2.2.2.2.1 gX3_hang_X3_needChannelOrNone rfl rfl rfl (by decide +kernel) ⟨Nat.le_of_ble_eq_true rfl, Nat.le_of_ble_eq_true rfl⟩) rfl rfl rfl (Nat.le_of_ble_eq_true rfl) ⟨Nat.le_of_ble_eq_true rfl, Nat.le_of_ble_eq_true rfl⟩ (by decide) (by decide) dX3_hang_10 (fun x10 hx10 => ?_)
  refine lj_aload_n C rfl rfl dX3_hang_13 ?_
  refine lj_get C (i := 0) (kk := 0) (G := (ld_f3 w)) (v := .ref (ld_ad w 3)) (Tb := TX3) (N := 7) (by decide) (fun _ => rfl) rfl inX3_hang_3 (by decide) (List.mem_of_getElem? (i := 1) rfl) rfl rfl dX3_hang_14 ?_
  refine lj_iload_n C rfl rfl dX3_hang_17 ?_
  refine lj_iload_n C rfl rfl dX3_hang_18 ?_
  refine lj_cVa C (As := [.int a1, .int a2]) (rest := []) (i := 3) (ci := 2) (Cn := RX2) (Tb := TX2) (N := 4) (fs := (ld_f2 w) (Z 3)) (fun sz x hx => zX2_channelOf l w Z a1 a2 hx sz) (cwV 2 C.2.2.2.2.1 gX3_hang_X2_channelOf rfl rfl rfl (by decide +kernel) ⟨Nat.le_of_ble_eq_true rfl, Nat.le_of_ble_eq_true rfl⟩) (by decide) ((fun _ => rfl) _) rfl rfl rfl rfl (Nat.le_of_ble_eq_true rfl) ⟨Nat.le_of_ble_eq_true rfl, Nat.le_of_ble_eq_true rfl⟩ dX3_hang_19 (fun x19 hx19 => ?_)
  refine lj_istore C (lv2 := [some (.ref (ld_ad w 0)), some (.int a1), some (.int a2), some (.int a3), some (.int x19)]) (Nat.le_of_ble_eq_true rfl) rfl dX3_hang_22 ?_
  refine lj_aload_n C rfl rfl dX3_hang_24 ?_
  refine lj_get C (i := 0) (kk := 3) (G := (ld_f3 w)) (v := .ref (ld_ad w 45)) (Tb := TX3) (N := 7) (by decide) (fun _ => rfl) rfl inX3_hang_3 (by decide) (List.mem_of_getElem? (i := 2) rfl) rfl rfl dX3_hang_25 ?_
  refine lj_iconst C (v := 1) (by decide) dX3_hang_28 ?_
  refine lj_iload_n C rfl rfl dX3_hang_29 ?_
  refine lj_iload_n C rfl rfl dX3_hang_30 ?_
  refine lj_iload C rfl dX3_hang_31 ?_
  refine lj_iconst C (v := 0) (by decide) dX3_hang_33 ?_
  refine lj_cVv C (As := [.int 1, .int a1, .int a2, .int x19, .int 0]) (rest := []) (i := 45) (ci := 1) (Cn := RX1) (Tb := TX1) (N := 3) (fs := (ld_f1 w) (Z 45)) (fun sz x hx => zX1_note l w Z 1 a1 a2 x19 0 hx sz) (cwV 5 C.2.2.2.2.1 gX3_hang_X1_note rfl rfl rfl (by decide +kernel) ⟨Nat.le_of_ble_eq_true rfl, Nat.le_of_ble_eq_true rfl⟩) (by decide) ((fun _ => rfl) _) rfl rfl rfl rfl (Nat.le_of_ble_eq_true rfl) ⟨Nat.le_of_ble_eq_true rfl, Nat.le_of_ble_eq_true rfl⟩ dX3_hang_34 (fun x34 hx34 => ?_)
  refine lj_aload_n C rfl rfl dX3_hang_37 ?_
  refine lj_get C (i := 0) (kk := 0) (G := (ld_f3 w)) (v := .ref (ld_ad w 3)) (Tb := TX3) (N := 7) (by decide) (fun _ => rfl) rfl inX3_hang_3 (by decide) (List.mem_of_getElem? (i := 1) rfl) rfl rfl dX3_hang_38 ?_
  refine lj_iload_n C rfl rfl dX3_hang_41 ?_
  refine lj_iload_n C rfl rfl dX3_hang_42 ?_
  refine lj_iload_n C rfl rfl dX3_hang_43 ?_
  refine lj_cVv C (As := [.int a1, .int a2, .int a3]) (rest := []) (i := 3) (ci := 2) (Cn := RX2) (Tb := TX2) (N := 4) (fs := (ld_f2 w) (x34 3)) (fun sz x hx => zX2_setChannel l w x34 a1 a2 a3 hx sz) (cwV 3 C.2.2.2.2.1 gX3_hang_X2_setChannel rfl rfl rfl (by decide +kernel) ⟨Nat.le_of_ble_eq_true rfl, Nat.le_of_ble_eq_true rfl⟩) (by decide) ((fun _ => rfl) _) rfl rfl rfl rfl (Nat.le_of_ble_eq_true rfl) ⟨Nat.le_of_ble_eq_true rfl, Nat.le_of_ble_eq_true rfl⟩ dX3_hang_44 (fun x44 hx44 => ?_)
  refine lj_iload C rfl dX3_hang_47 ?_
  exact lj_t3 C (by decide) (by decide) dX3_hang_49
theorem inX3_setNight_3 : ∀ q ∈ u_ws RX3 TX3 7, q ∈ wsX3_setNight := fun _ h => List.mem_cons_of_mem _ (List.mem_append_left _ (List.mem_append_right _ h))
def kX3_setNight (Z : ld_M) (a1 : Int32) : Option (Int32 × ld_M ⊕ Nat) := ld_bx (kX3_needNight Z a1) (fun x1 => some (.inl ((Z 0 6), (ld_up Z 0 6 a1))))
set_option maxHeartbeats 4000000 in
set_option maxRecDepth 100000 in
theorem zX3_setNight (l : Launch) (hfl : l.stackTraces = false) (w : ld_E) (Z : ld_M) (a1 : Int32)  {r : (Int32 × ld_M) ⊕ Nat} (hr : kX3_setNight Z a1 = some r) (sz : Nat) : vx_Met l yX3_setNight wsX3_setNight ({ frames := 7, cells := 1, slots := 6, locals := 110 }) (ld_Pc w Z sz [.ref (ld_ad w 0), .int a1]) (ld_Q3 w Z sz r) (ld_XC w Z sz r) 1 6 (ld_A w sz) := by
  refine ld_ofX (ws := wsX3_setNight) (Qc := fun sz9 => ld_Q3 w Z sz9 r) (XC := fun sz9 => ld_XC w Z sz9 r) RX3 (by decide +kernel) rfl rfl (by simp [Value.category]) (Nat.le_of_ble_eq_true rfl) sz ?_
  intro p e s m args below meth c C htb
  revert hr
  show ld_T p l e ({ frames := 7, cells := 1, slots := 6, locals := 110 }) s m args below meth c (vx_MQ below (ld_Q3 w Z s.heap.size r) (ld_XC w Z s.heap.size r) args s 1 6 (ld_A w s.heap.size)) w r (kX3_setNight Z a1) Z 0 0 0 [some (.ref (ld_ad w 0)), some (.int a1), none] []
  unfold kX3_setNight
  refine lj_iload_n C rfl rfl dX3_setNight_0 ?_
  refine lj_xS0 C htb (As := [.int a1]) (rest := []) (fun sz x hx => zX3_needNight l hfl w Z a1 hx sz) (va_cwS 1 C.2.2.2.2.1 gX3_setNight_X3_needNight rfl rfl rfl (by decide +kernel) ⟨Nat.le_of_ble_eq_true rfl, Nat.le_of_ble_eq_true rfl⟩) rfl rfl rfl (Nat.le_of_ble_eq_true rfl) ⟨Nat.le_of_ble_eq_true rfl, Nat.le_of_ble_eq_true rfl⟩ (by decide) (by decide) dX3_setNight_1 (fun x1 hx1 => ?_)
  refine lj_aload_n C rfl rfl dX3_setNight_4 ?_
  refine lj_get C (i := 0) (kk := 6) (G := (ld_f3 w)) (v := .int (Z 0 6)) (Tb := TX3) (N := 7) (by decide) (fun _ => rfl) rfl inX3_setNight_3 (by decide) (List.mem_of_getElem? (i := 1) rfl) rfl rfl dX3_setNight_5 ?_
  refine lj_istore_n C rfl (lv2 := [some (.ref (ld_ad w 0)), some (.int a1), some (.int (Z 0 6))]) (Nat.le_of_ble_eq_true rfl) rfl dX3_setNight_8 ?_
  refine lj_aload_n C rfl rfl dX3_setNight_9 ?_
  refine lj_iload_n C rfl rfl dX3_setNight_10 ?_
  refine lj_put C (i := 0) (kk := 6) (G := (ld_f3 w)) (Tb := TX3) (N := 7) (by decide) (fun _ => rfl) rfl inX3_setNight_3 (by decide) (List.mem_of_getElem? (i := 1) rfl) rfl tyX3 tyX3_ok nmX3 rfl (by decide +kernel) (Nat.le_of_ble_eq_true rfl) rfl dX3_setNight_11 ?_
  refine lj_iload_n C rfl rfl dX3_setNight_14 ?_
  exact lj_t3 C (by decide) (by decide) dX3_setNight_15
theorem inX3_setLatest_3 : ∀ q ∈ u_ws RX3 TX3 7, q ∈ wsX3_setLatest := fun _ h => List.mem_cons_of_mem _ (List.mem_append_left _ (List.mem_append_right _ h))
def kX3_setLatest (Z : ld_M) (a1 : Int32) (a2 : Int32) : Option (Int32 × ld_M ⊕ Nat) := ld_bx (kX3_needChannel Z a1) (fun x1 => ld_ck (ld_g a1 12) (ld_ck (ld_g a1 12 && ld_b a2) (ld_ck (ld_b (Z 1 a1.toNatClampNeg)) (some (.inl ((Z 1 a1.toNatClampNeg), (ld_up Z 1 a1.toNatClampNeg a2)))))))
set_option maxHeartbeats 4000000 in
set_option maxRecDepth 100000 in
theorem zX3_setLatest (l : Launch) (hfl : l.stackTraces = false) (w : ld_E) (Z : ld_M) (a1 : Int32) (a2 : Int32)  {r : (Int32 × ld_M) ⊕ Nat} (hr : kX3_setLatest Z a1 a2 = some r) (sz : Nat) : vx_Met l yX3_setLatest wsX3_setLatest ({ frames := 7, cells := 1, slots := 6, locals := 110 }) (ld_Pc w Z sz [.ref (ld_ad w 0), .int a1, .int a2]) (ld_Q3 w Z sz r) (ld_XC w Z sz r) 1 6 (ld_A w sz) := by
  refine ld_ofX (ws := wsX3_setLatest) (Qc := fun sz9 => ld_Q3 w Z sz9 r) (XC := fun sz9 => ld_XC w Z sz9 r) RX3 (by decide +kernel) rfl rfl (by simp [Value.category]) (Nat.le_of_ble_eq_true rfl) sz ?_
  intro p e s m args below meth c C htb
  revert hr
  show ld_T p l e ({ frames := 7, cells := 1, slots := 6, locals := 110 }) s m args below meth c (vx_MQ below (ld_Q3 w Z s.heap.size r) (ld_XC w Z s.heap.size r) args s 1 6 (ld_A w s.heap.size)) w r (kX3_setLatest Z a1 a2) Z 0 0 0 [some (.ref (ld_ad w 0)), some (.int a1), some (.int a2), none] []
  unfold kX3_setLatest
  refine lj_iload_n C rfl rfl dX3_setLatest_0 ?_
  refine lj_xS0 C htb (As := [.int a1]) (rest := []) (fun sz x hx => zX3_needChannel l hfl w Z a1 hx sz) (va_cwS 1 C.2.2.2.2.1 gX3_setLatest_X3_needChannel rfl rfl rfl (by decide +kernel) ⟨Nat.le_of_ble_eq_true rfl, Nat.le_of_ble_eq_true rfl⟩) rfl rfl rfl (Nat.le_of_ble_eq_true rfl) ⟨Nat.le_of_ble_eq_true rfl, Nat.le_of_ble_eq_true rfl⟩ (by decide) (by decide) dX3_setLatest_1 (fun x1 hx1 => ?_)
  refine lj_aload_n C rfl rfl dX3_setLatest_4 ?_
  refine lj_get C (i := 0) (kk := 4) (G := (ld_f3 w)) (v := .ref (ld_ad w 1)) (Tb := TX3) (N := 7) (by decide) (fun _ => rfl) rfl inX3_setLatest_3 (by decide) (List.mem_of_getElem? (i := 1) rfl) rfl rfl dX3_setLatest_5 ?_
  refine lj_iload_n C rfl rfl dX3_setLatest_8 ?_
  refine lj_zald C (n := 12) (by decide) (fun _ => rfl) dX3_setLatest_9 ?_
  refine lj_istore_n C rfl (lv2 := [some (.ref (ld_ad w 0)), some (.int a1), some (.int a2), some (.int (Z 1 a1.toNatClampNeg))]) (Nat.le_of_ble_eq_true rfl) rfl dX3_setLatest_10 ?_
  refine lj_aload_n C rfl rfl dX3_setLatest_11 ?_
  refine lj_get C (i := 0) (kk := 4) (G := (ld_f3 w)) (v := .ref (ld_ad w 1)) (Tb := TX3) (N := 7) (by decide) (fun _ => rfl) rfl inX3_setLatest_3 (by decide) (List.mem_of_getElem? (i := 1) rfl) rfl rfl dX3_setLatest_12 ?_
  refine lj_iload_n C rfl rfl dX3_setLatest_15 ?_
  refine lj_iload_n C rfl rfl dX3_setLatest_16 ?_
  refine lj_zast C (n := 12) (by decide) (fun _ => rfl) dX3_setLatest_17 ?_
  refine lj_iload_n C rfl rfl dX3_setLatest_18 ?_
  exact lj_t3_z C (by decide) (by decide) dX3_setLatest_19
theorem inX3_addCue_0 : ∀ q ∈ u_ws RX0 TX0 9, q ∈ wsX3_addCue := fun _ h => List.mem_cons_of_mem _ (List.mem_append_left _ (List.mem_append_left _ (List.mem_append_right _ h)))
theorem inX3_addCue_3 : ∀ q ∈ u_ws RX3 TX3 7, q ∈ wsX3_addCue := fun _ h => List.mem_cons_of_mem _ (List.mem_append_left _ (List.mem_append_left _ (List.mem_append_left _ (List.mem_append_right _ h))))
def kX3_addCue (Z : ld_M) (a1 : Int32) (a2 : Int32) (a3 : Int32) (a4 : Int32) : Option (Int32 × ld_M ⊕ Nat) := ld_bx (kX3_needList Z a1) (fun x1 => ld_bx (kX3_needTenths Z a2) (fun x5 => ld_bx (kX3_needTenths Z a3) (fun x9 => ld_bd (kX0_isFull Z (ld_cu a1)) (fun x21 => if (x21 : Int32) = 0 then (ld_bd (kX0_add Z (ld_cu a1) a2 a3 a4) (fun x43 => some (.inl (x43.1, x43.2)))) else (some (.inr 1))))))
set_option maxHeartbeats 4000000 in
set_option maxRecDepth 100000 in
theorem zX3_addCue (l : Launch) (hfl : l.stackTraces = false) (w : ld_E) (Z : ld_M) (a1 : Int32) (a2 : Int32) (a3 : Int32) (a4 : Int32)  {r : (Int32 × ld_M) ⊕ Nat} (hr : kX3_addCue Z a1 a2 a3 a4 = some r) (sz : Nat) : vx_Met l yX3_addCue wsX3_addCue ({ frames := 7, cells := 4, slots := 24, locals := 110 }) (ld_Pc w Z sz [.ref (ld_ad w 0), .int a1, .int a2, .int a3, .int a4]) (ld_Q3 w Z sz r) (ld_XC w Z sz r) 4 24 (ld_A w sz) := by
  refine ld_ofX (ws := wsX3_addCue) (Qc := fun sz9 => ld_Q3 w Z sz9 r) (XC := fun sz9 => ld_XC w Z sz9 r) RX3 (by decide +kernel) rfl rfl (by simp [Value.category]) (Nat.le_of_ble_eq_true rfl) sz ?_
  intro p e s m args below meth c C htb
  revert hr
  show ld_T p l e ({ frames := 7, cells := 4, slots := 24, locals := 110 }) s m args below meth c (vx_MQ below (ld_Q3 w Z s.heap.size r) (ld_XC w Z s.heap.size r) args s 4 24 (ld_A w s.heap.size)) w r (kX3_addCue Z a1 a2 a3 a4) Z 0 0 0 [some (.ref (ld_ad w 0)), some (.int a1), some (.int a2), some (.int a3), some (.int a4), none] []
  unfold kX3_addCue
  refine lj_iload_n C rfl rfl dX3_addCue_0 ?_
  refine lj_xS0 C htb (As := [.int a1]) (rest := []) (fun sz x hx => zX3_needList l hfl w Z a1 hx sz) (va_cwS 1 C.2.2.2.2.1 gX3_addCue_X3_needList rfl rfl rfl (by decide +kernel) ⟨Nat.le_of_ble_eq_true rfl, Nat.le_of_ble_eq_true rfl⟩) rfl rfl rfl (Nat.le_of_ble_eq_true rfl) ⟨Nat.le_of_ble_eq_true rfl, Nat.le_of_ble_eq_true rfl⟩ (by decide) (by decide) dX3_addCue_1 (fun x1 hx1 => ?_)
  refine lj_iload_n C rfl rfl dX3_addCue_4 ?_
  refine lj_xS0 C htb (As := [.int a2]) (rest := []) (fun sz x hx => zX3_needTenths l hfl w Z a2 hx sz) (va_cwS 1 C.2.2.2.2.1 gX3_addCue_X3_needTenths rfl rfl rfl (by decide +kernel) ⟨Nat.le_of_ble_eq_true rfl, Nat.le_of_ble_eq_true rfl⟩) rfl rfl rfl (Nat.le_of_ble_eq_true rfl) ⟨Nat.le_of_ble_eq_true rfl, Nat.le_of_ble_eq_true rfl⟩ (by decide) (by decide) dX3_addCue_5 (fun x5 hx5 => ?_)
  refine lj_iload_n C rfl rfl dX3_addCue_8 ?_
  refine lj_xS0 C htb (As := [.int a3]) (rest := []) (fun sz x hx => zX3_needTenths l hfl w Z a3 hx sz) (va_cwS 1 C.2.2.2.2.1 gX3_addCue_X3_needTenths rfl rfl rfl (by decide +kernel) ⟨Nat.le_of_ble_eq_true rfl, Nat.le_of_ble_eq_true rfl⟩) rfl rfl rfl (Nat.le_of_ble_eq_true rfl) ⟨Nat.le_of_ble_eq_true rfl, Nat.le_of_ble_eq_true rfl⟩ (by decide) (by decide) dX3_addCue_9 (fun x9 hx9 => ?_)
  refine lj_aload_n C rfl rfl dX3_addCue_12 ?_
  refine lj_iload_n C rfl rfl dX3_addCue_13 ?_
  refine lj_cu C (a := a1) (rest := []) (cwV 1 C.2.2.2.2.1 gX3_addCue_X3_cuesOf rfl rfl rfl (by decide +kernel) ⟨Nat.le_of_ble_eq_true rfl, Nat.le_of_ble_eq_true rfl⟩) rfl rfl (Nat.le_of_ble_eq_true rfl) ⟨Nat.le_of_ble_eq_true rfl, Nat.le_of_ble_eq_true rfl⟩ dX3_addCue_14 ?_
  refine lj_astore C (lv2 := [some (.ref (ld_ad w 0)), some (.int a1), some (.int a2), some (.int a3), some (.int a4), some (.ref (ld_ad w (ld_cu a1)))]) (Nat.le_of_ble_eq_true rfl) rfl dX3_addCue_17 ?_
  refine lj_aload C rfl dX3_addCue_19 ?_
  refine lj_cVa C (As := []) (rest := []) (i := (ld_cu a1)) (ci := 0) (Cn := RX0) (Tb := TX0) (N := 9) (fs := (ld_f0 w (ld_cu a1)) (Z (ld_cu a1))) (fun sz x hx => zX0_isFull l w Z (ld_cu a1) (ld_cu_q _) hx sz) (cwV 0 C.2.2.2.2.1 gX3_addCue_X0_isFull rfl rfl rfl (by decide +kernel) ⟨Nat.le_of_ble_eq_true rfl, Nat.le_of_ble_eq_true rfl⟩) (ld_q_lt0 (ld_cu_q _)) ((ld_q_cell (ld_cu_q _)) _) rfl rfl rfl rfl (Nat.le_of_ble_eq_true rfl) ⟨Nat.le_of_ble_eq_true rfl, Nat.le_of_ble_eq_true rfl⟩ dX3_addCue_21 (fun x21 hx21 => ?_)
  refine lj_if_eq C (tgt := 37) dX3_addCue_24 (by decide) ?_ ?_
  · refine lj_aload C rfl dX3_addCue_37 ?_
    refine lj_iload_n C rfl rfl dX3_addCue_39 ?_
    refine lj_iload_n C rfl rfl dX3_addCue_40 ?_
    refine lj_iload C rfl dX3_addCue_41 ?_
    refine lj_cVb C (As := [.int a2, .int a3, .int a4]) (rest := []) (i := (ld_cu a1)) (ci := 0) (Cn := RX0) (Tb := TX0) (N := 9) (fs := (ld_f0 w (ld_cu a1)) (Z (ld_cu a1))) (fun sz x hx => zX0_add l w Z (ld_cu a1) a2 a3 a4 (ld_cu_q _) hx sz) (cwV 3 C.2.2.2.2.1 gX3_addCue_X0_add rfl rfl rfl (by decide +kernel) ⟨Nat.le_of_ble_eq_true rfl, Nat.le_of_ble_eq_true rfl⟩) (ld_q_lt0 (ld_cu_q _)) ((ld_q_cell (ld_cu_q _)) _) rfl rfl rfl rfl (Nat.le_of_ble_eq_true rfl) ⟨Nat.le_of_ble_eq_true rfl, Nat.le_of_ble_eq_true rfl⟩ dX3_addCue_43 (fun x43 hx43 => ?_)
    exact lj_t3 C (by decide) (by decide) dX3_addCue_46
  · exact lj_throw1 C hfl htb (text := "the list has 10 cues") rfl (by decide) (List.mem_of_getElem? (i := 1) rfl) (List.mem_of_getElem? (i := 2) rfl) (fun _ h => List.mem_cons_of_mem _ (List.mem_append_left _ (List.mem_append_right _ h))) (Nat.le_of_ble_eq_true rfl) (Nat.le_of_ble_eq_true rfl) (Nat.le_of_ble_eq_true rfl) (Nat.le_of_ble_eq_true rfl) (by decide) (by decide) dX3_addCue_27 dX3_addCue_30 dX3_addCue_31 dX3_addCue_33 dX3_addCue_36
theorem inX3_setLevel_0 : ∀ q ∈ u_ws RX0 TX0 9, q ∈ wsX3_setLevel := fun _ h => List.mem_cons_of_mem _ (List.mem_append_left _ (List.mem_append_left _ (List.mem_append_left _ (List.mem_append_right _ h))))
theorem inX3_setLevel_1 : ∀ q ∈ u_ws RX1 TX1 3, q ∈ wsX3_setLevel := fun _ h => List.mem_cons_of_mem _ (List.mem_append_left _ (List.mem_append_left _ (List.mem_append_right _ h)))
theorem inX3_setLevel_3 : ∀ q ∈ u_ws RX3 TX3 7, q ∈ wsX3_setLevel := fun _ h => List.mem_cons_of_mem _ (List.mem_append_left _ (List.mem_append_left _ (List.mem_append_left _ (List.mem_append_left _ (List.mem_append_right _ h)))))
def kX3_setLevel (Z : ld_M) (a1 : Int32) (a2 : Int32) (a3 : Int32) (a4 : Int32) : Option (Int32 × ld_M ⊕ Nat) := ld_bx (kX3_needList Z a1) (fun x1 => ld_bx (kX3_needChannel Z a3) (fun x5 => ld_bx (kX3_needLevelOrNone Z a4) (fun x10 => ld_bx (kX3_needCue Z a1 a2) (fun x16 => ld_bd (kX0_told Z (ld_cu a1) a2 a3) (fun x30 => ld_bd (kX1_note Z 2 a1 a2 a3 x30) (fun x45 => ld_bd (kX0_tell x45 (ld_cu a1) a2 a3 a4) (fun x54 => some (.inl (x30, x54)))))))))
set_option maxHeartbeats 4000000 in
set_option maxRecDepth 100000 in
theorem zX3_setLevel (l : Launch) (hfl : l.stackTraces = false) (w : ld_E) (Z : ld_M) (a1 : Int32) (a2 : Int32) (a3 : Int32) (a4 : Int32)  {r : (Int32 × ld_M) ⊕ Nat} (hr : kX3_setLevel Z a1 a2 a3 a4 = some r) (sz : Nat) : vx_Met l yX3_setLevel wsX3_setLevel ({ frames := 7, cells := 4, slots := 24, locals := 112 }) (ld_Pc w Z sz [.ref (ld_ad w 0), .int a1, .int a2, .int a3, .int a4]) (ld_Q3 w Z sz r) (ld_XC w Z sz r) 4 24 (ld_A w sz) := by
  refine ld_ofX (ws := wsX3_setLevel) (Qc := fun sz9 => ld_Q3 w Z sz9 r) (XC := fun sz9 => ld_XC w Z sz9 r) RX3 (by decide +kernel) rfl rfl (by simp [Value.category]) (Nat.le_of_ble_eq_true rfl) sz ?_
  intro p e s m args below meth c C htb
  revert hr
  show ld_T p l e ({ frames := 7, cells := 4, slots := 24, locals := 112 }) s m args below meth c (vx_MQ below (ld_Q3 w Z s.heap.size r) (ld_XC w Z s.heap.size r) args s 4 24 (ld_A w s.heap.size)) w r (kX3_setLevel Z a1 a2 a3 a4) Z 0 0 0 [some (.ref (ld_ad w 0)), some (.int a1), some (.int a2), some (.int a3), some (.int a4), none, none] []
  unfold kX3_setLevel
  refine lj_iload_n C rfl rfl dX3_setLevel_0 ?_
  refine lj_xS0 C htb (As := [.int a1]) (rest := []) (fun sz x hx => zX3_needList l hfl w Z a1 hx sz) (va_cwS 1 C.2.2.2.2.1 gX3_setLevel_X3_needList rfl rfl rfl (by decide +kernel) ⟨Nat.le_of_ble_eq_true rfl, Nat.le_of_ble_eq_true rfl⟩) rfl rfl rfl (Nat.le_of_ble_eq_true rfl) ⟨Nat.le_of_ble_eq_true rfl, Nat.le_of_ble_eq_true rfl⟩ (by decide) (by decide) dX3_setLevel_1 (fun x1 hx1 => ?_)
  refine lj_iload_n C rfl rfl dX3_setLevel_4 ?_
  refine lj_xS0 C htb (As := [.int a3]) (rest := []) (fun sz x hx => zX3_needChannel l hfl w Z a3 hx sz) (va_cwS 1 C.2.2.2.2.1 gX3_setLevel_X3_needChannel rfl rfl rfl (by decide +kernel) ⟨Nat.le_of_ble_eq_true rfl, Nat.le_of_ble_eq_true rfl⟩) rfl rfl rfl (Nat.le_of_ble_eq_true rfl) ⟨Nat.le_of_ble_eq_true rfl, Nat.le_of_ble_eq_true rfl⟩ (by decide) (by decide) dX3_setLevel_5 (fun x5 hx5 => ?_)
  refine lj_iload C rfl dX3_setLevel_8 ?_
  refine lj_xS0 C htb (As := [.int a4]) (rest := []) (fun sz x hx => zX3_needLevelOrNone l hfl w Z a4 hx sz) (va_cwS 1 C.2.2.2.2.1 gX3_setLevel_X3_needLevelOrNone rfl rfl rfl (by decide +kernel) ⟨Nat.le_of_ble_eq_true rfl, Nat.le_of_ble_eq_true rfl⟩) rfl rfl rfl (Nat.le_of_ble_eq_true rfl) ⟨Nat.le_of_ble_eq_true rfl, Nat.le_of_ble_eq_true rfl⟩ (by decide) (by decide) dX3_setLevel_10 (fun x10 hx10 => ?_)
  refine lj_aload_n C rfl rfl dX3_setLevel_13 ?_
  refine lj_iload_n C rfl rfl dX3_setLevel_14 ?_
  refine lj_iload_n C rfl rfl dX3_setLevel_15 ?_
  refine lj_xV0 C htb (As := [.int a1, .int a2]) (rest := []) (i := 0) (ci := 3) (Cn := RX3) (Tb := TX3) (N := 7) (fs := (ld_f3 w) (Z 0)) (fun sz x hx => zX3_needCue l hfl w Z a1 a2 hx sz) (cwV 2 C.2.2.2.2.1 gX3_setLevel_X3_needCue rfl rfl rfl (by decide +kernel) ⟨Nat.le_of_ble_eq_true rfl, Nat.le_of_ble_eq_true rfl⟩) (by decide) ((fun _ => rfl) _) rfl rfl rfl rfl (Nat.le_of_ble_eq_true rfl) ⟨Nat.le_of_ble_eq_true rfl, Nat.le_of_ble_eq_true rfl⟩ (by decide) (by decide) dX3_setLevel_16 (fun x16 hx16 => ?_)
  refine lj_aload_n C rfl rfl dX3_setLevel_19 ?_
  refine lj_iload_n C rfl rfl dX3_setLevel_20 ?_
  refine lj_cu C (a := a1) (rest := []) (cwV 1 C.2.2.2.2.1 gX3_setLevel_X3_cuesOf rfl rfl rfl (by decide +kernel) ⟨Nat.le_of_ble_eq_true rfl, Nat.le_of_ble_eq_true rfl⟩) rfl rfl (Nat.le_of_ble_eq_true rfl) ⟨Nat.le_of_ble_eq_true rfl, Nat.le_of_ble_eq_true rfl⟩ dX3_setLevel_21 ?_
  refine lj_astore C (lv2 := [some (.ref (ld_ad w 0)), some (.int a1), some (.int a2), some (.int a3), some (.int a4), some (.ref (ld_ad w (ld_cu a1))), none]) (Nat.le_of_ble_eq_true rfl) rfl dX3_setLevel_24 ?_
  refine lj_aload C rfl dX3_setLevel_26 ?_
  refine lj_iload_n C rfl rfl dX3_setLevel_28 ?_
  refine lj_iload_n C rfl rfl dX3_setLevel_29 ?_
  refine lj_cVa C (As := [.int a2, .int a3]) (rest := []) (i := (ld_cu a1)) (ci := 0) (Cn := RX0) (Tb := TX0) (N := 9) (fs := (ld_f0 w (ld_cu a1)) (Z (ld_cu a1))) (fun sz x hx => zX0_told l w Z (ld_cu a1) a2 a3 (ld_cu_q _) hx sz) (cwV 2 C.2.2.2.2.1 gX3_setLevel_X0_told rfl rfl rfl (by decide +kernel) ⟨Nat.le_of_ble_eq_true rfl, Nat.le_of_ble_eq_true rfl⟩) (ld_q_lt0 (ld_cu_q _)) ((ld_q_cell (ld_cu_q _)) _) rfl rfl rfl rfl (Nat.le_of_ble_eq_true rfl) ⟨Nat.le_of_ble_eq_true rfl, Nat.le_of_ble_eq_true rfl⟩ dX3_setLevel_30 (fun x30 hx30 => ?_)
  refine lj_istore C (lv2 := [some (.ref (ld_ad w 0)), some (.int a1), some (.int a2), some (.int a3), some (.int a4), some (.ref (ld_ad w (ld_cu a1))), some (.int x30)]) (Nat.le_of_ble_eq_true rfl) rfl dX3_setLevel_33 ?_
  refine lj_aload_n C rfl rfl dX3_setLevel_35 ?_
  refine lj_get C (i := 0) (kk := 3) (G := (ld_f3 w)) (v := .ref (ld_ad w 45)) (Tb := TX3) (N := 7) (by decide) (fun _ => rfl) rfl inX3_setLevel_3 (by decide) (List.mem_of_getElem? (i := 1) rfl) rfl rfl dX3_setLevel_36 ?_
  refine lj_iconst C (v := 2) (by decide) dX3_setLevel_39 ?_
  refine lj_iload_n C rfl rfl dX3_setLevel_40 ?_
  refine lj_iload_n C rfl rfl dX3_setLevel_41 ?_
  refine lj_iload_n C rfl rfl dX3_setLevel_42 ?_
  refine lj_iload C rfl dX3_setLevel_43 ?_
  refine lj_cVv C (As := [.int 2, .int a1, .int a2, .int a3, .int x30]) (rest := []) (i := 45) (ci := 1) (Cn := RX1) (Tb := TX1) (N := 3) (fs := (ld_f1 w) (Z 45)) (fun sz x hx => zX1_note l w Z 2 a1 a2 a3 x30 hx sz) (cwV 5 C.2.2.2.2.1 gX3_setLevel_X1_note rfl rfl rfl (by decide +kernel) ⟨Nat.le_of_ble_eq_true rfl, Nat.le_of_ble_eq_true rfl⟩) (by decide) ((fun _ => rfl) _) rfl rfl rfl rfl (Nat.le_of_ble_eq_true rfl) ⟨Nat.le_of_ble_eq_true rfl, Nat.le_of_ble_eq_true rfl⟩ dX3_setLevel_45 (fun x45 hx45 => ?_)
  refine lj_aload C rfl dX3_setLevel_48 ?_
  refine lj_iload_n C rfl rfl dX3_setLevel_50 ?_
  refine lj_iload_n C rfl rfl dX3_setLevel_51 ?_
  refine lj_iload C rfl dX3_setLevel_52 ?_
  refine lj_cVv C (As := [.int a2, .int a3, .int a4]) (rest := []) (i := (ld_cu a1)) (ci := 0) (Cn := RX0) (Tb := TX0) (N := 9) (fs := (ld_f0 w (ld_cu a1)) (x45 (ld_cu a1))) (fun sz x hx => zX0_tell l w x45 (ld_cu a1) a2 a3 a4 (ld_cu_q _) hx sz) (cwV 3 C.2.2.2.2.1 gX3_setLevel_X0_tell rfl rfl rfl (by decide +kernel) ⟨Nat.le_of_ble_eq_true rfl, Nat.le_of_ble_eq_true rfl⟩) (ld_q_lt0 (ld_cu_q _)) ((ld_q_cell (ld_cu_q _)) _) rfl rfl rfl rfl (Nat.le_of_ble_eq_true rfl) ⟨Nat.le_of_ble_eq_true rfl, Nat.le_of_ble_eq_true rfl⟩ dX3_setLevel_54 (fun x54 hx54 => ?_)
  refine lj_iload C rfl dX3_setLevel_57 ?_
  exact lj_t3 C (by decide) (by decide) dX3_setLevel_59
theorem inX3_undo_0 : ∀ q ∈ u_ws RX0 TX0 9, q ∈ wsX3_undo := fun _ h => List.mem_cons_of_mem _ (List.mem_append_left _ (List.mem_append_right _ h))
theorem inX3_undo_1 : ∀ q ∈ u_ws RX1 TX1 3, q ∈ wsX3_undo := fun _ h => List.mem_cons_of_mem _ (List.mem_append_left _ (List.mem_append_left _ (List.mem_append_left _ (List.mem_append_right _ h))))
theorem inX3_undo_2 : ∀ q ∈ u_ws RX2 TX2 4, q ∈ wsX3_undo := fun _ h => List.mem_cons_of_mem _ (List.mem_append_left _ (List.mem_append_left _ (List.mem_append_right _ h)))
theorem inX3_undo_3 : ∀ q ∈ u_ws RX3 TX3 7, q ∈ wsX3_undo := fun _ h => List.mem_cons_of_mem _ (List.mem_append_left _ (List.mem_append_left _ (List.mem_append_left _ (List.mem_append_left _ (List.mem_append_right _ h)))))
def kX3_undo (Z : ld_M)  : Option (Int32 × ld_M ⊕ Nat) := ld_bd (kX1_isEmpty Z) (fun x4 => if (x4 : Int32) = 0 then (ld_bd (kX3_takeBackLast Z) (fun x21 => ld_bd (kX1_dropLast x21) (fun x28 => ld_bd (kX1_size x28) (fun x35 => some (.inl (x35, x28)))))) else (some (.inr 1)))
set_option maxHeartbeats 4000000 in
set_option maxRecDepth 100000 in
theorem zX3_undo (l : Launch) (hfl : l.stackTraces = false) (w : ld_E) (Z : ld_M)   {r : (Int32 × ld_M) ⊕ Nat} (hr : kX3_undo Z  = some r) (sz : Nat) : vx_Met l yX3_undo wsX3_undo ({ frames := 6, cells := 1, slots := 6, locals := 90 }) (ld_Pc w Z sz [.ref (ld_ad w 0)]) (ld_Q3 w Z sz r) (ld_XC w Z sz r) 1 6 (ld_A w sz) := by
  refine ld_ofX (ws := wsX3_undo) (Qc := fun sz9 => ld_Q3 w Z sz9 r) (XC := fun sz9 => ld_XC w Z sz9 r) RX3 (by decide +kernel) rfl rfl (by simp [Value.category]) (Nat.le_of_ble_eq_true rfl) sz ?_
  intro p e s m args below meth c C htb
  revert hr
  show ld_T p l e ({ frames := 6, cells := 1, slots := 6, locals := 90 }) s m args below meth c (vx_MQ below (ld_Q3 w Z s.heap.size r) (ld_XC w Z s.heap.size r) args s 1 6 (ld_A w s.heap.size)) w r (kX3_undo Z ) Z 0 0 0 [some (.ref (ld_ad w 0))] []
  unfold kX3_undo
  refine lj_aload_n C rfl rfl dX3_undo_0 ?_
  refine lj_get C (i := 0) (kk := 3) (G := (ld_f3 w)) (v := .ref (ld_ad w 45)) (Tb := TX3) (N := 7) (by decide) (fun _ => rfl) rfl inX3_undo_3 (by decide) (List.mem_of_getElem? (i := 3) rfl) rfl rfl dX3_undo_1 ?_
  refine lj_cVa C (As := []) (rest := []) (i := 45) (ci := 1) (Cn := RX1) (Tb := TX1) (N := 3) (fs := (ld_f1 w) (Z 45)) (fun sz x hx => zX1_isEmpty l w Z  hx sz) (cwV 0 C.2.2.2.2.1 gX3_undo_X1_isEmpty rfl rfl rfl (by decide +kernel) ⟨Nat.le_of_ble_eq_true rfl, Nat.le_of_ble_eq_true rfl⟩) (by decide) ((fun _ => rfl) _) rfl rfl rfl rfl (Nat.le_of_ble_eq_true rfl) ⟨Nat.le_of_ble_eq_true rfl, Nat.le_of_ble_eq_true rfl⟩ dX3_undo_4 (fun x4 hx4 => ?_)
  refine lj_if_eq C (tgt := 20) dX3_undo_7 (by decide) ?_ ?_
  · refine lj_aload_n C rfl rfl dX3_undo_20 ?_
    refine lj_cVv C (As := []) (rest := []) (i := 0) (ci := 3) (Cn := RX3) (Tb := TX3) (N := 7) (fs := (ld_f3 w) (Z 0)) (fun sz x hx => zX3_takeBackLast l w Z  hx sz) (cwV 0 C.2.2.2.2.1 gX3_undo_X3_takeBackLast rfl rfl rfl (by decide +kernel) ⟨Nat.le_of_ble_eq_true rfl, Nat.le_of_ble_eq_true rfl⟩) (by decide) ((fun _ => rfl) _) rfl rfl rfl rfl (Nat.le_of_ble_eq_true rfl) ⟨Nat.le_of_ble_eq_true rfl, Nat.le_of_ble_eq_true rfl⟩ dX3_undo_21 (fun x21 hx21 => ?_)
    refine lj_aload_n C rfl rfl dX3_undo_24 ?_
    refine lj_get C (i := 0) (kk := 3) (G := (ld_f3 w)) (v := .ref (ld_ad w 45)) (Tb := TX3) (N := 7) (by decide) (fun _ => rfl) rfl inX3_undo_3 (by decide) (List.mem_of_getElem? (i := 3) rfl) rfl rfl dX3_undo_25 ?_
    refine lj_cVv C (As := []) (rest := []) (i := 45) (ci := 1) (Cn := RX1) (Tb := TX1) (N := 3) (fs := (ld_f1 w) (x21 45)) (fun sz x hx => zX1_dropLast l w x21  hx sz) (cwV 0 C.2.2.2.2.1 gX3_undo_X1_dropLast rfl rfl rfl (by decide +kernel) ⟨Nat.le_of_ble_eq_true rfl, Nat.le_of_ble_eq_true rfl⟩) (by decide) ((fun _ => rfl) _) rfl rfl rfl rfl (Nat.le_of_ble_eq_true rfl) ⟨Nat.le_of_ble_eq_true rfl, Nat.le_of_ble_eq_true rfl⟩ dX3_undo_28 (fun x28 hx28 => ?_)
    refine lj_aload_n C rfl rfl dX3_undo_31 ?_
    refine lj_get C (i := 0) (kk := 3) (G := (ld_f3 w)) (v := .ref (ld_ad w 45)) (Tb := TX3) (N := 7) (by decide) (fun _ => rfl) rfl inX3_undo_3 (by decide) (List.mem_of_getElem? (i := 3) rfl) rfl rfl dX3_undo_32 ?_
    refine lj_cVa C (As := []) (rest := []) (i := 45) (ci := 1) (Cn := RX1) (Tb := TX1) (N := 3) (fs := (ld_f1 w) (x28 45)) (fun sz x hx => zX1_size l w x28  hx sz) (cwV 0 C.2.2.2.2.1 gX3_undo_X1_size rfl rfl rfl (by decide +kernel) ⟨Nat.le_of_ble_eq_true rfl, Nat.le_of_ble_eq_true rfl⟩) (by decide) ((fun _ => rfl) _) rfl rfl rfl rfl (Nat.le_of_ble_eq_true rfl) ⟨Nat.le_of_ble_eq_true rfl, Nat.le_of_ble_eq_true rfl⟩ dX3_undo_35 (fun x35 hx35 => ?_)
    exact lj_t3 C (by decide) (by decide) dX3_undo_38
  · exact lj_throw1 C hfl htb (text := "nothing can be undone") rfl (by decide) (List.mem_of_getElem? (i := 1) rfl) (List.mem_of_getElem? (i := 2) rfl) (fun _ h => List.mem_cons_of_mem _ (List.mem_append_right _ h)) (Nat.le_of_ble_eq_true rfl) (Nat.le_of_ble_eq_true rfl) (Nat.le_of_ble_eq_true rfl) (Nat.le_of_ble_eq_true rfl) (by decide) (by decide) dX3_undo_10 dX3_undo_13 dX3_undo_14 dX3_undo_16 dX3_undo_19
theorem inX3_go_0 : ∀ q ∈ u_ws RX0 TX0 9, q ∈ wsX3_go := fun _ h => List.mem_cons_of_mem _ (List.mem_append_left _ (List.mem_append_left _ (List.mem_append_right _ h)))
theorem inX3_go_3 : ∀ q ∈ u_ws RX3 TX3 7, q ∈ wsX3_go := fun _ h => List.mem_cons_of_mem _ (List.mem_append_left _ (List.mem_append_left _ (List.mem_append_left _ (List.mem_append_right _ h))))
def kX3_go (Z : ld_M) (a1 : Int32) (a2 : Int32) : Option (Int32 × ld_M ⊕ Nat) := ld_bx (kX3_needList Z a1) (fun x1 => ld_bx (kX3_needCue Z a1 a2) (fun x7 => ld_bd (kX0_countTold Z (ld_cu a1) a2) (fun x16 => ld_bd (kX3_beginFrom Z a1 a2) (fun x23 => some (.inl (x16, x23.2))))))
set_option maxHeartbeats 4000000 in
set_option maxRecDepth 100000 in
theorem zX3_go (l : Launch) (hfl : l.stackTraces = false) (w : ld_E) (Z : ld_M) (a1 : Int32) (a2 : Int32)  {r : (Int32 × ld_M) ⊕ Nat} (hr : kX3_go Z a1 a2 = some r) (sz : Nat) : vx_Met l yX3_go wsX3_go ({ frames := 7, cells := 2, slots := 12, locals := 112 }) (ld_Pc w Z sz [.ref (ld_ad w 0), .int a1, .int a2]) (ld_Q3 w Z sz r) (ld_XC w Z sz r) 2 12 (ld_A w sz) := by
  refine ld_ofX (ws := wsX3_go) (Qc := fun sz9 => ld_Q3 w Z sz9 r) (XC := fun sz9 => ld_XC w Z sz9 r) RX3 (by decide +kernel) rfl rfl (by simp [Value.category]) (Nat.le_of_ble_eq_true rfl) sz ?_
  intro p e s m args below meth c C htb
  revert hr
  show ld_T p l e ({ frames := 7, cells := 2, slots := 12, locals := 112 }) s m args below meth c (vx_MQ below (ld_Q3 w Z s.heap.size r) (ld_XC w Z s.heap.size r) args s 2 12 (ld_A w s.heap.size)) w r (kX3_go Z a1 a2) Z 0 0 0 [some (.ref (ld_ad w 0)), some (.int a1), some (.int a2), none] []
  unfold kX3_go
  refine lj_iload_n C rfl rfl dX3_go_0 ?_
  refine lj_xS0 C htb (As := [.int a1]) (rest := []) (fun sz x hx => zX3_needList l hfl w Z a1 hx sz) (va_cwS 1 C.2.2.2.2.1 gX3_go_X3_needList rfl rfl rfl (by decide +kernel) ⟨Nat.le_of_ble_eq_true rfl, Nat.le_of_ble_eq_true rfl⟩) rfl rfl rfl (Nat.le_of_ble_eq_true rfl) ⟨Nat.le_of_ble_eq_true rfl, Nat.le_of_ble_eq_true rfl⟩ (by decide) (by decide) dX3_go_1 (fun x1 hx1 => ?_)
  refine lj_aload_n C rfl rfl dX3_go_4 ?_
  refine lj_iload_n C rfl rfl dX3_go_5 ?_
  refine lj_iload_n C rfl rfl dX3_go_6 ?_
  refine lj_xV0 C htb (As := [.int a1, .int a2]) (rest := []) (i := 0) (ci := 3) (Cn := RX3) (Tb := TX3) (N := 7) (fs := (ld_f3 w) (Z 0)) (fun sz x hx => zX3_needCue l hfl w Z a1 a2 hx sz) (cwV 2 C.2.2.2.2.1 gX3_go_X3_needCue rfl rfl rfl (by decide +kernel) ⟨Nat.le_of_ble_eq_true rfl, Nat.le_of_ble_eq_true rfl⟩) (by decide) ((fun _ => rfl) _) rfl rfl rfl rfl (Nat.le_of_ble_eq_true rfl) ⟨Nat.le_of_ble_eq_true rfl, Nat.le_of_ble_eq_true rfl⟩ (by decide) (by decide) dX3_go_7 (fun x7 hx7 => ?_)
  refine lj_aload_n C rfl rfl dX3_go_10 ?_
  refine lj_iload_n C rfl rfl dX3_go_11 ?_
  refine lj_cu C (a := a1) (rest := []) (cwV 1 C.2.2.2.2.1 gX3_go_X3_cuesOf rfl rfl rfl (by decide +kernel) ⟨Nat.le_of_ble_eq_true rfl, Nat.le_of_ble_eq_true rfl⟩) rfl rfl (Nat.le_of_ble_eq_true rfl) ⟨Nat.le_of_ble_eq_true rfl, Nat.le_of_ble_eq_true rfl⟩ dX3_go_12 ?_
  refine lj_iload_n C rfl rfl dX3_go_15 ?_
  refine lj_cVa C (As := [.int a2]) (rest := []) (i := (ld_cu a1)) (ci := 0) (Cn := RX0) (Tb := TX0) (N := 9) (fs := (ld_f0 w (ld_cu a1)) (Z (ld_cu a1))) (fun sz x hx => zX0_countTold l w Z (ld_cu a1) a2 (ld_cu_q _) hx sz) (cwV 1 C.2.2.2.2.1 gX3_go_X0_countTold rfl rfl rfl (by decide +kernel) ⟨Nat.le_of_ble_eq_true rfl, Nat.le_of_ble_eq_true rfl⟩) (ld_q_lt0 (ld_cu_q _)) ((ld_q_cell (ld_cu_q _)) _) rfl rfl rfl rfl (Nat.le_of_ble_eq_true rfl) ⟨Nat.le_of_ble_eq_true rfl, Nat.le_of_ble_eq_true rfl⟩ dX3_go_16 (fun x16 hx16 => ?_)
  refine lj_istore_n C rfl (lv2 := [some (.ref (ld_ad w 0)), some (.int a1), some (.int a2), some (.int x16)]) (Nat.le_of_ble_eq_true rfl) rfl dX3_go_19 ?_
  refine lj_aload_n C rfl rfl dX3_go_20 ?_
  refine lj_iload_n C rfl rfl dX3_go_21 ?_
  refine lj_iload_n C rfl rfl dX3_go_22 ?_
  refine lj_cVb C (As := [.int a1, .int a2]) (rest := []) (i := 0) (ci := 3) (Cn := RX3) (Tb := TX3) (N := 7) (fs := (ld_f3 w) (Z 0)) (fun sz x hx => zX3_beginFrom l w Z a1 a2 hx sz) (cwV 2 C.2.2.2.2.1 gX3_go_X3_beginFrom rfl rfl rfl (by decide +kernel) ⟨Nat.le_of_ble_eq_true rfl, Nat.le_of_ble_eq_true rfl⟩) (by decide) ((fun _ => rfl) _) rfl rfl rfl rfl (Nat.le_of_ble_eq_true rfl) ⟨Nat.le_of_ble_eq_true rfl, Nat.le_of_ble_eq_true rfl⟩ dX3_go_23 (fun x23 hx23 => ?_)
  refine lj_pop C rfl dX3_go_26 ?_
  refine lj_iload_n C rfl rfl dX3_go_27 ?_
  exact lj_t3 C (by decide) (by decide) dX3_go_28
theorem inX3_pass_0 : ∀ q ∈ u_ws RX0 TX0 9, q ∈ wsX3_pass := fun _ h => List.mem_cons_of_mem _ (List.mem_append_left _ (List.mem_append_right _ h))
theorem inX3_pass_3 : ∀ q ∈ u_ws RX3 TX3 7, q ∈ wsX3_pass := fun _ h => List.mem_cons_of_mem _ (List.mem_append_left _ (List.mem_append_left _ (List.mem_append_right _ h)))
def kX3_pass_26 (a1 : Int32) : Nat → ld_M → Int32 → Int32 → Option (Int32 × ld_M ⊕ Nat)
  | 0, _, _, _ => none
  | n + 1, Z, v2, v3 => if (a1 : Int32) ≤ v3 then (some (.inl (v2, Z))) else (ld_bd (kX3_passTenth Z 0) (fun x34 => ld_bd (kX3_passTenth x34.2 1) (fun x42 => kX3_pass_26 a1 n x42.2 ((v2 + x34.1) + x42.1) (v3 + 1))))
set_option maxHeartbeats 4000000 in
set_option maxRecDepth 100000 in
theorem bX3_pass_26 {p : Program} {e : Env} {s : State} {m : MethodId} {args : Array Value} {below : List Frame} {meth : Method} {c : Code} (l : Launch) (w : ld_E) (a1 : Int32)  (hfl : l.stackTraces = false) (htb : ∀ x ∈ c.exceptionTable.toList, False) (Z0 : ld_M) {r : (Int32 × ld_M) ⊕ Nat} (C : ld_C p l s m args meth c cX3_pass 4 (some .int) wsX3_pass RX3 w) : ∀ (n : Nat) (Z : ld_M) (v2 : Int32) (v3 : Int32), ld_T p l e ({ frames := 6, cells := 1, slots := 6, locals := 115 }) s m args below meth c (vx_MQ below (ld_Q3 w Z0 s.heap.size r) (ld_XC w Z0 s.heap.size r) args s 1 6 (ld_A w s.heap.size)) w r (kX3_pass_26 a1 n Z v2 v3) Z 0 0 26 [some (.ref (ld_ad w 0)), some (.int a1), some (.int v2), some (.int v3)] [] := by
  intro n
  induction n with
  | zero => exact fun _ _ _ h => nomatch h
  | succ n ih =>
    intro Z v2 v3
    refine lj_iload_n C rfl rfl dX3_pass_26 ?_
    refine lj_iload_n C rfl rfl dX3_pass_27 ?_
    refine lj_icmp_ge C (tgt := 53) dX3_pass_28 (by decide) ?_ ?_
    · refine lj_iload_n C rfl rfl dX3_pass_53 ?_
      exact lj_t3 C (by decide) (by decide) dX3_pass_54
    · refine lj_iload_n C rfl rfl dX3_pass_31 ?_
      refine lj_aload_n C rfl rfl dX3_pass_32 ?_
      refine lj_iconst C (v := 0) (by decide) dX3_pass_33 ?_
      refine lj_cVb C (As := [.int 0]) (rest := [.int v2]) (i := 0) (ci := 3) (Cn := RX3) (Tb := TX3) (N := 7) (fs := (ld_f3 w) (Z 0)) (fun sz x hx => zX3_passTenth l w Z 0 hx sz) (cwV 1 C.2.2.2.2.1 gX3_pass_X3_passTenth rfl rfl rfl (by decide +kernel) ⟨Nat.le_of_ble_eq_true rfl, Nat.le_of_ble_eq_true rfl⟩) (by decide) ((fun _ => rfl) _) rfl rfl rfl rfl (Nat.le_of_ble_eq_true rfl) ⟨Nat.le_of_ble_eq_true rfl, Nat.le_of_ble_eq_true rfl⟩ dX3_pass_34 (fun x34 hx34 => ?_)
      refine lj_iadd C dX3_pass_37 ?_
      refine lj_istore_n C rfl (lv2 := [some (.ref (ld_ad w 0)), some (.int a1), some (.int (v2 + x34.1)), some (.int v3)]) (Nat.le_of_ble_eq_true rfl) rfl dX3_pass_38 ?_
      refine lj_iload_n C rfl rfl dX3_pass_39 ?_
      refine lj_aload_n C rfl rfl dX3_pass_40 ?_
      refine lj_iconst C (v := 1) (by decide) dX3_pass_41 ?_
      refine lj_cVb C (As := [.int 1]) (rest := [.int (v2 + x34.1)]) (i := 0) (ci := 3) (Cn := RX3) (Tb := TX3) (N := 7) (fs := (ld_f3 w) (x34.2 0)) (fun sz x hx => zX3_passTenth l w x34.2 1 hx sz) (cwV 1 C.2.2.2.2.1 gX3_pass_X3_passTenth rfl rfl rfl (by decide +kernel) ⟨Nat.le_of_ble_eq_true rfl, Nat.le_of_ble_eq_true rfl⟩) (by decide) ((fun _ => rfl) _) rfl rfl rfl rfl (Nat.le_of_ble_eq_true rfl) ⟨Nat.le_of_ble_eq_true rfl, Nat.le_of_ble_eq_true rfl⟩ dX3_pass_42 (fun x42 hx42 => ?_)
      refine lj_iadd C dX3_pass_45 ?_
      refine lj_istore_n C rfl (lv2 := [some (.ref (ld_ad w 0)), some (.int a1), some (.int ((v2 + x34.1) + x42.1)), some (.int v3)]) (Nat.le_of_ble_eq_true rfl) rfl dX3_pass_46 ?_
      refine lj_iinc C (i := 3) (v := (v3 + 1)) (lv2 := [some (.ref (ld_ad w 0)), some (.int a1), some (.int ((v2 + x34.1) + x42.1)), some (.int (v3 + 1))]) rfl rfl rfl dX3_pass_47 ?_
      refine lj_goto C (tgt := 26) dX3_pass_50 (by decide) ?_
      exact ih x42.2 ((v2 + x34.1) + x42.1) (v3 + 1)
def kX3_pass (Z : ld_M) (a1 : Int32) : Option (Int32 × ld_M ⊕ Nat) := if (a1 : Int32) < 1 then (some (.inr 0)) else (if (a1 : Int32) ≤ 1000 then (kX3_pass_26 a1 ld_fu Z 0 0) else (some (.inr 0)))
set_option maxHeartbeats 4000000 in
set_option maxRecDepth 100000 in
theorem zX3_pass (l : Launch) (hfl : l.stackTraces = false) (w : ld_E) (Z : ld_M) (a1 : Int32)  {r : (Int32 × ld_M) ⊕ Nat} (hr : kX3_pass Z a1 = some r) (sz : Nat) : vx_Met l yX3_pass wsX3_pass ({ frames := 6, cells := 1, slots := 6, locals := 115 }) (ld_Pc w Z sz [.ref (ld_ad w 0), .int a1]) (ld_Q3 w Z sz r) (ld_XC w Z sz r) 1 6 (ld_A w sz) := by
  refine ld_ofX (ws := wsX3_pass) (Qc := fun sz9 => ld_Q3 w Z sz9 r) (XC := fun sz9 => ld_XC w Z sz9 r) RX3 (by decide +kernel) rfl rfl (by simp [Value.category]) (Nat.le_of_ble_eq_true rfl) sz ?_
  intro p e s m args below meth c C htb
  revert hr
  show ld_T p l e ({ frames := 6, cells := 1, slots := 6, locals := 115 }) s m args below meth c (vx_MQ below (ld_Q3 w Z s.heap.size r) (ld_XC w Z s.heap.size r) args s 1 6 (ld_A w s.heap.size)) w r (kX3_pass Z a1) Z 0 0 0 [some (.ref (ld_ad w 0)), some (.int a1), none, none] []
  unfold kX3_pass
  refine lj_iload_n C rfl rfl dX3_pass_0 ?_
  refine lj_iconst C (v := 1) (by decide) dX3_pass_1 ?_
  refine lj_icmp_lt C (tgt := 12) dX3_pass_2 (by decide) ?_ ?_
  · exact lj_throw0 C hfl htb (text := "1 to 1000 tenths can pass") rfl (by decide) (List.mem_of_getElem? (i := 1) rfl) (List.mem_of_getElem? (i := 2) rfl) (fun _ h => List.mem_cons_of_mem _ (List.mem_append_right _ h)) (Nat.le_of_ble_eq_true rfl) (Nat.le_of_ble_eq_true rfl) (Nat.le_of_ble_eq_true rfl) (Nat.le_of_ble_eq_true rfl) (by decide) (by decide) dX3_pass_12 dX3_pass_15 dX3_pass_16 dX3_pass_18 dX3_pass_21
  · refine lj_iload_n C rfl rfl dX3_pass_5 ?_
    refine lj_sipush C (v := 1000) (by decide) dX3_pass_6 ?_
    refine lj_icmp_le C (tgt := 22) dX3_pass_9 (by decide) ?_ ?_
    · refine lj_iconst C (v := 0) (by decide) dX3_pass_22 ?_
      refine lj_istore_n C rfl (lv2 := [some (.ref (ld_ad w 0)), some (.int a1), some (.int 0), none]) (Nat.le_of_ble_eq_true rfl) rfl dX3_pass_23 ?_
      refine lj_iconst C (v := 0) (by decide) dX3_pass_24 ?_
      refine lj_istore_n C rfl (lv2 := [some (.ref (ld_ad w 0)), some (.int a1), some (.int 0), some (.int 0)]) (Nat.le_of_ble_eq_true rfl) rfl dX3_pass_25 ?_
      exact bX3_pass_26 l w a1 hfl htb Z C ld_fu Z 0 0
    · exact lj_throw0 C hfl htb (text := "1 to 1000 tenths can pass") rfl (by decide) (List.mem_of_getElem? (i := 1) rfl) (List.mem_of_getElem? (i := 2) rfl) (fun _ h => List.mem_cons_of_mem _ (List.mem_append_right _ h)) (Nat.le_of_ble_eq_true rfl) (Nat.le_of_ble_eq_true rfl) (Nat.le_of_ble_eq_true rfl) (Nat.le_of_ble_eq_true rfl) (by decide) (by decide) dX3_pass_12 dX3_pass_15 dX3_pass_16 dX3_pass_18 dX3_pass_21
theorem inX3_running_0 : ∀ q ∈ u_ws RX0 TX0 9, q ∈ wsX3_running := fun _ h => List.mem_cons_of_mem _ (List.mem_append_left _ (List.mem_append_right _ h))
theorem inX3_running_3 : ∀ q ∈ u_ws RX3 TX3 7, q ∈ wsX3_running := fun _ h => List.mem_cons_of_mem _ (List.mem_append_left _ (List.mem_append_left _ (List.mem_append_right _ h)))
def kX3_running (Z : ld_M) (a1 : Int32) : Option (Int32 ⊕ Nat) := ld_bx (kX3_needList Z a1) (fun x1 => ld_bd (kX0_begunLast Z (ld_cu a1)) (fun x9 => some (.inl x9)))
set_option maxHeartbeats 4000000 in
set_option maxRecDepth 100000 in
theorem zX3_running (l : Launch) (hfl : l.stackTraces = false) (w : ld_E) (Z : ld_M) (a1 : Int32)  {r : Int32 ⊕ Nat} (hr : kX3_running Z a1 = some r) (sz : Nat) : vx_Met l yX3_running wsX3_running ({ frames := 7, cells := 1, slots := 6, locals := 110 }) (ld_Pc w Z sz [.ref (ld_ad w 0), .int a1]) (ld_Q1 w Z sz r) (ld_XC w Z sz r) 1 6 (ld_A w sz) := by
  refine ld_ofX (ws := wsX3_running) (Qc := fun sz9 => ld_Q1 w Z sz9 r) (XC := fun sz9 => ld_XC w Z sz9 r) RX3 (by decide +kernel) rfl rfl (by simp [Value.category]) (Nat.le_of_ble_eq_true rfl) sz ?_
  intro p e s m args below meth c C htb
  revert hr
  show ld_T p l e ({ frames := 7, cells := 1, slots := 6, locals := 110 }) s m args below meth c (vx_MQ below (ld_Q1 w Z s.heap.size r) (ld_XC w Z s.heap.size r) args s 1 6 (ld_A w s.heap.size)) w r (kX3_running Z a1) Z 0 0 0 [some (.ref (ld_ad w 0)), some (.int a1)] []
  unfold kX3_running
  refine lj_iload_n C rfl rfl dX3_running_0 ?_
  refine lj_xS0 C htb (As := [.int a1]) (rest := []) (fun sz x hx => zX3_needList l hfl w Z a1 hx sz) (va_cwS 1 C.2.2.2.2.1 gX3_running_X3_needList rfl rfl rfl (by decide +kernel) ⟨Nat.le_of_ble_eq_true rfl, Nat.le_of_ble_eq_true rfl⟩) rfl rfl rfl (Nat.le_of_ble_eq_true rfl) ⟨Nat.le_of_ble_eq_true rfl, Nat.le_of_ble_eq_true rfl⟩ (by decide) (by decide) dX3_running_1 (fun x1 hx1 => ?_)
  refine lj_aload_n C rfl rfl dX3_running_4 ?_
  refine lj_iload_n C rfl rfl dX3_running_5 ?_
  refine lj_cu C (a := a1) (rest := []) (cwV 1 C.2.2.2.2.1 gX3_running_X3_cuesOf rfl rfl rfl (by decide +kernel) ⟨Nat.le_of_ble_eq_true rfl, Nat.le_of_ble_eq_true rfl⟩) rfl rfl (Nat.le_of_ble_eq_true rfl) ⟨Nat.le_of_ble_eq_true rfl, Nat.le_of_ble_eq_true rfl⟩ dX3_running_6 ?_
  refine lj_cVa C (As := []) (rest := []) (i := (ld_cu a1)) (ci := 0) (Cn := RX0) (Tb := TX0) (N := 9) (fs := (ld_f0 w (ld_cu a1)) (Z (ld_cu a1))) (fun sz x hx => zX0_begunLast l w Z (ld_cu a1) (ld_cu_q _) hx sz) (cwV 0 C.2.2.2.2.1 gX3_running_X0_begunLast rfl rfl rfl (by decide +kernel) ⟨Nat.le_of_ble_eq_true rfl, Nat.le_of_ble_eq_true rfl⟩) (ld_q_lt0 (ld_cu_q _)) ((ld_q_cell (ld_cu_q _)) _) rfl rfl rfl rfl (Nat.le_of_ble_eq_true rfl) ⟨Nat.le_of_ble_eq_true rfl, Nat.le_of_ble_eq_true rfl⟩ dX3_running_9 (fun x9 hx9 => ?_)
  exact lj_t1 C (by decide) (by decide) dX3_running_12
theorem inX3_level_0 : ∀ q ∈ u_ws RX0 TX0 9, q ∈ wsX3_level := fun _ h => List.mem_cons_of_mem _ (List.mem_append_left _ (List.mem_append_right _ h))
theorem inX3_level_3 : ∀ q ∈ u_ws RX3 TX3 7, q ∈ wsX3_level := fun _ h => List.mem_cons_of_mem _ (List.mem_append_left _ (List.mem_append_left _ (List.mem_append_right _ h)))
def kX3_level (Z : ld_M) (a1 : Int32) (a2 : Int32) : Option (Int32 ⊕ Nat) := ld_bx (kX3_needList Z a1) (fun x1 => ld_bx (kX3_needChannel Z a2) (fun x5 => ld_bd (kX0_levelNow Z (ld_cu a1) a2) (fun x14 => some (.inl x14))))
set_option maxHeartbeats 4000000 in
set_option maxRecDepth 100000 in
theorem zX3_level (l : Launch) (hfl : l.stackTraces = false) (w : ld_E) (Z : ld_M) (a1 : Int32) (a2 : Int32)  {r : Int32 ⊕ Nat} (hr : kX3_level Z a1 a2 = some r) (sz : Nat) : vx_Met l yX3_level wsX3_level ({ frames := 7, cells := 2, slots := 12, locals := 110 }) (ld_Pc w Z sz [.ref (ld_ad w 0), .int a1, .int a2]) (ld_Q1 w Z sz r) (ld_XC w Z sz r) 2 12 (ld_A w sz) := by
  refine ld_ofX (ws := wsX3_level) (Qc := fun sz9 => ld_Q1 w Z sz9 r) (XC := fun sz9 => ld_XC w Z sz9 r) RX3 (by decide +kernel) rfl rfl (by simp [Value.category]) (Nat.le_of_ble_eq_true rfl) sz ?_
  intro p e s m args below meth c C htb
  revert hr
  show ld_T p l e ({ frames := 7, cells := 2, slots := 12, locals := 110 }) s m args below meth c (vx_MQ below (ld_Q1 w Z s.heap.size r) (ld_XC w Z s.heap.size r) args s 2 12 (ld_A w s.heap.size)) w r (kX3_level Z a1 a2) Z 0 0 0 [some (.ref (ld_ad w 0)), some (.int a1), some (.int a2)] []
  unfold kX3_level
  refine lj_iload_n C rfl rfl dX3_level_0 ?_
  refine lj_xS0 C htb (As := [.int a1]) (rest := []) (fun sz x hx => zX3_needList l hfl w Z a1 hx sz) (va_cwS 1 C.2.2.2.2.1 gX3_level_X3_needList rfl rfl rfl (by decide +kernel) ⟨Nat.le_of_ble_eq_true rfl, Nat.le_of_ble_eq_true rfl⟩) rfl rfl rfl (Nat.le_of_ble_eq_true rfl) ⟨Nat.le_of_ble_eq_true rfl, Nat.le_of_ble_eq_true rfl⟩ (by decide) (by decide) dX3_level_1 (fun x1 hx1 => ?_)
  refine lj_iload_n C rfl rfl dX3_level_4 ?_
  refine lj_xS0 C htb (As := [.int a2]) (rest := []) (fun sz x hx => zX3_needChannel l hfl w Z a2 hx sz) (va_cwS 1 C.2.2.2.2.1 gX3_level_X3_needChannel rfl rfl rfl (by decide +kernel) ⟨Nat.le_of_ble_eq_true rfl, Nat.le_of_ble_eq_true rfl⟩) rfl rfl rfl (Nat.le_of_ble_eq_true rfl) ⟨Nat.le_of_ble_eq_true rfl, Nat.le_of_ble_eq_true rfl⟩ (by decide) (by decide) dX3_level_5 (fun x5 hx5 => ?_)
  refine lj_aload_n C rfl rfl dX3_level_8 ?_
  refine lj_iload_n C rfl rfl dX3_level_9 ?_
  refine lj_cu C (a := a1) (rest := []) (cwV 1 C.2.2.2.2.1 gX3_level_X3_cuesOf rfl rfl rfl (by decide +kernel) ⟨Nat.le_of_ble_eq_true rfl, Nat.le_of_ble_eq_true rfl⟩) rfl rfl (Nat.le_of_ble_eq_true rfl) ⟨Nat.le_of_ble_eq_true rfl, Nat.le_of_ble_eq_true rfl⟩ dX3_level_10 ?_
  refine lj_iload_n C rfl rfl dX3_level_13 ?_
  refine lj_cVa C (As := [.int a2]) (rest := []) (i := (ld_cu a1)) (ci := 0) (Cn := RX0) (Tb := TX0) (N := 9) (fs := (ld_f0 w (ld_cu a1)) (Z (ld_cu a1))) (fun sz x hx => zX0_levelNow l w Z (ld_cu a1) a2 (ld_cu_q _) hx sz) (cwV 1 C.2.2.2.2.1 gX3_level_X0_levelNow rfl rfl rfl (by decide +kernel) ⟨Nat.le_of_ble_eq_true rfl, Nat.le_of_ble_eq_true rfl⟩) (ld_q_lt0 (ld_cu_q _)) ((ld_q_cell (ld_cu_q _)) _) rfl rfl rfl rfl (Nat.le_of_ble_eq_true rfl) ⟨Nat.le_of_ble_eq_true rfl, Nat.le_of_ble_eq_true rfl⟩ dX3_level_14 (fun x14 hx14 => ?_)
  exact lj_t1 C (by decide) (by decide) dX3_level_17
theorem inX3_merged_0 : ∀ q ∈ u_ws RX0 TX0 9, q ∈ wsX3_merged := fun _ h => List.mem_cons_of_mem _ (List.mem_append_left _ (List.mem_append_right _ h))
theorem inX3_merged_3 : ∀ q ∈ u_ws RX3 TX3 7, q ∈ wsX3_merged := fun _ h => List.mem_cons_of_mem _ (List.mem_append_left _ (List.mem_append_left _ (List.mem_append_right _ h)))
def kX3_merged (Z : ld_M) (a1 : Int32) : Option (Int32 ⊕ Nat) := ld_bx (kX3_needChannel Z a1) (fun x1 => ld_bd (kX3_mergedNow Z a1) (fun x6 => some (.inl x6)))
set_option maxHeartbeats 4000000 in
set_option maxRecDepth 100000 in
theorem zX3_merged (l : Launch) (hfl : l.stackTraces = false) (w : ld_E) (Z : ld_M) (a1 : Int32)  {r : Int32 ⊕ Nat} (hr : kX3_merged Z a1 = some r) (sz : Nat) : vx_Met l yX3_merged wsX3_merged ({ frames := 7, cells := 1, slots := 6, locals := 110 }) (ld_Pc w Z sz [.ref (ld_ad w 0), .int a1]) (ld_Q1 w Z sz r) (ld_XC w Z sz r) 1 6 (ld_A w sz) := by
  refine ld_ofX (ws := wsX3_merged) (Qc := fun sz9 => ld_Q1 w Z sz9 r) (XC := fun sz9 => ld_XC w Z sz9 r) RX3 (by decide +kernel) rfl rfl (by simp [Value.category]) (Nat.le_of_ble_eq_true rfl) sz ?_
  intro p e s m args below meth c C htb
  revert hr
  show ld_T p l e ({ frames := 7, cells := 1, slots := 6, locals := 110 }) s m args below meth c (vx_MQ below (ld_Q1 w Z s.heap.size r) (ld_XC w Z s.heap.size r) args s 1 6 (ld_A w s.heap.size)) w r (kX3_merged Z a1) Z 0 0 0 [some (.ref (ld_ad w 0)), some (.int a1)] []
  unfold kX3_merged
  refine lj_iload_n C rfl rfl dX3_merged_0 ?_
  refine lj_xS0 C htb (As := [.int a1]) (rest := []) (fun sz x hx => zX3_needChannel l hfl w Z a1 hx sz) (va_cwS 1 C.2.2.2.2.1 gX3_merged_X3_needChannel rfl rfl rfl (by decide +kernel) ⟨Nat.le_of_ble_eq_true rfl, Nat.le_of_ble_eq_true rfl⟩) rfl rfl rfl (Nat.le_of_ble_eq_true rfl) ⟨Nat.le_of_ble_eq_true rfl, Nat.le_of_ble_eq_true rfl⟩ (by decide) (by decide) dX3_merged_1 (fun x1 hx1 => ?_)
  refine lj_aload_n C rfl rfl dX3_merged_4 ?_
  refine lj_iload_n C rfl rfl dX3_merged_5 ?_
  refine lj_cVa C (As := [.int a1]) (rest := []) (i := 0) (ci := 3) (Cn := RX3) (Tb := TX3) (N := 7) (fs := (ld_f3 w) (Z 0)) (fun sz x hx => zX3_mergedNow l w Z a1 hx sz) (cwV 1 C.2.2.2.2.1 gX3_merged_X3_mergedNow rfl rfl rfl (by decide +kernel) ⟨Nat.le_of_ble_eq_true rfl, Nat.le_of_ble_eq_true rfl⟩) (by decide) ((fun _ => rfl) _) rfl rfl rfl rfl (Nat.le_of_ble_eq_true rfl) ⟨Nat.le_of_ble_eq_true rfl, Nat.le_of_ble_eq_true rfl⟩ dX3_merged_6 (fun x6 hx6 => ?_)
  exact lj_t1 C (by decide) (by decide) dX3_merged_9
theorem inX3_light_0 : ∀ q ∈ u_ws RX0 TX0 9, q ∈ wsX3_light := fun _ h => List.mem_cons_of_mem _ (List.mem_append_left _ (List.mem_append_left _ (List.mem_append_right _ h)))
theorem inX3_light_2 : ∀ q ∈ u_ws RX2 TX2 4, q ∈ wsX3_light := fun _ h => List.mem_cons_of_mem _ (List.mem_append_left _ (List.mem_append_right _ h))
theorem inX3_light_3 : ∀ q ∈ u_ws RX3 TX3 7, q ∈ wsX3_light := fun _ h => List.mem_cons_of_mem _ (List.mem_append_left _ (List.mem_append_left _ (List.mem_append_left _ (List.mem_append_right _ h))))
def kX3_light (Z : ld_M) (a1 : Int32) : Option (Int32 ⊕ Nat) := ld_bx (kX3_needChannel Z a1) (fun x1 => ld_bd (kX3_mergedNow Z a1) (fun x15 => ld_bd (kX2_shineOn Z (Z 0 6) a1 x15) (fun x18 => some (.inl x18))))
set_option maxHeartbeats 4000000 in
set_option maxRecDepth 100000 in
theorem zX3_light (l : Launch) (hfl : l.stackTraces = false) (w : ld_E) (Z : ld_M) (a1 : Int32)  {r : Int32 ⊕ Nat} (hr : kX3_light Z a1 = some r) (sz : Nat) : vx_Met l yX3_light wsX3_light ({ frames := 7, cells := 1, slots := 6, locals := 110 }) (ld_Pc w Z sz [.ref (ld_ad w 0), .int a1]) (ld_Q1 w Z sz r) (ld_XC w Z sz r) 1 6 (ld_A w sz) := by
  refine ld_ofX (ws := wsX3_light) (Qc := fun sz9 => ld_Q1 w Z sz9 r) (XC := fun sz9 => ld_XC w Z sz9 r) RX3 (by decide +kernel) rfl rfl (by simp [Value.category]) (Nat.le_of_ble_eq_true rfl) sz ?_
  intro p e s m args below meth c C htb
  revert hr
  show ld_T p l e ({ frames := 7, cells := 1, slots := 6, locals := 110 }) s m args below meth c (vx_MQ below (ld_Q1 w Z s.heap.size r) (ld_XC w Z s.heap.size r) args s 1 6 (ld_A w s.heap.size)) w r (kX3_light Z a1) Z 0 0 0 [some (.ref (ld_ad w 0)), some (.int a1)] []
  unfold kX3_light
  refine lj_iload_n C rfl rfl dX3_light_0 ?_
  refine lj_xS0 C htb (As := [.int a1]) (rest := []) (fun sz x hx => zX3_needChannel l hfl w Z a1 hx sz) (va_cwS 1 C.2.2.2.2.1 gX3_light_X3_needChannel rfl rfl rfl (by decide +kernel) ⟨Nat.le_of_ble_eq_true rfl, Nat.le_of_ble_eq_true rfl⟩) rfl rfl rfl (Nat.le_of_ble_eq_true rfl) ⟨Nat.le_of_ble_eq_true rfl, Nat.le_of_ble_eq_true rfl⟩ (by decide) (by decide) dX3_light_1 (fun x1 hx1 => ?_)
  refine lj_aload_n C rfl rfl dX3_light_4 ?_
  refine lj_get C (i := 0) (kk := 0) (G := (ld_f3 w)) (v := .ref (ld_ad w 3)) (Tb := TX3) (N := 7) (by decide) (fun _ => rfl) rfl inX3_light_3 (by decide) (List.mem_of_getElem? (i := 1) rfl) rfl rfl dX3_light_5 ?_
  refine lj_aload_n C rfl rfl dX3_light_8 ?_
  refine lj_get C (i := 0) (kk := 6) (G := (ld_f3 w)) (v := .int (Z 0 6)) (Tb := TX3) (N := 7) (by decide) (fun _ => rfl) rfl inX3_light_3 (by decide) (List.mem_of_getElem? (i := 2) rfl) rfl rfl dX3_light_9 ?_
  refine lj_iload_n C rfl rfl dX3_light_12 ?_
  refine lj_aload_n C rfl rfl dX3_light_13 ?_
  refine lj_iload_n C rfl rfl dX3_light_14 ?_
  refine lj_cVa C (As := [.int a1]) (rest := [.int a1, .int (Z 0 6), .ref (ld_ad w 3)]) (i := 0) (ci := 3) (Cn := RX3) (Tb := TX3) (N := 7) (fs := (ld_f3 w) (Z 0)) (fun sz x hx => zX3_mergedNow l w Z a1 hx sz) (cwV 1 C.2.2.2.2.1 gX3_light_X3_mergedNow rfl rfl rfl (by decide +kernel) ⟨Nat.le_of_ble_eq_true rfl, Nat.le_of_ble_eq_true rfl⟩) (by decide) ((fun _ => rfl) _) rfl rfl rfl rfl (Nat.le_of_ble_eq_true rfl) ⟨Nat.le_of_ble_eq_true rfl, Nat.le_of_ble_eq_true rfl⟩ dX3_light_15 (fun x15 hx15 => ?_)
  refine lj_cVa C (As := [.int (Z 0 6), .int a1, .int x15]) (rest := []) (i := 3) (ci := 2) (Cn := RX2) (Tb := TX2) (N := 4) (fs := (ld_f2 w) (Z 3)) (fun sz x hx => zX2_shineOn l w Z (Z 0 6) a1 x15 hx sz) (cwV 3 C.2.2.2.2.1 gX3_light_X2_shineOn rfl rfl rfl (by decide +kernel) ⟨Nat.le_of_ble_eq_true rfl, Nat.le_of_ble_eq_true rfl⟩) (by decide) ((fun _ => rfl) _) rfl rfl rfl rfl (Nat.le_of_ble_eq_true rfl) ⟨Nat.le_of_ble_eq_true rfl, Nat.le_of_ble_eq_true rfl⟩ dX3_light_18 (fun x18 hx18 => ?_)
  exact lj_t1 C (by decide) (by decide) dX3_light_21
theorem inX3_allLight_0 : ∀ q ∈ u_ws RX0 TX0 9, q ∈ wsX3_allLight := fun _ h => List.mem_cons_of_mem _ (List.mem_append_left _ (List.mem_append_right _ h))
theorem inX3_allLight_2 : ∀ q ∈ u_ws RX2 TX2 4, q ∈ wsX3_allLight := fun _ h => List.mem_cons_of_mem _ (List.mem_append_right _ h)
theorem inX3_allLight_3 : ∀ q ∈ u_ws RX3 TX3 7, q ∈ wsX3_allLight := fun _ h => List.mem_cons_of_mem _ (List.mem_append_left _ (List.mem_append_left _ (List.mem_append_right _ h)))
def kX3_allLight_4  : Nat → ld_M → Int32 → Int32 → Option (Int32)
  | 0, _, _, _ => none
  | n + 1, Z, v1, v2 => if (12 : Int32) ≤ v2 then (some v1) else (ld_bd (kX3_mergedNow Z v2) (fun x22 => ld_bd (kX2_shineOn Z (Z 0 6) v2 x22) (fun x25 => kX3_allLight_4 n Z (v1 + x25) (v2 + 1))))
set_option maxHeartbeats 4000000 in
set_option maxRecDepth 100000 in
theorem bX3_allLight_4 {p : Program} {e : Env} {s : State} {m : MethodId} {args : Array Value} {below : List Frame} {meth : Method} {c : Code} (l : Launch) (w : ld_E)  {r : Int32} (C : ld_C p l s m args meth c cX3_allLight 3 (some .int) wsX3_allLight RX3 w) : ∀ (n : Nat) (Z : ld_M) (v1 : Int32) (v2 : Int32), ld_T p l e ({ frames := 4, cells := 0, slots := 0, locals := 89 }) s m args below meth c (MQ below (ld_Q w Z s.heap.size (some (.int r))) args s 0 0 (ld_A w s.heap.size)) w r (kX3_allLight_4  n Z v1 v2) Z 0 0 4 [some (.ref (ld_ad w 0)), some (.int v1), some (.int v2)] [] := by
  intro n
  induction n with
  | zero => exact fun _ _ _ h => nomatch h
  | succ n ih =>
    intro Z v1 v2
    refine lj_iload_n C rfl rfl dX3_allLight_4 ?_
    refine lj_bipush C (v := 12) (by decide) dX3_allLight_5 ?_
    refine lj_icmp_ge C (tgt := 36) dX3_allLight_7 (by decide) ?_ ?_
    · refine lj_iload_n C rfl rfl dX3_allLight_36 ?_
      exact lj_ra C (by decide) (by decide) dX3_allLight_37
    · refine lj_iload_n C rfl rfl dX3_allLight_10 ?_
      refine lj_aload_n C rfl rfl dX3_allLight_11 ?_
      refine lj_get C (i := 0) (kk := 0) (G := (ld_f3 w)) (v := .ref (ld_ad w 3)) (Tb := TX3) (N := 7) (by decide) (fun _ => rfl) rfl inX3_allLight_3 (by decide) (List.mem_of_getElem? (i := 1) rfl) rfl rfl dX3_allLight_12 ?_
      refine lj_aload_n C rfl rfl dX3_allLight_15 ?_
      refine lj_get C (i := 0) (kk := 6) (G := (ld_f3 w)) (v := .int (Z 0 6)) (Tb := TX3) (N := 7) (by decide) (fun _ => rfl) rfl inX3_allLight_3 (by decide) (List.mem_of_getElem? (i := 2) rfl) rfl rfl dX3_allLight_16 ?_
      refine lj_iload_n C rfl rfl dX3_allLight_19 ?_
      refine lj_aload_n C rfl rfl dX3_allLight_20 ?_
      refine lj_iload_n C rfl rfl dX3_allLight_21 ?_
      refine lj_cVa C (As := [.int v2]) (rest := [.int v2, .int (Z 0 6), .ref (ld_ad w 3), .int v1]) (i := 0) (ci := 3) (Cn := RX3) (Tb := TX3) (N := 7) (fs := (ld_f3 w) (Z 0)) (fun sz x hx => zX3_mergedNow l w Z v2 hx sz) (cwV 1 C.2.2.2.2.1 gX3_allLight_X3_mergedNow rfl rfl rfl (by decide +kernel) ⟨Nat.le_of_ble_eq_true rfl, Nat.le_of_ble_eq_true rfl⟩) (by decide) ((fun _ => rfl) _) rfl rfl rfl rfl (Nat.le_of_ble_eq_true rfl) ⟨Nat.le_of_ble_eq_true rfl, Nat.le_of_ble_eq_true rfl⟩ dX3_allLight_22 (fun x22 hx22 => ?_)
      refine lj_cVa C (As := [.int (Z 0 6), .int v2, .int x22]) (rest := [.int v1]) (i := 3) (ci := 2) (Cn := RX2) (Tb := TX2) (N := 4) (fs := (ld_f2 w) (Z 3)) (fun sz x hx => zX2_shineOn l w Z (Z 0 6) v2 x22 hx sz) (cwV 3 C.2.2.2.2.1 gX3_allLight_X2_shineOn rfl rfl rfl (by decide +kernel) ⟨Nat.le_of_ble_eq_true rfl, Nat.le_of_ble_eq_true rfl⟩) (by decide) ((fun _ => rfl) _) rfl rfl rfl rfl (Nat.le_of_ble_eq_true rfl) ⟨Nat.le_of_ble_eq_true rfl, Nat.le_of_ble_eq_true rfl⟩ dX3_allLight_25 (fun x25 hx25 => ?_)
      refine lj_iadd C dX3_allLight_28 ?_
      refine lj_istore_n C rfl (lv2 := [some (.ref (ld_ad w 0)), some (.int (v1 + x25)), some (.int v2)]) (Nat.le_of_ble_eq_true rfl) rfl dX3_allLight_29 ?_
      refine lj_iinc C (i := 2) (v := (v2 + 1)) (lv2 := [some (.ref (ld_ad w 0)), some (.int (v1 + x25)), some (.int (v2 + 1))]) rfl rfl rfl dX3_allLight_30 ?_
      refine lj_goto C (tgt := 4) dX3_allLight_33 (by decide) ?_
      exact ih Z (v1 + x25) (v2 + 1)
def kX3_allLight (Z : ld_M)  : Option (Int32) := kX3_allLight_4 ld_fu Z 0 0
set_option maxHeartbeats 4000000 in
set_option maxRecDepth 100000 in
theorem zX3_allLight (l : Launch) (w : ld_E) (Z : ld_M)   {r : Int32} (hr : kX3_allLight Z  = some r) (sz : Nat) : Met l yX3_allLight wsX3_allLight ({ frames := 4, cells := 0, slots := 0, locals := 89 }) (ld_Pc w Z sz [.ref (ld_ad w 0)]) (ld_Q w Z sz (some (.int r))) 0 0 (ld_A w sz) := by
  refine ld_ofW (ws := wsX3_allLight) (Qc := fun sz9 => ld_Q w Z sz9 (some (.int r))) RX3 (by decide +kernel) rfl rfl (by simp [Value.category]) (Nat.le_of_ble_eq_true rfl) sz ?_
  intro p e s m args below meth c C
  revert hr
  show ld_T p l e ({ frames := 4, cells := 0, slots := 0, locals := 89 }) s m args below meth c (MQ below (ld_Q w Z s.heap.size (some (.int r))) args s 0 0 (ld_A w s.heap.size)) w r (kX3_allLight Z ) Z 0 0 0 [some (.ref (ld_ad w 0)), none, none] []
  unfold kX3_allLight
  refine lj_iconst C (v := 0) (by decide) dX3_allLight_0 ?_
  refine lj_istore_n C rfl (lv2 := [some (.ref (ld_ad w 0)), some (.int 0), none]) (Nat.le_of_ble_eq_true rfl) rfl dX3_allLight_1 ?_
  refine lj_iconst C (v := 0) (by decide) dX3_allLight_2 ?_
  refine lj_istore_n C rfl (lv2 := [some (.ref (ld_ad w 0)), some (.int 0), some (.int 0)]) (Nat.le_of_ble_eq_true rfl) rfl dX3_allLight_3 ?_
  exact bX3_allLight_4 l w C ld_fu Z 0 0
theorem inX3_preview_0 : ∀ q ∈ u_ws RX0 TX0 9, q ∈ wsX3_preview := fun _ h => List.mem_cons_of_mem _ (List.mem_append_left _ (List.mem_append_left _ (List.mem_append_left _ (List.mem_append_right _ h))))
theorem inX3_preview_2 : ∀ q ∈ u_ws RX2 TX2 4, q ∈ wsX3_preview := fun _ h => List.mem_cons_of_mem _ (List.mem_append_left _ (List.mem_append_left _ (List.mem_append_right _ h)))
theorem inX3_preview_3 : ∀ q ∈ u_ws RX3 TX3 7, q ∈ wsX3_preview := fun _ h => List.mem_cons_of_mem _ (List.mem_append_left _ (List.mem_append_left _ (List.mem_append_left _ (List.mem_append_left _ (List.mem_append_right _ h)))))
def kX3_preview_27 (a1 : Int32) (a2 : Int32) (a3 : Int32) : Nat → ld_M → Int32 → Int32 → Option (Int32 ⊕ Nat)
  | 0, _, _, _ => none
  | n + 1, Z, v5, v6 => if (12 : Int32) ≤ v6 then (some (.inl v5)) else (ld_bd (kX0_toldOrZero Z (ld_cu a1) a2 v6) (fun x48 => ld_bd (kX2_shineOn Z a3 v6 x48) (fun x51 => kX3_preview_27 a1 a2 a3 n Z (v5 + x51) (v6 + 1))))
set_option maxHeartbeats 4000000 in
set_option maxRecDepth 100000 in
theorem bX3_preview_27 {p : Program} {e : Env} {s : State} {m : MethodId} {args : Array Value} {below : List Frame} {meth : Method} {c : Code} (l : Launch) (w : ld_E) (a1 : Int32) (a2 : Int32) (a3 : Int32)  (hfl : l.stackTraces = false) (htb : ∀ x ∈ c.exceptionTable.toList, False)  {r : Int32 ⊕ Nat} (C : ld_C p l s m args meth c cX3_preview 7 (some .int) wsX3_preview RX3 w) : ∀ (n : Nat) (Z : ld_M) (v5 : Int32) (v6 : Int32), ld_T p l e ({ frames := 7, cells := 3, slots := 18, locals := 112 }) s m args below meth c (vx_MQ below (ld_Q1 w Z s.heap.size r) (ld_XC w Z s.heap.size r) args s 3 18 (ld_A w s.heap.size)) w r (kX3_preview_27 a1 a2 a3 n Z v5 v6) Z 3 18 27 [some (.ref (ld_ad w 0)), some (.int a1), some (.int a2), some (.int a3), some (.ref (ld_ad w (ld_cu a1))), some (.int v5), some (.int v6)] [] := by
  intro n
  induction n with
  | zero => exact fun _ _ _ h => nomatch h
  | succ n ih =>
    intro Z v5 v6
    refine lj_iload C rfl dX3_preview_27 ?_
    refine lj_bipush C (v := 12) (by decide) dX3_preview_29 ?_
    refine lj_icmp_ge C (tgt := 63) dX3_preview_31 (by decide) ?_ ?_
    · refine lj_iload C rfl dX3_preview_63 ?_
      exact lj_t1 C (by decide) (by decide) dX3_preview_65
    · refine lj_iload C rfl dX3_preview_34 ?_
      refine lj_aload_n C rfl rfl dX3_preview_36 ?_
      refine lj_get C (i := 0) (kk := 0) (G := (ld_f3 w)) (v := .ref (ld_ad w 3)) (Tb := TX3) (N := 7) (by decide) (fun _ => rfl) rfl inX3_preview_3 (by decide) (List.mem_of_getElem? (i := 1) rfl) rfl rfl dX3_preview_37 ?_
      refine lj_iload_n C rfl rfl dX3_preview_40 ?_
      refine lj_iload C rfl dX3_preview_41 ?_
      refine lj_aload C rfl dX3_preview_43 ?_
      refine lj_iload_n C rfl rfl dX3_preview_45 ?_
      refine lj_iload C rfl dX3_preview_46 ?_
      refine lj_cVa C (As := [.int a2, .int v6]) (rest := [.int v6, .int a3, .ref (ld_ad w 3), .int v5]) (i := (ld_cu a1)) (ci := 0) (Cn := RX0) (Tb := TX0) (N := 9) (fs := (ld_f0 w (ld_cu a1)) (Z (ld_cu a1))) (fun sz x hx => zX0_toldOrZero l w Z (ld_cu a1) a2 v6 (ld_cu_q _) hx sz) (cwV 2 C.2.2.2.2.1 gX3_preview_X0_toldOrZero rfl rfl rfl (by decide +kernel) ⟨Nat.le_of_ble_eq_true rfl, Nat.le_of_ble_eq_true rfl⟩) (ld_q_lt0 (ld_cu_q _)) ((ld_q_cell (ld_cu_q _)) _) rfl rfl rfl rfl (Nat.le_of_ble_eq_true rfl) ⟨Nat.le_of_ble_eq_true rfl, Nat.le_of_ble_eq_true rfl⟩ dX3_preview_48 (fun x48 hx48 => ?_)
      refine lj_cVa C (As := [.int a3, .int v6, .int x48]) (rest := [.int v5]) (i := 3) (ci := 2) (Cn := RX2) (Tb := TX2) (N := 4) (fs := (ld_f2 w) (Z 3)) (fun sz x hx => zX2_shineOn l w Z a3 v6 x48 hx sz) (cwV 3 C.2.2.2.2.1 gX3_preview_X2_shineOn rfl rfl rfl (by decide +kernel) ⟨Nat.le_of_ble_eq_true rfl, Nat.le_of_ble_eq_true rfl⟩) (by decide) ((fun _ => rfl) _) rfl rfl rfl rfl (Nat.le_of_ble_eq_true rfl) ⟨Nat.le_of_ble_eq_true rfl, Nat.le_of_ble_eq_true rfl⟩ dX3_preview_51 (fun x51 hx51 => ?_)
      refine lj_iadd C dX3_preview_54 ?_
      refine lj_istore C (lv2 := [some (.ref (ld_ad w 0)), some (.int a1), some (.int a2), some (.int a3), some (.ref (ld_ad w (ld_cu a1))), some (.int (v5 + x51)), some (.int v6)]) (Nat.le_of_ble_eq_true rfl) rfl dX3_preview_55 ?_
      refine lj_iinc C (i := 6) (v := (v6 + 1)) (lv2 := [some (.ref (ld_ad w 0)), some (.int a1), some (.int a2), some (.int a3), some (.ref (ld_ad w (ld_cu a1))), some (.int (v5 + x51)), some (.int (v6 + 1))]) rfl rfl rfl dX3_preview_57 ?_
      refine lj_goto C (tgt := 27) dX3_preview_60 (by decide) ?_
      exact ih Z (v5 + x51) (v6 + 1)
def kX3_preview (Z : ld_M) (a1 : Int32) (a2 : Int32) (a3 : Int32) : Option (Int32 ⊕ Nat) := ld_bx (kX3_needList Z a1) (fun x1 => ld_bx (kX3_needNight Z a3) (fun x5 => ld_bx (kX3_needCue Z a1 a2) (fun x11 => kX3_preview_27 a1 a2 a3 ld_fu Z 0 0)))
set_option maxHeartbeats 4000000 in
set_option maxRecDepth 100000 in
theorem zX3_preview (l : Launch) (hfl : l.stackTraces = false) (w : ld_E) (Z : ld_M) (a1 : Int32) (a2 : Int32) (a3 : Int32)  {r : Int32 ⊕ Nat} (hr : kX3_preview Z a1 a2 a3 = some r) (sz : Nat) : vx_Met l yX3_preview wsX3_preview ({ frames := 7, cells := 3, slots := 18, locals := 112 }) (ld_Pc w Z sz [.ref (ld_ad w 0), .int a1, .int a2, .int a3]) (ld_Q1 w Z sz r) (ld_XC w Z sz r) 3 18 (ld_A w sz) := by
  refine ld_ofX (ws := wsX3_preview) (Qc := fun sz9 => ld_Q1 w Z sz9 r) (XC := fun sz9 => ld_XC w Z sz9 r) RX3 (by decide +kernel) rfl rfl (by simp [Value.category]) (Nat.le_of_ble_eq_true rfl) sz ?_
  intro p e s m args below meth c C htb
  revert hr
  show ld_T p l e ({ frames := 7, cells := 3, slots := 18, locals := 112 }) s m args below meth c (vx_MQ below (ld_Q1 w Z s.heap.size r) (ld_XC w Z s.heap.size r) args s 3 18 (ld_A w s.heap.size)) w r (kX3_preview Z a1 a2 a3) Z 0 0 0 [some (.ref (ld_ad w 0)), some (.int a1), some (.int a2), some (.int a3), none, none, none] []
  unfold kX3_preview
  refine lj_iload_n C rfl rfl dX3_preview_0 ?_
  refine lj_xS0 C htb (As := [.int a1]) (rest := []) (fun sz x hx => zX3_needList l hfl w Z a1 hx sz) (va_cwS 1 C.2.2.2.2.1 gX3_preview_X3_needList rfl rfl rfl (by decide +kernel) ⟨Nat.le_of_ble_eq_true rfl, Nat.le_of_ble_eq_true rfl⟩) rfl rfl rfl (Nat.le_of_ble_eq_true rfl) ⟨Nat.le_of_ble_eq_true rfl, Nat.le_of_ble_eq_true rfl⟩ (by decide) (by decide) dX3_preview_1 (fun x1 hx1 => ?_)
  refine lj_iload_n C rfl rfl dX3_preview_4 ?_
  refine lj_xS0 C htb (As := [.int a3]) (rest := []) (fun sz x hx => zX3_needNight l hfl w Z a3 hx sz) (va_cwS 1 C.2.2.2.2.1 gX3_preview_X3_needNight rfl rfl rfl (by decide +kernel) ⟨Nat.le_of_ble_eq_true rfl, Nat.le_of_ble_eq_true rfl⟩) rfl rfl rfl (Nat.le_of_ble_eq_true rfl) ⟨Nat.le_of_ble_eq_true rfl, Nat.le_of_ble_eq_true rfl⟩ (by decide) (by decide) dX3_preview_5 (fun x5 hx5 => ?_)
  refine lj_aload_n C rfl rfl dX3_preview_8 ?_
  refine lj_iload_n C rfl rfl dX3_preview_9 ?_
  refine lj_iload_n C rfl rfl dX3_preview_10 ?_
  refine lj_xV0 C htb (As := [.int a1, .int a2]) (rest := []) (i := 0) (ci := 3) (Cn := RX3) (Tb := TX3) (N := 7) (fs := (ld_f3 w) (Z 0)) (fun sz x hx => zX3_needCue l hfl w Z a1 a2 hx sz) (cwV 2 C.2.2.2.2.1 gX3_preview_X3_needCue rfl rfl rfl (by decide +kernel) ⟨Nat.le_of_ble_eq_true rfl, Nat.le_of_ble_eq_true rfl⟩) (by decide) ((fun _ => rfl) _) rfl rfl rfl rfl (Nat.le_of_ble_eq_true rfl) ⟨Nat.le_of_ble_eq_true rfl, Nat.le_of_ble_eq_true rfl⟩ (by decide) (by decide) dX3_preview_11 (fun x11 hx11 => ?_)
  refine lj_aload_n C rfl rfl dX3_preview_14 ?_
  refine lj_iload_n C rfl rfl dX3_preview_15 ?_
  refine lj_cu C (a := a1) (rest := []) (cwV 1 C.2.2.2.2.1 gX3_preview_X3_cuesOf rfl rfl rfl (by decide +kernel) ⟨Nat.le_of_ble_eq_true rfl, Nat.le_of_ble_eq_true rfl⟩) rfl rfl (Nat.le_of_ble_eq_true rfl) ⟨Nat.le_of_ble_eq_true rfl, Nat.le_of_ble_eq_true rfl⟩ dX3_preview_16 ?_
  refine lj_astore C (lv2 := [some (.ref (ld_ad w 0)), some (.int a1), some (.int a2), some (.int a3), some (.ref (ld_ad w (ld_cu a1))), none, none]) (Nat.le_of_ble_eq_true rfl) rfl dX3_preview_19 ?_
  refine lj_iconst C (v := 0) (by decide) dX3_preview_21 ?_
  refine lj_istore C (lv2 := [some (.ref (ld_ad w 0)), some (.int a1), some (.int a2), some (.int a3), some (.ref (ld_ad w (ld_cu a1))), some (.int 0), none]) (Nat.le_of_ble_eq_true rfl) rfl dX3_preview_22 ?_
  refine lj_iconst C (v := 0) (by decide) dX3_preview_24 ?_
  refine lj_istore C (lv2 := [some (.ref (ld_ad w 0)), some (.int a1), some (.int a2), some (.int a3), some (.ref (ld_ad w (ld_cu a1))), some (.int 0), some (.int 0)]) (Nat.le_of_ble_eq_true rfl) rfl dX3_preview_25 ?_
  exact bX3_preview_27 l w a1 a2 a3 hfl htb C ld_fu Z 0 0
theorem inX3_touched_0 : ∀ q ∈ u_ws RX0 TX0 9, q ∈ wsX3_touched := fun _ h => List.mem_cons_of_mem _ (List.mem_append_left _ (List.mem_append_left _ (List.mem_append_right _ h)))
theorem inX3_touched_2 : ∀ q ∈ u_ws RX2 TX2 4, q ∈ wsX3_touched := fun _ h => List.mem_cons_of_mem _ (List.mem_append_left _ (List.mem_append_left _ (List.mem_append_left _ (List.mem_append_right _ h))))
theorem inX3_touched_3 : ∀ q ∈ u_ws RX3 TX3 7, q ∈ wsX3_touched := fun _ h => List.mem_cons_of_mem _ (List.mem_append_left _ (List.mem_append_left _ (List.mem_append_left _ (List.mem_append_left _ (List.mem_append_right _ h)))))
def kX3_touched (Z : ld_M) (a1 : Int32) (a2 : Int32) (a3 : Int32) (a4 : Int32) : Option (Int32 ⊕ Nat) := ld_bx (kX3_needLamp Z a1) (fun x2 => ld_bx (kX3_needLampKind Z a2 a3) (fun x7 => ld_bx (kX3_needNight Z a4) (fun x12 => ld_bd (kX2_channelOf Z a4 a1) (fun x22 => if (x22 : Int32) = (-1) then (some (.inl 0)) else (ld_bd (kX3_countTouched Z 11 a1 a2 a3 x22) (fun x45 => ld_bd (kX3_countTouched Z 28 a1 a2 a3 x22) (fun x58 => some (.inl (x45 + x58)))))))))
set_option maxHeartbeats 4000000 in
set_option maxRecDepth 100000 in
theorem zX3_touched (l : Launch) (hfl : l.stackTraces = false) (w : ld_E) (Z : ld_M) (a1 : Int32) (a2 : Int32) (a3 : Int32) (a4 : Int32)  {r : Int32 ⊕ Nat} (hr : kX3_touched Z a1 a2 a3 a4 = some r) (sz : Nat) : vx_Met l yX3_touched wsX3_touched ({ frames := 7, cells := 3, slots := 18, locals := 111 }) (ld_Pc w Z sz [.ref (ld_ad w 0), .int a1, .int a2, .int a3, .int a4]) (ld_Q1 w Z sz r) (ld_XC w Z sz r) 3 18 (ld_A w sz) := by
  refine ld_ofX (ws := wsX3_touched) (Qc := fun sz9 => ld_Q1 w Z sz9 r) (XC := fun sz9 => ld_XC w Z sz9 r) RX3 (by decide +kernel) rfl rfl (by simp [Value.category]) (Nat.le_of_ble_eq_true rfl) sz ?_
  intro p e s m args below meth c C htb
  revert hr
  show ld_T p l e ({ frames := 7, cells := 3, slots := 18, locals := 111 }) s m args below meth c (vx_MQ below (ld_Q1 w Z s.heap.size r) (ld_XC w Z s.heap.size r) args s 3 18 (ld_A w s.heap.size)) w r (kX3_touched Z a1 a2 a3 a4) Z 0 0 0 [some (.ref (ld_ad w 0)), some (.int a1), some (.int a2), some (.int a3), some (.int a4), none] []
  unfold kX3_touched
  refine lj_aload_n C rfl rfl dX3_touched_0 ?_
  refine lj_iload_n C rfl rfl dX3_touched_1 ?_
  refine lj_xV0 C htb (As := [.int a1]) (rest := []) (i := 0) (ci := 3) (Cn := RX3) (Tb := TX3) (N := 7) (fs := (ld_f3 w) (Z 0)) (fun sz x hx => zX3_needLamp l hfl w Z a1 hx sz) (cwV 1 C.2.2.2.2.1 gX3_touched_X3_needLamp rfl rfl rfl (by decide +kernel) ⟨Nat.le_of_ble_eq_true rfl, Nat.le_of_ble_eq_true rfl⟩) (by decide) ((fun _ => rfl) _) rfl rfl rfl rfl (Nat.le_of_ble_eq_true rfl) ⟨Nat.le_of_ble_eq_true rfl, Nat.le_of_ble_eq_true rfl⟩ (by decide) (by decide) dX3_touched_2 (fun x2 hx2 => ?_)
  refine lj_iload_n C rfl rfl dX3_touched_5 ?_
  refine lj_iload_n C rfl rfl dX3_touched_6 ?_
  refine lj_xS0 C htb (As := [.int a2, .int a3]) (rest := []) (fun sz x hx => zX3_needLampKind l hfl w Z a2 a3 hx sz) (va_cwS 2 C.2.2.2.2.1 gX3_touched_X3_needLampKind rfl rfl rfl (by decide +kernel) ⟨Nat.le_of_ble_eq_true rfl, Nat.le_of_ble_eq_true rfl⟩) rfl rfl rfl (Nat.le_of_ble_eq_true rfl) ⟨Nat.le_of_ble_eq_true rfl, Nat.le_of_ble_eq_true rfl⟩ (by decide) (by decide) dX3_touched_7 (fun x7 hx7 => ?_)
  refine lj_iload C rfl dX3_touched_10 ?_
  refine lj_xS0 C htb (As := [.int a4]) (rest := []) (fun sz x hx => zX3_needNight l hfl w Z a4 hx sz) (va_cwS 1 C.2.2.2.2.1 gX3_touched_X3_needNight rfl rfl rfl (by decide +kernel) ⟨Nat.le_of_ble_eq_true rfl, Nat.le_of_ble_eq_true rfl⟩) rfl rfl rfl (Nat.le_of_ble_eq_true rfl) ⟨Nat.le_of_ble_eq_true rfl, Nat.le_of_ble_eq_true rfl⟩ (by decide) (by decide) dX3_touched_12 (fun x12 hx12 => ?_)
  refine lj_aload_n C rfl rfl dX3_touched_15 ?_
  refine lj_get C (i := 0) (kk := 0) (G := (ld_f3 w)) (v := .ref (ld_ad w 3)) (Tb := TX3) (N := 7) (by decide) (fun _ => rfl) rfl inX3_touched_3 (by decide) (List.mem_of_getElem? (i := 1) rfl) rfl rfl dX3_touched_16 ?_
  refine lj_iload C rfl dX3_touched_19 ?_
  refine lj_iload_n C rfl rfl dX3_touched_21 ?_
  refine lj_cVa C (As := [.int a4, .int a1]) (rest := []) (i := 3) (ci := 2) (Cn := RX2) (Tb := TX2) (N := 4) (fs := (ld_f2 w) (Z 3)) (fun sz x hx => zX2_channelOf l w Z a4 a1 hx sz) (cwV 2 C.2.2.2.2.1 gX3_touched_X2_channelOf rfl rfl rfl (by decide +kernel) ⟨Nat.le_of_ble_eq_true rfl, Nat.le_of_ble_eq_true rfl⟩) (by decide) ((fun _ => rfl) _) rfl rfl rfl rfl (Nat.le_of_ble_eq_true rfl) ⟨Nat.le_of_ble_eq_true rfl, Nat.le_of_ble_eq_true rfl⟩ dX3_touched_22 (fun x22 hx22 => ?_)
  refine lj_istore C (lv2 := [some (.ref (ld_ad w 0)), some (.int a1), some (.int a2), some (.int a3), some (.int a4), some (.int x22)]) (Nat.le_of_ble_eq_true rfl) rfl dX3_touched_25 ?_
  refine lj_iload C rfl dX3_touched_27 ?_
  refine lj_iconst C (v := (-1)) (by decide) dX3_touched_29 ?_
  refine lj_icmp_ne C (tgt := 35) dX3_touched_30 (by decide) ?_ ?_
  · refine lj_aload_n C rfl rfl dX3_touched_35 ?_
    refine lj_aload_n C rfl rfl dX3_touched_36 ?_
    refine lj_get C (i := 0) (kk := 1) (G := (ld_f3 w)) (v := .ref (ld_ad w 11)) (Tb := TX3) (N := 7) (by decide) (fun _ => rfl) rfl inX3_touched_3 (by decide) (List.mem_of_getElem? (i := 2) rfl) rfl rfl dX3_touched_37 ?_
    refine lj_iload_n C rfl rfl dX3_touched_40 ?_
    refine lj_iload_n C rfl rfl dX3_touched_41 ?_
    refine lj_iload_n C rfl rfl dX3_touched_42 ?_
    refine lj_iload C rfl dX3_touched_43 ?_
    refine lj_cVa C (As := [.ref (ld_ad w 11), .int a1, .int a2, .int a3, .int x22]) (rest := []) (i := 0) (ci := 3) (Cn := RX3) (Tb := TX3) (N := 7) (fs := (ld_f3 w) (Z 0)) (fun sz x hx => zX3_countTouched l w Z 11 a1 a2 a3 x22 (Or.inl rfl) hx sz) (cwV 5 C.2.2.2.2.1 gX3_touched_X3_countTouched rfl rfl rfl (by decide +kernel) ⟨Nat.le_of_ble_eq_true rfl, Nat.le_of_ble_eq_true rfl⟩) (by decide) ((fun _ => rfl) _) rfl rfl rfl rfl (Nat.le_of_ble_eq_true rfl) ⟨Nat.le_of_ble_eq_true rfl, Nat.le_of_ble_eq_true rfl⟩ dX3_touched_45 (fun x45 hx45 => ?_)
    refine lj_aload_n C rfl rfl dX3_touched_48 ?_
    refine lj_aload_n C rfl rfl dX3_touched_49 ?_
    refine lj_get C (i := 0) (kk := 2) (G := (ld_f3 w)) (v := .ref (ld_ad w 28)) (Tb := TX3) (N := 7) (by decide) (fun _ => rfl) rfl inX3_touched_3 (by decide) (List.mem_of_getElem? (i := 3) rfl) rfl rfl dX3_touched_50 ?_
    refine lj_iload_n C rfl rfl dX3_touched_53 ?_
    refine lj_iload_n C rfl rfl dX3_touched_54 ?_
    refine lj_iload_n C rfl rfl dX3_touched_55 ?_
    refine lj_iload C rfl dX3_touched_56 ?_
    refine lj_cVa C (As := [.ref (ld_ad w 28), .int a1, .int a2, .int a3, .int x22]) (rest := [.int x45]) (i := 0) (ci := 3) (Cn := RX3) (Tb := TX3) (N := 7) (fs := (ld_f3 w) (Z 0)) (fun sz x hx => zX3_countTouched l w Z 28 a1 a2 a3 x22 (Or.inr rfl) hx sz) (cwV 5 C.2.2.2.2.1 gX3_touched_X3_countTouched rfl rfl rfl (by decide +kernel) ⟨Nat.le_of_ble_eq_true rfl, Nat.le_of_ble_eq_true rfl⟩) (by decide) ((fun _ => rfl) _) rfl rfl rfl rfl (Nat.le_of_ble_eq_true rfl) ⟨Nat.le_of_ble_eq_true rfl, Nat.le_of_ble_eq_true rfl⟩ dX3_touched_58 (fun x58 hx58 => ?_)
    refine lj_iadd C dX3_touched_61 ?_
    exact lj_t1 C (by decide) (by decide) dX3_touched_62
  · refine lj_iconst C (v := 0) (by decide) dX3_touched_33 ?_
    exact lj_t1 C (by decide) (by decide) dX3_touched_34
