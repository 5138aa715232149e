theorem inX4_thrown_4 : ∀ q ∈ u_ws RX4 TX4 23, q ∈ wsX4_thrown := fun _ h => List.mem_cons_of_mem _ (List.mem_append_right _ h)
def kX4_thrown (Z : ld_M)  : Option (Int32) := some (Z 67 22)
set_option maxHeartbeats 4000000 in
set_option maxRecDepth 100000 in
theorem zX4_thrown (l : Launch) (w : ld_E) (Z : ld_M)   {r : Int32} (hr : kX4_thrown Z  = some r) (sz : Nat) : Met l yX4_thrown wsX4_thrown ({ frames := 0, cells := 0, slots := 0, locals := 0 }) (ld_Pc w Z sz [.ref (ld_ad w 67)]) (ld_Q w Z sz (some (.int r))) 0 0 (ld_A w sz) := by
  refine ld_ofW (ws := wsX4_thrown) (Qc := fun sz9 => ld_Q w Z sz9 (some (.int r))) RX4 (by decide +kernel) rfl rfl (by simp [Value.category]) (Nat.le_of_ble_eq_true rfl) sz ?_
  intro p e s m args below meth c C
  revert hr
  show ld_T p l e ({ frames := 0, cells := 0, slots := 0, locals := 0 }) s m args below meth c (MQ below (ld_Q w Z s.heap.size (some (.int r))) args s 0 0 (ld_A w s.heap.size)) w r (kX4_thrown Z ) Z 0 0 0 [some (.ref (ld_ad w 67))] []
  unfold kX4_thrown
  refine lj_aload_n C rfl rfl dX4_thrown_0 ?_
  refine lj_get C (i := 67) (kk := 22) (G := (ld_f4 w)) (v := .int (Z 67 22)) (Tb := TX4) (N := 23) (by decide) (fun _ => rfl) rfl inX4_thrown_4 (by decide) (List.mem_of_getElem? (i := 1) rfl) rfl rfl dX4_thrown_1 ?_
  exact lj_ra C (by decide) (by decide) dX4_thrown_4
theorem inX4_fails_4 : ∀ q ∈ u_ws RX4 TX4 23, q ∈ wsX4_fails := fun _ h => List.mem_cons_of_mem _ (List.mem_append_right _ h)
def kX4_fails (Z : ld_M) (a1 : Int32) : Option (Int32 × ld_M) := some (0, (ld_up Z 67 22 a1))
set_option maxHeartbeats 4000000 in
set_option maxRecDepth 100000 in
theorem zX4_fails (l : Launch) (w : ld_E) (Z : ld_M) (a1 : Int32)  {r : Int32 × ld_M} (hr : kX4_fails Z a1 = some r) (sz : Nat) : Met l yX4_fails wsX4_fails ({ frames := 0, cells := 0, slots := 0, locals := 0 }) (ld_Pc w Z sz [.ref (ld_ad w 67), .int a1]) (ld_Q w r.2 sz (some (.int r.1))) 0 0 (ld_A w sz) := by
  refine ld_ofW (ws := wsX4_fails) (Qc := fun sz9 => ld_Q w r.2 sz9 (some (.int r.1))) RX4 (by decide +kernel) rfl rfl (by simp [Value.category]) (Nat.le_of_ble_eq_true rfl) sz ?_
  intro p e s m args below meth c C
  revert hr
  show ld_T p l e ({ frames := 0, cells := 0, slots := 0, locals := 0 }) s m args below meth c (MQ below (ld_Q w r.2 s.heap.size (some (.int r.1))) args s 0 0 (ld_A w s.heap.size)) w r (kX4_fails Z a1) Z 0 0 0 [some (.ref (ld_ad w 67)), some (.int a1)] []
  unfold kX4_fails
  refine lj_aload_n C rfl rfl dX4_fails_0 ?_
  refine lj_iload_n C rfl rfl dX4_fails_1 ?_
  refine lj_put C (i := 67) (kk := 22) (G := (ld_f4 w)) (Tb := TX4) (N := 23) (by decide) (fun _ => rfl) rfl inX4_fails_4 (by decide) (List.mem_of_getElem? (i := 1) rfl) rfl tyX4 tyX4_ok nmX4 rfl (by decide +kernel) (Nat.le_of_ble_eq_true rfl) rfl dX4_fails_2 ?_
  refine lj_iconst C (v := 0) (by decide) dX4_fails_5 ?_
  exact lj_rb C (by decide) (by decide) dX4_fails_6
def kX4_in_15 (a1 : Int32) (a2 : Int32) (a3 : Int32) (Z : ld_M) (t0 : Int32) : Option (Int32) := ld_ck (ld_b t0) (some t0)
set_option maxHeartbeats 4000000 in
set_option maxRecDepth 100000 in
theorem bX4_in_15 {p : Program} {e : Env} {s : State} {m : MethodId} {args : Array Value} {below : List Frame} {meth : Method} {c : Code} (l : Launch) (w : ld_E) (a1 : Int32) (a2 : Int32) (a3 : Int32)   {r : Int32} (C : ld_C p l s m args meth c cX4_in 3 (some .boolean) wsX4_in RX4 w) (Z : ld_M) (t0 : Int32) : ld_T p l e ({ frames := 0, cells := 0, slots := 0, locals := 0 }) s m args below meth c (MQ below (ld_Q w Z s.heap.size (some (.int r))) args s 0 0 (ld_A w s.heap.size)) w r (kX4_in_15 a1 a2 a3 Z t0) Z 0 0 15 [some (.int a1), some (.int a2), some (.int a3)] [.int t0] := by
  unfold kX4_in_15
  exact lj_ra_z C (by decide) (by decide) dX4_in_15
def kX4_in_14 (a1 : Int32) (a2 : Int32) (a3 : Int32) (Z : ld_M)  : Option (Int32) := kX4_in_15 a1 a2 a3 Z 0
set_option maxHeartbeats 4000000 in
set_option maxRecDepth 100000 in
theorem bX4_in_14 {p : Program} {e : Env} {s : State} {m : MethodId} {args : Array Value} {below : List Frame} {meth : Method} {c : Code} (l : Launch) (w : ld_E) (a1 : Int32) (a2 : Int32) (a3 : Int32)   {r : Int32} (C : ld_C p l s m args meth c cX4_in 3 (some .boolean) wsX4_in RX4 w) (Z : ld_M)  : ld_T p l e ({ frames := 0, cells := 0, slots := 0, locals := 0 }) s m args below meth c (MQ below (ld_Q w Z s.heap.size (some (.int r))) args s 0 0 (ld_A w s.heap.size)) w r (kX4_in_14 a1 a2 a3 Z ) Z 0 0 14 [some (.int a1), some (.int a2), some (.int a3)] [] := by
  unfold kX4_in_14
  refine lj_iconst C (v := 0) (by decide) dX4_in_14 ?_
  exact bX4_in_15 l w a1 a2 a3 C Z 0
def kX4_in (Z : ld_M) (a1 : Int32) (a2 : Int32) (a3 : Int32) : Option (Int32) := if (a1 : Int32) < a2 then (kX4_in_14 a1 a2 a3 Z) else (if (a3 : Int32) < a1 then (kX4_in_14 a1 a2 a3 Z) else (kX4_in_15 a1 a2 a3 Z 1))
set_option maxHeartbeats 4000000 in
set_option maxRecDepth 100000 in
theorem zX4_in (l : Launch) (w : ld_E) (Z : ld_M) (a1 : Int32) (a2 : Int32) (a3 : Int32)  {r : Int32} (hr : kX4_in Z a1 a2 a3 = some r) (sz : Nat) : Met l yX4_in wsX4_in ({ frames := 0, cells := 0, slots := 0, locals := 0 }) (ld_Pc w Z sz [.int a1, .int a2, .int a3]) (ld_Q w Z sz (some (.int r))) 0 0 (ld_A w sz) := by
  refine ld_ofW (ws := wsX4_in) (Qc := fun sz9 => ld_Q w Z sz9 (some (.int r))) RX4 (by decide +kernel) rfl rfl (by simp [Value.category]) (Nat.le_of_ble_eq_true rfl) sz ?_
  intro p e s m args below meth c C
  revert hr
  show ld_T p l e ({ frames := 0, cells := 0, slots := 0, locals := 0 }) s m args below meth c (MQ below (ld_Q w Z s.heap.size (some (.int r))) args s 0 0 (ld_A w s.heap.size)) w r (kX4_in Z a1 a2 a3) Z 0 0 0 [some (.int a1), some (.int a2), some (.int a3)] []
  unfold kX4_in
  refine lj_iload_n C rfl rfl dX4_in_0 ?_
  refine lj_iload_n C rfl rfl dX4_in_1 ?_
  refine lj_icmp_lt C (tgt := 14) dX4_in_2 (by decide) ?_ ?_
  · exact bX4_in_14 l w a1 a2 a3 C Z
  · refine lj_iload_n C rfl rfl dX4_in_5 ?_
    refine lj_iload_n C rfl rfl dX4_in_6 ?_
    refine lj_icmp_gt C (tgt := 14) dX4_in_7 (by decide) ?_ ?_
    · exact bX4_in_14 l w a1 a2 a3 C Z
    · refine lj_iconst C (v := 1) (by decide) dX4_in_10 ?_
      refine lj_goto C (tgt := 15) dX4_in_11 (by decide) ?_
      exact bX4_in_15 l w a1 a2 a3 C Z 1
def kX4_isList (Z : ld_M) (a1 : Int32) : Option (Int32) := ld_bd (kX4_in Z a1 0 1) (fun x3 => ld_ck (ld_b x3) (some x3))
set_option maxHeartbeats 4000000 in
set_option maxRecDepth 100000 in
theorem zX4_isList (l : Launch) (w : ld_E) (Z : ld_M) (a1 : Int32)  {r : Int32} (hr : kX4_isList Z a1 = some r) (sz : Nat) : Met l yX4_isList wsX4_isList ({ frames := 1, cells := 0, slots := 0, locals := 22 }) (ld_Pc w Z sz [.int a1]) (ld_Q w Z sz (some (.int r))) 0 0 (ld_A w sz) := by
  refine ld_ofW (ws := wsX4_isList) (Qc := fun sz9 => ld_Q w Z sz9 (some (.int r))) RX4 (by decide +kernel) rfl rfl (by simp [Value.category]) (Nat.le_of_ble_eq_true rfl) sz ?_
  intro p e s m args below meth c C
  revert hr
  show ld_T p l e ({ frames := 1, cells := 0, slots := 0, locals := 22 }) s m args below meth c (MQ below (ld_Q w Z s.heap.size (some (.int r))) args s 0 0 (ld_A w s.heap.size)) w r (kX4_isList Z a1) Z 0 0 0 [some (.int a1)] []
  unfold kX4_isList
  refine lj_iload_n C rfl rfl dX4_isList_0 ?_
  refine lj_iconst C (v := 0) (by decide) dX4_isList_1 ?_
  refine lj_iconst C (v := 1) (by decide) dX4_isList_2 ?_
  refine lj_cSa C (As := [.int a1, .int 0, .int 1]) (rest := []) (fun sz x hx => zX4_in l w Z a1 0 1 hx sz) (va_cwS 3 C.2.2.2.2.1 gX4_isList_X4_in rfl rfl rfl (by decide +kernel) ⟨Nat.le_of_ble_eq_true rfl, Nat.le_of_ble_eq_true rfl⟩) rfl rfl rfl (Nat.le_of_ble_eq_true rfl) ⟨Nat.le_of_ble_eq_true rfl, Nat.le_of_ble_eq_true rfl⟩ dX4_isList_3 (fun x3 hx3 => ?_)
  exact lj_ra_z C (by decide) (by decide) dX4_isList_6
def kX4_isChannel (Z : ld_M) (a1 : Int32) : Option (Int32) := ld_bd (kX4_in Z a1 0 11) (fun x4 => ld_ck (ld_b x4) (some x4))
set_option maxHeartbeats 4000000 in
set_option maxRecDepth 100000 in
theorem zX4_isChannel (l : Launch) (w : ld_E) (Z : ld_M) (a1 : Int32)  {r : Int32} (hr : kX4_isChannel Z a1 = some r) (sz : Nat) : Met l yX4_isChannel wsX4_isChannel ({ frames := 1, cells := 0, slots := 0, locals := 22 }) (ld_Pc w Z sz [.int a1]) (ld_Q w Z sz (some (.int r))) 0 0 (ld_A w sz) := by
  refine ld_ofW (ws := wsX4_isChannel) (Qc := fun sz9 => ld_Q w Z sz9 (some (.int r))) RX4 (by decide +kernel) rfl rfl (by simp [Value.category]) (Nat.le_of_ble_eq_true rfl) sz ?_
  intro p e s m args below meth c C
  revert hr
  show ld_T p l e ({ frames := 1, cells := 0, slots := 0, locals := 22 }) s m args below meth c (MQ below (ld_Q w Z s.heap.size (some (.int r))) args s 0 0 (ld_A w s.heap.size)) w r (kX4_isChannel Z a1) Z 0 0 0 [some (.int a1)] []
  unfold kX4_isChannel
  refine lj_iload_n C rfl rfl dX4_isChannel_0 ?_
  refine lj_iconst C (v := 0) (by decide) dX4_isChannel_1 ?_
  refine lj_bipush C (v := 11) (by decide) dX4_isChannel_2 ?_
  refine lj_cSa C (As := [.int a1, .int 0, .int 11]) (rest := []) (fun sz x hx => zX4_in l w Z a1 0 11 hx sz) (va_cwS 3 C.2.2.2.2.1 gX4_isChannel_X4_in rfl rfl rfl (by decide +kernel) ⟨Nat.le_of_ble_eq_true rfl, Nat.le_of_ble_eq_true rfl⟩) rfl rfl rfl (Nat.le_of_ble_eq_true rfl) ⟨Nat.le_of_ble_eq_true rfl, Nat.le_of_ble_eq_true rfl⟩ dX4_isChannel_4 (fun x4 hx4 => ?_)
  exact lj_ra_z C (by decide) (by decide) dX4_isChannel_7
def kX4_isNight (Z : ld_M) (a1 : Int32) : Option (Int32) := ld_bd (kX4_in Z a1 0 3) (fun x3 => ld_ck (ld_b x3) (some x3))
set_option maxHeartbeats 4000000 in
set_option maxRecDepth 100000 in
theorem zX4_isNight (l : Launch) (w : ld_E) (Z : ld_M) (a1 : Int32)  {r : Int32} (hr : kX4_isNight Z a1 = some r) (sz : Nat) : Met l yX4_isNight wsX4_isNight ({ frames := 1, cells := 0, slots := 0, locals := 22 }) (ld_Pc w Z sz [.int a1]) (ld_Q w Z sz (some (.int r))) 0 0 (ld_A w sz) := by
  refine ld_ofW (ws := wsX4_isNight) (Qc := fun sz9 => ld_Q w Z sz9 (some (.int r))) RX4 (by decide +kernel) rfl rfl (by simp [Value.category]) (Nat.le_of_ble_eq_true rfl) sz ?_
  intro p e s m args below meth c C
  revert hr
  show ld_T p l e ({ frames := 1, cells := 0, slots := 0, locals := 22 }) s m args below meth c (MQ below (ld_Q w Z s.heap.size (some (.int r))) args s 0 0 (ld_A w s.heap.size)) w r (kX4_isNight Z a1) Z 0 0 0 [some (.int a1)] []
  unfold kX4_isNight
  refine lj_iload_n C rfl rfl dX4_isNight_0 ?_
  refine lj_iconst C (v := 0) (by decide) dX4_isNight_1 ?_
  refine lj_iconst C (v := 3) (by decide) dX4_isNight_2 ?_
  refine lj_cSa C (As := [.int a1, .int 0, .int 3]) (rest := []) (fun sz x hx => zX4_in l w Z a1 0 3 hx sz) (va_cwS 3 C.2.2.2.2.1 gX4_isNight_X4_in rfl rfl rfl (by decide +kernel) ⟨Nat.le_of_ble_eq_true rfl, Nat.le_of_ble_eq_true rfl⟩) rfl rfl rfl (Nat.le_of_ble_eq_true rfl) ⟨Nat.le_of_ble_eq_true rfl, Nat.le_of_ble_eq_true rfl⟩ dX4_isNight_3 (fun x3 hx3 => ?_)
  exact lj_ra_z C (by decide) (by decide) dX4_isNight_6
def kX4_isMade_25 (a1 : Int32) (a2 : Int32) (Z : ld_M) (t0 : Int32) : Option (Int32) := ld_ck (ld_b t0) (some t0)
set_option maxHeartbeats 4000000 in
set_option maxRecDepth 100000 in
theorem bX4_isMade_25 {p : Program} {e : Env} {s : State} {m : MethodId} {args : Array Value} {below : List Frame} {meth : Method} {c : Code} (l : Launch) (w : ld_E) (a1 : Int32) (a2 : Int32)   {r : Int32} (C : ld_C p l s m args meth c cX4_isMade 2 (some .boolean) wsX4_isMade RX4 w) (Z : ld_M) (t0 : Int32) : ld_T p l e ({ frames := 1, cells := 0, slots := 0, locals := 22 }) s m args below meth c (MQ below (ld_Q w Z s.heap.size (some (.int r))) args s 0 0 (ld_A w s.heap.size)) w r (kX4_isMade_25 a1 a2 Z t0) Z 0 0 25 [some (.int a1), some (.int a2)] [.int t0] := by
  unfold kX4_isMade_25
  exact lj_ra_z C (by decide) (by decide) dX4_isMade_25
def kX4_isMade_24 (a1 : Int32) (a2 : Int32) (Z : ld_M)  : Option (Int32) := kX4_isMade_25 a1 a2 Z 0
set_option maxHeartbeats 4000000 in
set_option maxRecDepth 100000 in
theorem bX4_isMade_24 {p : Program} {e : Env} {s : State} {m : MethodId} {args : Array Value} {below : List Frame} {meth : Method} {c : Code} (l : Launch) (w : ld_E) (a1 : Int32) (a2 : Int32)   {r : Int32} (C : ld_C p l s m args meth c cX4_isMade 2 (some .boolean) wsX4_isMade RX4 w) (Z : ld_M)  : ld_T p l e ({ frames := 1, cells := 0, slots := 0, locals := 22 }) s m args below meth c (MQ below (ld_Q w Z s.heap.size (some (.int r))) args s 0 0 (ld_A w s.heap.size)) w r (kX4_isMade_24 a1 a2 Z ) Z 0 0 24 [some (.int a1), some (.int a2)] [] := by
  unfold kX4_isMade_24
  refine lj_iconst C (v := 0) (by decide) dX4_isMade_24 ?_
  exact bX4_isMade_25 l w a1 a2 C Z 0
def kX4_isMade (Z : ld_M) (a1 : Int32) (a2 : Int32) : Option (Int32) := ld_bd (kX4_in Z a1 1 20) (fun x4 => if (x4 : Int32) = 0 then (kX4_isMade_24 a1 a2 Z) else (ld_bd (kX4_in Z a2 0 7) (fun x14 => if (x14 : Int32) = 0 then (kX4_isMade_24 a1 a2 Z) else (kX4_isMade_25 a1 a2 Z 1))))
set_option maxHeartbeats 4000000 in
set_option maxRecDepth 100000 in
theorem zX4_isMade (l : Launch) (w : ld_E) (Z : ld_M) (a1 : Int32) (a2 : Int32)  {r : Int32} (hr : kX4_isMade Z a1 a2 = some r) (sz : Nat) : Met l yX4_isMade wsX4_isMade ({ frames := 1, cells := 0, slots := 0, locals := 22 }) (ld_Pc w Z sz [.int a1, .int a2]) (ld_Q w Z sz (some (.int r))) 0 0 (ld_A w sz) := by
  refine ld_ofW (ws := wsX4_isMade) (Qc := fun sz9 => ld_Q w Z sz9 (some (.int r))) RX4 (by decide +kernel) rfl rfl (by simp [Value.category]) (Nat.le_of_ble_eq_true rfl) sz ?_
  intro p e s m args below meth c C
  revert hr
  show ld_T p l e ({ frames := 1, cells := 0, slots := 0, locals := 22 }) s m args below meth c (MQ below (ld_Q w Z s.heap.size (some (.int r))) args s 0 0 (ld_A w s.heap.size)) w r (kX4_isMade Z a1 a2) Z 0 0 0 [some (.int a1), some (.int a2)] []
  unfold kX4_isMade
  refine lj_iload_n C rfl rfl dX4_isMade_0 ?_
  refine lj_iconst C (v := 1) (by decide) dX4_isMade_1 ?_
  refine lj_bipush C (v := 20) (by decide) dX4_isMade_2 ?_
  refine lj_cSa C (As := [.int a1, .int 1, .int 20]) (rest := []) (fun sz x hx => zX4_in l w Z a1 1 20 hx sz) (va_cwS 3 C.2.2.2.2.1 gX4_isMade_X4_in rfl rfl rfl (by decide +kernel) ⟨Nat.le_of_ble_eq_true rfl, Nat.le_of_ble_eq_true rfl⟩) rfl rfl rfl (Nat.le_of_ble_eq_true rfl) ⟨Nat.le_of_ble_eq_true rfl, Nat.le_of_ble_eq_true rfl⟩ dX4_isMade_4 (fun x4 hx4 => ?_)
  refine lj_if_eq C (tgt := 24) dX4_isMade_7 (by decide) ?_ ?_
  · exact bX4_isMade_24 l w a1 a2 C Z
  · refine lj_iload_n C rfl rfl dX4_isMade_10 ?_
    refine lj_iconst C (v := 0) (by decide) dX4_isMade_11 ?_
    refine lj_bipush C (v := 7) (by decide) dX4_isMade_12 ?_
    refine lj_cSa C (As := [.int a2, .int 0, .int 7]) (rest := []) (fun sz x hx => zX4_in l w Z a2 0 7 hx sz) (va_cwS 3 C.2.2.2.2.1 gX4_isMade_X4_in rfl rfl rfl (by decide +kernel) ⟨Nat.le_of_ble_eq_true rfl, Nat.le_of_ble_eq_true rfl⟩) rfl rfl rfl (Nat.le_of_ble_eq_true rfl) ⟨Nat.le_of_ble_eq_true rfl, Nat.le_of_ble_eq_true rfl⟩ dX4_isMade_14 (fun x14 hx14 => ?_)
    refine lj_if_eq C (tgt := 24) dX4_isMade_17 (by decide) ?_ ?_
    · exact bX4_isMade_24 l w a1 a2 C Z
    · refine lj_iconst C (v := 1) (by decide) dX4_isMade_20 ?_
      refine lj_goto C (tgt := 25) dX4_isMade_21 (by decide) ?_
      exact bX4_isMade_25 l w a1 a2 C Z 1
theorem inX4_isLamp_4 : ∀ q ∈ u_ws RX4 TX4 23, q ∈ wsX4_isLamp := fun _ h => List.mem_cons_of_mem _ (List.mem_append_right _ h)
def kX4_isLamp (Z : ld_M) (a1 : Int32) : Option (Int32) := ld_bd (kX4_in Z a1 0 ((Z 67 0) - 1)) (fun x8 => ld_ck (ld_b x8) (some x8))
set_option maxHeartbeats 4000000 in
set_option maxRecDepth 100000 in
theorem zX4_isLamp (l : Launch) (w : ld_E) (Z : ld_M) (a1 : Int32)  {r : Int32} (hr : kX4_isLamp Z a1 = some r) (sz : Nat) : Met l yX4_isLamp wsX4_isLamp ({ frames := 1, cells := 0, slots := 0, locals := 22 }) (ld_Pc w Z sz [.ref (ld_ad w 67), .int a1]) (ld_Q w Z sz (some (.int r))) 0 0 (ld_A w sz) := by
  refine ld_ofW (ws := wsX4_isLamp) (Qc := fun sz9 => ld_Q w Z sz9 (some (.int r))) RX4 (by decide +kernel) rfl rfl (by simp [Value.category]) (Nat.le_of_ble_eq_true rfl) sz ?_
  intro p e s m args below meth c C
  revert hr
  show ld_T p l e ({ frames := 1, cells := 0, slots := 0, locals := 22 }) s m args below meth c (MQ below (ld_Q w Z s.heap.size (some (.int r))) args s 0 0 (ld_A w s.heap.size)) w r (kX4_isLamp Z a1) Z 0 0 0 [some (.ref (ld_ad w 67)), some (.int a1)] []
  unfold kX4_isLamp
  refine lj_iload_n C rfl rfl dX4_isLamp_0 ?_
  refine lj_iconst C (v := 0) (by decide) dX4_isLamp_1 ?_
  refine lj_aload_n C rfl rfl dX4_isLamp_2 ?_
  refine lj_get C (i := 67) (kk := 0) (G := (ld_f4 w)) (v := .int (Z 67 0)) (Tb := TX4) (N := 23) (by decide) (fun _ => rfl) rfl inX4_isLamp_4 (by decide) (List.mem_of_getElem? (i := 1) rfl) rfl rfl dX4_isLamp_3 ?_
  refine lj_iconst C (v := 1) (by decide) dX4_isLamp_6 ?_
  refine lj_isub C dX4_isLamp_7 ?_
  refine lj_cSa C (As := [.int a1, .int 0, .int ((Z 67 0) - 1)]) (rest := []) (fun sz x hx => zX4_in l w Z a1 0 ((Z 67 0) - 1) hx sz) (va_cwS 3 C.2.2.2.2.1 gX4_isLamp_X4_in rfl rfl rfl (by decide +kernel) ⟨Nat.le_of_ble_eq_true rfl, Nat.le_of_ble_eq_true rfl⟩) rfl rfl rfl (Nat.le_of_ble_eq_true rfl) ⟨Nat.le_of_ble_eq_true rfl, Nat.le_of_ble_eq_true rfl⟩ dX4_isLamp_8 (fun x8 hx8 => ?_)
  exact lj_ra_z C (by decide) (by decide) dX4_isLamp_11
theorem inX4_keeps_4 : ∀ q ∈ u_ws RX4 TX4 23, q ∈ wsX4_keeps := fun _ h => List.mem_cons_of_mem _ (List.mem_append_right _ h)
def kX4_keeps_99 (a1 : Int32) (a2 : Int32) (a3 : Int32) (a4 : Int32) (Z : ld_M)  : Option (ld_M) := ld_ck (ld_g (Z 67 17) 20) (ld_ck (ld_g ((ld_up Z 82 (Z 67 17).toNatClampNeg a1) 67 17) 20) (ld_ck (ld_g ((ld_up (ld_up Z 82 (Z 67 17).toNatClampNeg a1) 83 ((ld_up Z 82 (Z 67 17).toNatClampNeg a1) 67 17).toNatClampNeg a2) 67 17) 20) (ld_ck (ld_g ((ld_up (ld_up (ld_up Z 82 (Z 67 17).toNatClampNeg a1) 83 ((ld_up Z 82 (Z 67 17).toNatClampNeg a1) 67 17).toNatClampNeg a2) 84 ((ld_up (ld_up Z 82 (Z 67 17).toNatClampNeg a1) 83 ((ld_up Z 82 (Z 67 17).toNatClampNeg a1) 67 17).toNatClampNeg a2) 67 17).toNatClampNeg a3) 67 17) 20) (some (ld_up (ld_up (ld_up (ld_up (ld_up Z 82 (Z 67 17).toNatClampNeg a1) 83 ((ld_up Z 82 (Z 67 17).toNatClampNeg a1) 67 17).toNatClampNeg a2) 84 ((ld_up (ld_up Z 82 (Z 67 17).toNatClampNeg a1) 83 ((ld_up Z 82 (Z 67 17).toNatClampNeg a1) 67 17).toNatClampNeg a2) 67 17).toNatClampNeg a3) 85 ((ld_up (ld_up (ld_up Z 82 (Z 67 17).toNatClampNeg a1) 83 ((ld_up Z 82 (Z 67 17).toNatClampNeg a1) 67 17).toNatClampNeg a2) 84 ((ld_up (ld_up Z 82 (Z 67 17).toNatClampNeg a1) 83 ((ld_up Z 82 (Z 67 17).toNatClampNeg a1) 67 17).toNatClampNeg a2) 67 17).toNatClampNeg a3) 67 17).toNatClampNeg a4) 67 17 (((ld_up (ld_up (ld_up (ld_up Z 82 (Z 67 17).toNatClampNeg a1) 83 ((ld_up Z 82 (Z 67 17).toNatClampNeg a1) 67 17).toNatClampNeg a2) 84 ((ld_up (ld_up Z 82 (Z 67 17).toNatClampNeg a1) 83 ((ld_up Z 82 (Z 67 17).toNatClampNeg a1) 67 17).toNatClampNeg a2) 67 17).toNatClampNeg a3) 85 ((ld_up (ld_up (ld_up Z 82 (Z 67 17).toNatClampNeg a1) 83 ((ld_up Z 82 (Z 67 17).toNatClampNeg a1) 67 17).toNatClampNeg a2) 84 ((ld_up (ld_up Z 82 (Z 67 17).toNatClampNeg a1) 83 ((ld_up Z 82 (Z 67 17).toNatClampNeg a1) 67 17).toNatClampNeg a2) 67 17).toNatClampNeg a3) 67 17).toNatClampNeg a4) 67 17) + 1))))))
set_option maxHeartbeats 4000000 in
set_option maxRecDepth 100000 in
theorem bX4_keeps_99 {p : Program} {e : Env} {s : State} {m : MethodId} {args : Array Value} {below : List Frame} {meth : Method} {c : Code} (l : Launch) (w : ld_E) (a1 : Int32) (a2 : Int32) (a3 : Int32) (a4 : Int32) {r : ld_M} (C : ld_C p l s m args meth c cX4_keeps 6 none wsX4_keeps RX4 w) (Z : ld_M)  : ld_T p l e ({ frames := 0, cells := 0, slots := 0, locals := 0 }) s m args below meth c (MQ below (ld_Q w r s.heap.size none) args s 0 0 (ld_A w s.heap.size)) w r (kX4_keeps_99 a1 a2 a3 a4 Z ) Z 0 0 99 [some (.ref (ld_ad w 67)), some (.int a1), some (.int a2), some (.int a3), some (.int a4), none] [] := by
  unfold kX4_keeps_99
  refine lj_aload_n C rfl rfl dX4_keeps_99 ?_
  refine lj_get C (i := 67) (kk := 18) (G := (ld_f4 w)) (v := .ref (ld_ad w 82)) (Tb := TX4) (N := 23) (by decide) (fun _ => rfl) rfl inX4_keeps_4 (by decide) (List.mem_of_getElem? (i := 2) rfl) rfl rfl dX4_keeps_100 ?_
  refine lj_aload_n C rfl rfl dX4_keeps_103 ?_
  refine lj_get C (i := 67) (kk := 17) (G := (ld_f4 w)) (v := .int (Z 67 17)) (Tb := TX4) (N := 23) (by decide) (fun _ => rfl) rfl inX4_keeps_4 (by decide) (List.mem_of_getElem? (i := 1) rfl) rfl rfl dX4_keeps_104 ?_
  refine lj_iload_n C rfl rfl dX4_keeps_107 ?_
  refine lj_iast C (n := 20) (by decide) (fun _ => rfl) dX4_keeps_108 ?_
  refine lj_aload_n C rfl rfl dX4_keeps_109 ?_
  refine lj_get C (i := 67) (kk := 19) (G := (ld_f4 w)) (v := .ref (ld_ad w 83)) (Tb := TX4) (N := 23) (by decide) (fun _ => rfl) rfl inX4_keeps_4 (by decide) (List.mem_of_getElem? (i := 3) rfl) rfl rfl dX4_keeps_110 ?_
  refine lj_aload_n C rfl rfl dX4_keeps_113 ?_
  refine lj_get C (i := 67) (kk := 17) (G := (ld_f4 w)) (v := .int ((ld_up Z 82 (Z 67 17).toNatClampNeg a1) 67 17)) (Tb := TX4) (N := 23) (by decide) (fun _ => rfl) rfl inX4_keeps_4 (by decide) (List.mem_of_getElem? (i := 1) rfl) rfl rfl dX4_keeps_114 ?_
  refine lj_iload_n C rfl rfl dX4_keeps_117 ?_
  refine lj_iast C (n := 20) (by decide) (fun _ => rfl) dX4_keeps_118 ?_
  refine lj_aload_n C rfl rfl dX4_keeps_119 ?_
  refine lj_get C (i := 67) (kk := 20) (G := (ld_f4 w)) (v := .ref (ld_ad w 84)) (Tb := TX4) (N := 23) (by decide) (fun _ => rfl) rfl inX4_keeps_4 (by decide) (List.mem_of_getElem? (i := 4) rfl) rfl rfl dX4_keeps_120 ?_
  refine lj_aload_n C rfl rfl dX4_keeps_123 ?_
  refine lj_get C (i := 67) (kk := 17) (G := (ld_f4 w)) (v := .int ((ld_up (ld_up Z 82 (Z 67 17).toNatClampNeg a1) 83 ((ld_up Z 82 (Z 67 17).toNatClampNeg a1) 67 17).toNatClampNeg a2) 67 17)) (Tb := TX4) (N := 23) (by decide) (fun _ => rfl) rfl inX4_keeps_4 (by decide) (List.mem_of_getElem? (i := 1) rfl) rfl rfl dX4_keeps_124 ?_
  refine lj_iload_n C rfl rfl dX4_keeps_127 ?_
  refine lj_iast C (n := 20) (by decide) (fun _ => rfl) dX4_keeps_128 ?_
  refine lj_aload_n C rfl rfl dX4_keeps_129 ?_
  refine lj_get C (i := 67) (kk := 21) (G := (ld_f4 w)) (v := .ref (ld_ad w 85)) (Tb := TX4) (N := 23) (by decide) (fun _ => rfl) rfl inX4_keeps_4 (by decide) (List.mem_of_getElem? (i := 5) rfl) rfl rfl dX4_keeps_130 ?_
  refine lj_aload_n C rfl rfl dX4_keeps_133 ?_
  refine lj_get C (i := 67) (kk := 17) (G := (ld_f4 w)) (v := .int ((ld_up (ld_up (ld_up Z 82 (Z 67 17).toNatClampNeg a1) 83 ((ld_up Z 82 (Z 67 17).toNatClampNeg a1) 67 17).toNatClampNeg a2) 84 ((ld_up (ld_up Z 82 (Z 67 17).toNatClampNeg a1) 83 ((ld_up Z 82 (Z 67 17).toNatClampNeg a1) 67 17).toNatClampNeg a2) 67 17).toNatClampNeg a3) 67 17)) (Tb := TX4) (N := 23) (by decide) (fun _ => rfl) rfl inX4_keeps_4 (by decide) (List.mem_of_getElem? (i := 1) rfl) rfl rfl dX4_keeps_134 ?_
  refine lj_iload C rfl dX4_keeps_137 ?_
  refine lj_iast C (n := 20) (by decide) (fun _ => rfl) dX4_keeps_139 ?_
  refine lj_aload_n C rfl rfl dX4_keeps_140 ?_
  refine lj_dup C rfl dX4_keeps_141 ?_
  refine lj_get C (i := 67) (kk := 17) (G := (ld_f4 w)) (v := .int ((ld_up (ld_up (ld_up (ld_up Z 82 (Z 67 17).toNatClampNeg a1) 83 ((ld_up Z 82 (Z 67 17).toNatClampNeg a1) 67 17).toNatClampNeg a2) 84 ((ld_up (ld_up Z 82 (Z 67 17).toNatClampNeg a1) 83 ((ld_up Z 82 (Z 67 17).toNatClampNeg a1) 67 17).toNatClampNeg a2) 67 17).toNatClampNeg a3) 85 ((ld_up (ld_up (ld_up Z 82 (Z 67 17).toNatClampNeg a1) 83 ((ld_up Z 82 (Z 67 17).toNatClampNeg a1) 67 17).toNatClampNeg a2) 84 ((ld_up (ld_up Z 82 (Z 67 17).toNatClampNeg a1) 83 ((ld_up Z 82 (Z 67 17).toNatClampNeg a1) 67 17).toNatClampNeg a2) 67 17).toNatClampNeg a3) 67 17).toNatClampNeg a4) 67 17)) (Tb := TX4) (N := 23) (by decide) (fun _ => rfl) rfl inX4_keeps_4 (by decide) (List.mem_of_getElem? (i := 1) rfl) rfl rfl dX4_keeps_142 ?_
  refine lj_iconst C (v := 1) (by decide) dX4_keeps_145 ?_
  refine lj_iadd C dX4_keeps_146 ?_
  refine lj_put C (i := 67) (kk := 17) (G := (ld_f4 w)) (Tb := TX4) (N := 23) (by decide) (fun _ => rfl) rfl inX4_keeps_4 (by decide) (List.mem_of_getElem? (i := 1) rfl) rfl tyX4 tyX4_ok nmX4 rfl (by decide +kernel) (Nat.le_of_ble_eq_true rfl) rfl dX4_keeps_147 ?_
  exact lj_rv C (by decide) (by decide) dX4_keeps_150
def kX4_keeps_12 (a1 : Int32) (a2 : Int32) (a3 : Int32) (a4 : Int32) : Nat → ld_M → Int32 → Option (ld_M)
  | 0, _, _ => none
  | n + 1, Z, v5 => if (20 : Int32) ≤ v5 then (kX4_keeps_99 a1 a2 a3 a4 (ld_up Z 67 17 ((Z 67 17) - 1))) else (ld_ck (ld_g v5 20) (ld_ck (ld_g (v5 - 1) 20) (ld_ck (ld_g v5 20) (ld_ck (ld_g (v5 - 1) 20) (ld_ck (ld_g v5 20) (ld_ck (ld_g (v5 - 1) 20) (ld_ck (ld_g v5 20) (ld_ck (ld_g (v5 - 1) 20) (kX4_keeps_12 a1 a2 a3 a4 n (ld_up (ld_up (ld_up (ld_up Z 82 (v5 - 1).toNatClampNeg (Z 82 v5.toNatClampNeg)) 83 (v5 - 1).toNatClampNeg ((ld_up Z 82 (v5 - 1).toNatClampNeg (Z 82 v5.toNatClampNeg)) 83 v5.toNatClampNeg)) 84 (v5 - 1).toNatClampNeg ((ld_up (ld_up Z 82 (v5 - 1).toNatClampNeg (Z 82 v5.toNatClampNeg)) 83 (v5 - 1).toNatClampNeg ((ld_up Z 82 (v5 - 1).toNatClampNeg (Z 82 v5.toNatClampNeg)) 83 v5.toNatClampNeg)) 84 v5.toNatClampNeg)) 85 (v5 - 1).toNatClampNeg ((ld_up (ld_up (ld_up Z 82 (v5 - 1).toNatClampNeg (Z 82 v5.toNatClampNeg)) 83 (v5 - 1).toNatClampNeg ((ld_up Z 82 (v5 - 1).toNatClampNeg (Z 82 v5.toNatClampNeg)) 83 v5.toNatClampNeg)) 84 (v5 - 1).toNatClampNeg ((ld_up (ld_up Z 82 (v5 - 1).toNatClampNeg (Z 82 v5.toNatClampNeg)) 83 (v5 - 1).toNatClampNeg ((ld_up Z 82 (v5 - 1).toNatClampNeg (Z 82 v5.toNatClampNeg)) 83 v5.toNatClampNeg)) 84 v5.toNatClampNeg)) 85 v5.toNatClampNeg)) (v5 + 1))))))))))
set_option maxHeartbeats 4000000 in
set_option maxRecDepth 100000 in
theorem bX4_keeps_12 {p : Program} {e : Env} {s : State} {m : MethodId} {args : Array Value} {below : List Frame} {meth : Method} {c : Code} (l : Launch) (w : ld_E) (a1 : Int32) (a2 : Int32) (a3 : Int32) (a4 : Int32) {r : ld_M} (C : ld_C p l s m args meth c cX4_keeps 6 none wsX4_keeps RX4 w) : ∀ (n : Nat) (Z : ld_M) (v5 : Int32), ld_T p l e ({ frames := 0, cells := 0, slots := 0, locals := 0 }) s m args below meth c (MQ below (ld_Q w r s.heap.size none) args s 0 0 (ld_A w s.heap.size)) w r (kX4_keeps_12 a1 a2 a3 a4 n Z v5) Z 0 0 12 [some (.ref (ld_ad w 67)), some (.int a1), some (.int a2), some (.int a3), some (.int a4), some (.int v5)] [] := by
  intro n
  induction n with
  | zero => exact fun _ _ h => nomatch h
  | succ n ih =>
    intro Z v5
    refine lj_iload C rfl dX4_keeps_12 ?_
    refine lj_bipush C (v := 20) (by decide) dX4_keeps_14 ?_
    refine lj_icmp_ge C (tgt := 89) dX4_keeps_16 (by decide) ?_ ?_
    · refine lj_aload_n C rfl rfl dX4_keeps_89 ?_
      refine lj_dup C rfl dX4_keeps_90 ?_
      refine lj_get C (i := 67) (kk := 17) (G := (ld_f4 w)) (v := .int (Z 67 17)) (Tb := TX4) (N := 23) (by decide) (fun _ => rfl) rfl inX4_keeps_4 (by decide) (List.mem_of_getElem? (i := 1) rfl) rfl rfl dX4_keeps_91 ?_
      refine lj_iconst C (v := 1) (by decide) dX4_keeps_94 ?_
      refine lj_isub C dX4_keeps_95 ?_
      refine lj_put C (i := 67) (kk := 17) (G := (ld_f4 w)) (Tb := TX4) (N := 23) (by decide) (fun _ => rfl) rfl inX4_keeps_4 (by decide) (List.mem_of_getElem? (i := 1) rfl) rfl tyX4 tyX4_ok nmX4 rfl (by decide +kernel) (Nat.le_of_ble_eq_true rfl) rfl dX4_keeps_96 ?_
      refine lj_forget (lv2 := [some (.ref (ld_ad w 67)), some (.int a1), some (.int a2), some (.int a3), some (.int a4), none]) (by simp [ld_le]) ?_
      exact bX4_keeps_99 l w a1 a2 a3 a4 C (ld_up Z 67 17 ((Z 67 17) - 1))
    · refine lj_aload_n C rfl rfl dX4_keeps_19 ?_
      refine lj_get C (i := 67) (kk := 18) (G := (ld_f4 w)) (v := .ref (ld_ad w 82)) (Tb := TX4) (N := 23) (by decide) (fun _ => rfl) rfl inX4_keeps_4 (by decide) (List.mem_of_getElem? (i := 2) rfl) rfl rfl dX4_keeps_20 ?_
      refine lj_iload C rfl dX4_keeps_23 ?_
      refine lj_iconst C (v := 1) (by decide) dX4_keeps_25 ?_
      refine lj_isub C dX4_keeps_26 ?_
      refine lj_aload_n C rfl rfl dX4_keeps_27 ?_
      refine lj_get C (i := 67) (kk := 18) (G := (ld_f4 w)) (v := .ref (ld_ad w 82)) (Tb := TX4) (N := 23) (by decide) (fun _ => rfl) rfl inX4_keeps_4 (by decide) (List.mem_of_getElem? (i := 2) rfl) rfl rfl dX4_keeps_28 ?_
      refine lj_iload C rfl dX4_keeps_31 ?_
      refine lj_iald C (n := 20) (by decide) (fun _ => rfl) dX4_keeps_33 ?_
      refine lj_iast C (n := 20) (by decide) (fun _ => rfl) dX4_keeps_34 ?_
      refine lj_aload_n C rfl rfl dX4_keeps_35 ?_
      refine lj_get C (i := 67) (kk := 19) (G := (ld_f4 w)) (v := .ref (ld_ad w 83)) (Tb := TX4) (N := 23) (by decide) (fun _ => rfl) rfl inX4_keeps_4 (by decide) (List.mem_of_getElem? (i := 3) rfl) rfl rfl dX4_keeps_36 ?_
      refine lj_iload C rfl dX4_keeps_39 ?_
      refine lj_iconst C (v := 1) (by decide) dX4_keeps_41 ?_
      refine lj_isub C dX4_keeps_42 ?_
      refine lj_aload_n C rfl rfl dX4_keeps_43 ?_
      refine lj_get C (i := 67) (kk := 19) (G := (ld_f4 w)) (v := .ref (ld_ad w 83)) (Tb := TX4) (N := 23) (by decide) (fun _ => rfl) rfl inX4_keeps_4 (by decide) (List.mem_of_getElem? (i := 3) rfl) rfl rfl dX4_keeps_44 ?_
      refine lj_iload C rfl dX4_keeps_47 ?_
      refine lj_iald C (n := 20) (by decide) (fun _ => rfl) dX4_keeps_49 ?_
      refine lj_iast C (n := 20) (by decide) (fun _ => rfl) dX4_keeps_50 ?_
      refine lj_aload_n C rfl rfl dX4_keeps_51 ?_
      refine lj_get C (i := 67) (kk := 20) (G := (ld_f4 w)) (v := .ref (ld_ad w 84)) (Tb := TX4) (N := 23) (by decide) (fun _ => rfl) rfl inX4_keeps_4 (by decide) (List.mem_of_getElem? (i := 4) rfl) rfl rfl dX4_keeps_52 ?_
      refine lj_iload C rfl dX4_keeps_55 ?_
      refine lj_iconst C (v := 1) (by decide) dX4_keeps_57 ?_
      refine lj_isub C dX4_keeps_58 ?_
      refine lj_aload_n C rfl rfl dX4_keeps_59 ?_
      refine lj_get C (i := 67) (kk := 20) (G := (ld_f4 w)) (v := .ref (ld_ad w 84)) (Tb := TX4) (N := 23) (by decide) (fun _ => rfl) rfl inX4_keeps_4 (by decide) (List.mem_of_getElem? (i := 4) rfl) rfl rfl dX4_keeps_60 ?_
      refine lj_iload C rfl dX4_keeps_63 ?_
      refine lj_iald C (n := 20) (by decide) (fun _ => rfl) dX4_keeps_65 ?_
      refine lj_iast C (n := 20) (by decide) (fun _ => rfl) dX4_keeps_66 ?_
      refine lj_aload_n C rfl rfl dX4_keeps_67 ?_
      refine lj_get C (i := 67) (kk := 21) (G := (ld_f4 w)) (v := .ref (ld_ad w 85)) (Tb := TX4) (N := 23) (by decide) (fun _ => rfl) rfl inX4_keeps_4 (by decide) (List.mem_of_getElem? (i := 5) rfl) rfl rfl dX4_keeps_68 ?_
      refine lj_iload C rfl dX4_keeps_71 ?_
      refine lj_iconst C (v := 1) (by decide) dX4_keeps_73 ?_
      refine lj_isub C dX4_keeps_74 ?_
      refine lj_aload_n C rfl rfl dX4_keeps_75 ?_
      refine lj_get C (i := 67) (kk := 21) (G := (ld_f4 w)) (v := .ref (ld_ad w 85)) (Tb := TX4) (N := 23) (by decide) (fun _ => rfl) rfl inX4_keeps_4 (by decide) (List.mem_of_getElem? (i := 5) rfl) rfl rfl dX4_keeps_76 ?_
      refine lj_iload C rfl dX4_keeps_79 ?_
      refine lj_iald C (n := 20) (by decide) (fun _ => rfl) dX4_keeps_81 ?_
      refine lj_iast C (n := 20) (by decide) (fun _ => rfl) dX4_keeps_82 ?_
      refine lj_iinc C (i := 5) (v := (v5 + 1)) (lv2 := [some (.ref (ld_ad w 67)), some (.int a1), some (.int a2), some (.int a3), some (.int a4), some (.int (v5 + 1))]) rfl rfl rfl dX4_keeps_83 ?_
      refine lj_goto C (tgt := 12) dX4_keeps_86 (by decide) ?_
      exact ih (ld_up (ld_up (ld_up (ld_up Z 82 (v5 - 1).toNatClampNeg (Z 82 v5.toNatClampNeg)) 83 (v5 - 1).toNatClampNeg ((ld_up Z 82 (v5 - 1).toNatClampNeg (Z 82 v5.toNatClampNeg)) 83 v5.toNatClampNeg)) 84 (v5 - 1).toNatClampNeg ((ld_up (ld_up Z 82 (v5 - 1).toNatClampNeg (Z 82 v5.toNatClampNeg)) 83 (v5 - 1).toNatClampNeg ((ld_up Z 82 (v5 - 1).toNatClampNeg (Z 82 v5.toNatClampNeg)) 83 v5.toNatClampNeg)) 84 v5.toNatClampNeg)) 85 (v5 - 1).toNatClampNeg ((ld_up (ld_up (ld_up Z 82 (v5 - 1).toNatClampNeg (Z 82 v5.toNatClampNeg)) 83 (v5 - 1).toNatClampNeg ((ld_up Z 82 (v5 - 1).toNatClampNeg (Z 82 v5.toNatClampNeg)) 83 v5.toNatClampNeg)) 84 (v5 - 1).toNatClampNeg ((ld_up (ld_up Z 82 (v5 - 1).toNatClampNeg (Z 82 v5.toNatClampNeg)) 83 (v5 - 1).toNatClampNeg ((ld_up Z 82 (v5 - 1).toNatClampNeg (Z 82 v5.toNatClampNeg)) 83 v5.toNatClampNeg)) 84 v5.toNatClampNeg)) 85 v5.toNatClampNeg)) (v5 + 1)
def kX4_keeps (Z : ld_M) (a1 : Int32) (a2 : Int32) (a3 : Int32) (a4 : Int32) : Option (ld_M) := if ((Z 67 17) : Int32) = 20 then (kX4_keeps_12 a1 a2 a3 a4 ld_fu Z 1) else (kX4_keeps_99 a1 a2 a3 a4 Z)
set_option maxHeartbeats 4000000 in
set_option maxRecDepth 100000 in
theorem zX4_keeps (l : Launch) (w : ld_E) (Z : ld_M) (a1 : Int32) (a2 : Int32) (a3 : Int32) (a4 : Int32)  {r : ld_M} (hr : kX4_keeps Z a1 a2 a3 a4 = some r) (sz : Nat) : Met l yX4_keeps wsX4_keeps ({ frames := 0, cells := 0, slots := 0, locals := 0 }) (ld_Pc w Z sz [.ref (ld_ad w 67), .int a1, .int a2, .int a3, .int a4]) (ld_Q w r sz none) 0 0 (ld_A w sz) := by
  refine ld_ofW (ws := wsX4_keeps) (Qc := fun sz9 => ld_Q w r sz9 none) RX4 (by decide +kernel) rfl rfl (by simp [Value.category]) (Nat.le_of_ble_eq_true rfl) sz ?_
  intro p e s m args below meth c C
  revert hr
  show ld_T p l e ({ frames := 0, cells := 0, slots := 0, locals := 0 }) s m args below meth c (MQ below (ld_Q w r s.heap.size none) args s 0 0 (ld_A w s.heap.size)) w r (kX4_keeps Z a1 a2 a3 a4) Z 0 0 0 [some (.ref (ld_ad w 67)), some (.int a1), some (.int a2), some (.int a3), some (.int a4), none] []
  unfold kX4_keeps
  refine lj_aload_n C rfl rfl dX4_keeps_0 ?_
  refine lj_get C (i := 67) (kk := 17) (G := (ld_f4 w)) (v := .int (Z 67 17)) (Tb := TX4) (N := 23) (by decide) (fun _ => rfl) rfl inX4_keeps_4 (by decide) (List.mem_of_getElem? (i := 1) rfl) rfl rfl dX4_keeps_1 ?_
  refine lj_bipush C (v := 20) (by decide) dX4_keeps_4 ?_
  refine lj_icmp_ne C (tgt := 99) dX4_keeps_6 (by decide) ?_ ?_
  · exact bX4_keeps_99 l w a1 a2 a3 a4 C Z
  · refine lj_iconst C (v := 1) (by decide) dX4_keeps_9 ?_
    refine lj_istore C (lv2 := [some (.ref (ld_ad w 67)), some (.int a1), some (.int a2), some (.int a3), some (.int a4), some (.int 1)]) (Nat.le_of_ble_eq_true rfl) rfl dX4_keeps_10 ?_
    exact bX4_keeps_12 l w a1 a2 a3 a4 C ld_fu Z 1
theorem inX4_undo_4 : ∀ q ∈ u_ws RX4 TX4 23, q ∈ wsX4_undo := fun _ h => List.mem_cons_of_mem _ (List.mem_append_right _ h)
def kX4_undo_136  (Z : ld_M) (v1 : Int32) : Option (Int32 × ld_M) := some ((Z 67 17), Z)
set_option maxHeartbeats 4000000 in
set_option maxRecDepth 100000 in
theorem bX4_undo_136 {p : Program} {e : Env} {s : State} {m : MethodId} {args : Array Value} {below : List Frame} {meth : Method} {c : Code} (l : Launch) (w : ld_E)  {r : Int32 × ld_M} (C : ld_C p l s m args meth c cX4_undo 2 (some .int) wsX4_undo RX4 w) (Z : ld_M) (v1 : Int32) : ld_T p l e ({ frames := 0, cells := 0, slots := 0, locals := 0 }) s m args below meth c (MQ below (ld_Q w r.2 s.heap.size (some (.int r.1))) args s 0 0 (ld_A w s.heap.size)) w r (kX4_undo_136 Z v1) Z 0 0 136 [some (.ref (ld_ad w 67)), some (.int v1)] [] := by
  unfold kX4_undo_136
  refine lj_aload_n C rfl rfl dX4_undo_136 ?_
  refine lj_get C (i := 67) (kk := 17) (G := (ld_f4 w)) (v := .int (Z 67 17)) (Tb := TX4) (N := 23) (by decide) (fun _ => rfl) rfl inX4_undo_4 (by decide) (List.mem_of_getElem? (i := 1) rfl) rfl rfl dX4_undo_137 ?_
  exact lj_rb C (by decide) (by decide) dX4_undo_140
def kX4_undo_13  (Z : ld_M) (t0 : Int32) : Option (Int32 × ld_M) := if (((ld_up Z 67 22 t0) 67 22) : Int32) ≤ 0 then (ld_ck (ld_g ((ld_up (ld_up Z 67 22 t0) 67 17 (((ld_up Z 67 22 t0) 67 17) - 1)) 67 17) 20) (ld_ck (ld_g ((ld_up (ld_up Z 67 22 t0) 67 17 (((ld_up Z 67 22 t0) 67 17) - 1)) 67 17) 20) (if (((ld_up (ld_up Z 67 22 t0) 67 17 (((ld_up Z 67 22 t0) 67 17) - 1)) 82 ((ld_up (ld_up Z 67 22 t0) 67 17 (((ld_up Z 67 22 t0) 67 17) - 1)) 67 17).toNatClampNeg) : Int32) = 0 then (ld_ck (ld_g ((ld_up (ld_up Z 67 22 t0) 67 17 (((ld_up Z 67 22 t0) 67 17) - 1)) 67 17) 20) (ld_ck (ld_g ((ld_up (ld_up Z 67 22 t0) 67 17 (((ld_up Z 67 22 t0) 67 17) - 1)) 83 ((ld_up (ld_up Z 67 22 t0) 67 17 (((ld_up Z 67 22 t0) 67 17) - 1)) 67 17).toNatClampNeg) 20) (ld_ck (ld_g ((ld_up (ld_up (ld_up Z 67 22 t0) 67 17 (((ld_up Z 67 22 t0) 67 17) - 1)) 68 ((ld_up (ld_up Z 67 22 t0) 67 17 (((ld_up Z 67 22 t0) 67 17) - 1)) 83 ((ld_up (ld_up Z 67 22 t0) 67 17 (((ld_up Z 67 22 t0) 67 17) - 1)) 67 17).toNatClampNeg).toNatClampNeg ((ld_up (ld_up Z 67 22 t0) 67 17 (((ld_up Z 67 22 t0) 67 17) - 1)) 84 ((ld_up (ld_up Z 67 22 t0) 67 17 (((ld_up Z 67 22 t0) 67 17) - 1)) 67 17).toNatClampNeg)) 67 17) 20) (ld_ck (ld_g ((ld_up (ld_up Z 67 22 t0) 67 17 (((ld_up Z 67 22 t0) 67 17) - 1)) 83 ((ld_up (ld_up Z 67 22 t0) 67 17 (((ld_up Z 67 22 t0) 67 17) - 1)) 67 17).toNatClampNeg) 20) (kX4_undo_136 (ld_up (ld_up (ld_up (ld_up Z 67 22 t0) 67 17 (((ld_up Z 67 22 t0) 67 17) - 1)) 68 ((ld_up (ld_up Z 67 22 t0) 67 17 (((ld_up Z 67 22 t0) 67 17) - 1)) 83 ((ld_up (ld_up Z 67 22 t0) 67 17 (((ld_up Z 67 22 t0) 67 17) - 1)) 67 17).toNatClampNeg).toNatClampNeg ((ld_up (ld_up Z 67 22 t0) 67 17 (((ld_up Z 67 22 t0) 67 17) - 1)) 84 ((ld_up (ld_up Z 67 22 t0) 67 17 (((ld_up Z 67 22 t0) 67 17) - 1)) 67 17).toNatClampNeg)) 69 ((ld_up (ld_up Z 67 22 t0) 67 17 (((ld_up Z 67 22 t0) 67 17) - 1)) 83 ((ld_up (ld_up Z 67 22 t0) 67 17 (((ld_up Z 67 22 t0) 67 17) - 1)) 67 17).toNatClampNeg).toNatClampNeg ((ld_up (ld_up (ld_up Z 67 22 t0) 67 17 (((ld_up Z 67 22 t0) 67 17) - 1)) 68 ((ld_up (ld_up Z 67 22 t0) 67 17 (((ld_up Z 67 22 t0) 67 17) - 1)) 83 ((ld_up (ld_up Z 67 22 t0) 67 17 (((ld_up Z 67 22 t0) 67 17) - 1)) 67 17).toNatClampNeg).toNatClampNeg ((ld_up (ld_up Z 67 22 t0) 67 17 (((ld_up Z 67 22 t0) 67 17) - 1)) 84 ((ld_up (ld_up Z 67 22 t0) 67 17 (((ld_up Z 67 22 t0) 67 17) - 1)) 67 17).toNatClampNeg)) 85 ((ld_up (ld_up (ld_up Z 67 22 t0) 67 17 (((ld_up Z 67 22 t0) 67 17) - 1)) 68 ((ld_up (ld_up Z 67 22 t0) 67 17 (((ld_up Z 67 22 t0) 67 17) - 1)) 83 ((ld_up (ld_up Z 67 22 t0) 67 17 (((ld_up Z 67 22 t0) 67 17) - 1)) 67 17).toNatClampNeg).toNatClampNeg ((ld_up (ld_up Z 67 22 t0) 67 17 (((ld_up Z 67 22 t0) 67 17) - 1)) 84 ((ld_up (ld_up Z 67 22 t0) 67 17 (((ld_up Z 67 22 t0) 67 17) - 1)) 67 17).toNatClampNeg)) 67 17).toNatClampNeg)) ((ld_up (ld_up Z 67 22 t0) 67 17 (((ld_up Z 67 22 t0) 67 17) - 1)) 83 ((ld_up (ld_up Z 67 22 t0) 67 17 (((ld_up Z 67 22 t0) 67 17) - 1)) 67 17).toNatClampNeg)))))) else (ld_ck (ld_g ((ld_up (ld_up Z 67 22 t0) 67 17 (((ld_up Z 67 22 t0) 67 17) - 1)) 67 17) 20) (if (((ld_up (ld_up Z 67 22 t0) 67 17 (((ld_up Z 67 22 t0) 67 17) - 1)) 82 ((ld_up (ld_up Z 67 22 t0) 67 17 (((ld_up Z 67 22 t0) 67 17) - 1)) 67 17).toNatClampNeg) : Int32) = 1 then (ld_ck (ld_g ((ld_up (ld_up Z 67 22 t0) 67 17 (((ld_up Z 67 22 t0) 67 17) - 1)) 67 17) 20) (ld_ck (ld_g ((ld_up (ld_up Z 67 22 t0) 67 17 (((ld_up Z 67 22 t0) 67 17) - 1)) 83 ((ld_up (ld_up Z 67 22 t0) 67 17 (((ld_up Z 67 22 t0) 67 17) - 1)) 67 17).toNatClampNeg) 80) (kX4_undo_136 (ld_up (ld_up (ld_up Z 67 22 t0) 67 17 (((ld_up Z 67 22 t0) 67 17) - 1)) 70 ((ld_up (ld_up Z 67 22 t0) 67 17 (((ld_up Z 67 22 t0) 67 17) - 1)) 83 ((ld_up (ld_up Z 67 22 t0) 67 17 (((ld_up Z 67 22 t0) 67 17) - 1)) 67 17).toNatClampNeg).toNatClampNeg ((ld_up (ld_up Z 67 22 t0) 67 17 (((ld_up Z 67 22 t0) 67 17) - 1)) 84 ((ld_up (ld_up Z 67 22 t0) 67 17 (((ld_up Z 67 22 t0) 67 17) - 1)) 67 17).toNatClampNeg)) ((ld_up (ld_up Z 67 22 t0) 67 17 (((ld_up Z 67 22 t0) 67 17) - 1)) 83 ((ld_up (ld_up Z 67 22 t0) 67 17 (((ld_up Z 67 22 t0) 67 17) - 1)) 67 17).toNatClampNeg)))) else (ld_ck (ld_g ((ld_up (ld_up Z 67 22 t0) 67 17 (((ld_up Z 67 22 t0) 67 17) - 1)) 67 17) 20) (ld_ck (ld_g ((ld_up (ld_up Z 67 22 t0) 67 17 (((ld_up Z 67 22 t0) 67 17) - 1)) 83 ((ld_up (ld_up Z 67 22 t0) 67 17 (((ld_up Z 67 22 t0) 67 17) - 1)) 67 17).toNatClampNeg) 240) (kX4_undo_136 (ld_up (ld_up (ld_up Z 67 22 t0) 67 17 (((ld_up Z 67 22 t0) 67 17) - 1)) 77 ((ld_up (ld_up Z 67 22 t0) 67 17 (((ld_up Z 67 22 t0) 67 17) - 1)) 83 ((ld_up (ld_up Z 67 22 t0) 67 17 (((ld_up Z 67 22 t0) 67 17) - 1)) 67 17).toNatClampNeg).toNatClampNeg ((ld_up (ld_up Z 67 22 t0) 67 17 (((ld_up Z 67 22 t0) 67 17) - 1)) 84 ((ld_up (ld_up Z 67 22 t0) 67 17 (((ld_up Z 67 22 t0) 67 17) - 1)) 67 17).toNatClampNeg)) ((ld_up (ld_up Z 67 22 t0) 67 17 (((ld_up Z 67 22 t0) 67 17) - 1)) 83 ((ld_up (ld_up Z 67 22 t0) 67 17 (((ld_up Z 67 22 t0) 67 17) - 1)) 67 17).toNatClampNeg))))))))) else (some (0, (ld_up Z 67 22 t0)))
set_option maxHeartbeats 4000000 in
set_option maxRecDepth 100000 in
theorem bX4_undo_13 {p : Program} {e : Env} {s : State} {m : MethodId} {args : Array Value} {below : List Frame} {meth : Method} {c : Code} (l : Launch) (w : ld_E)  {r : Int32 × ld_M} (C : ld_C p l s m args meth c cX4_undo 2 (some .int) wsX4_undo RX4 w) (Z : ld_M) (t0 : Int32) : ld_T p l e ({ frames := 0, cells := 0, slots := 0, locals := 0 }) s m args below meth c (MQ below (ld_Q w r.2 s.heap.size (some (.int r.1))) args s 0 0 (ld_A w s.heap.size)) w r (kX4_undo_13 Z t0) Z 0 0 13 [some (.ref (ld_ad w 67)), none] [.int t0, .ref (ld_ad w 67)] := by
  unfold kX4_undo_13
  refine lj_put C (i := 67) (kk := 22) (G := (ld_f4 w)) (Tb := TX4) (N := 23) (by decide) (fun _ => rfl) rfl inX4_undo_4 (by decide) (List.mem_of_getElem? (i := 2) rfl) rfl tyX4 tyX4_ok nmX4 rfl (by decide +kernel) (Nat.le_of_ble_eq_true rfl) rfl dX4_undo_13 ?_
  refine lj_aload_n C rfl rfl dX4_undo_16 ?_
  refine lj_get C (i := 67) (kk := 22) (G := (ld_f4 w)) (v := .int ((ld_up Z 67 22 t0) 67 22)) (Tb := TX4) (N := 23) (by decide) (fun _ => rfl) rfl inX4_undo_4 (by decide) (List.mem_of_getElem? (i := 2) rfl) rfl rfl dX4_undo_17 ?_
  refine lj_if_le C (tgt := 25) dX4_undo_20 (by decide) ?_ ?_
  · refine lj_aload_n C rfl rfl dX4_undo_25 ?_
    refine lj_dup C rfl dX4_undo_26 ?_
    refine lj_get C (i := 67) (kk := 17) (G := (ld_f4 w)) (v := .int ((ld_up Z 67 22 t0) 67 17)) (Tb := TX4) (N := 23) (by decide) (fun _ => rfl) rfl inX4_undo_4 (by decide) (List.mem_of_getElem? (i := 1) rfl) rfl rfl dX4_undo_27 ?_
    refine lj_iconst C (v := 1) (by decide) dX4_undo_30 ?_
    refine lj_isub C dX4_undo_31 ?_
    refine lj_put C (i := 67) (kk := 17) (G := (ld_f4 w)) (Tb := TX4) (N := 23) (by decide) (fun _ => rfl) rfl inX4_undo_4 (by decide) (List.mem_of_getElem? (i := 1) rfl) rfl tyX4 tyX4_ok nmX4 rfl (by decide +kernel) (Nat.le_of_ble_eq_true rfl) rfl dX4_undo_32 ?_
    refine lj_aload_n C rfl rfl dX4_undo_35 ?_
    refine lj_get C (i := 67) (kk := 19) (G := (ld_f4 w)) (v := .ref (ld_ad w 83)) (Tb := TX4) (N := 23) (by decide) (fun _ => rfl) rfl inX4_undo_4 (by decide) (List.mem_of_getElem? (i := 3) rfl) rfl rfl dX4_undo_36 ?_
    refine lj_aload_n C rfl rfl dX4_undo_39 ?_
    refine lj_get C (i := 67) (kk := 17) (G := (ld_f4 w)) (v := .int ((ld_up (ld_up Z 67 22 t0) 67 17 (((ld_up Z 67 22 t0) 67 17) - 1)) 67 17)) (Tb := TX4) (N := 23) (by decide) (fun _ => rfl) rfl inX4_undo_4 (by decide) (List.mem_of_getElem? (i := 1) rfl) rfl rfl dX4_undo_40 ?_
    refine lj_iald C (n := 20) (by decide) (fun _ => rfl) dX4_undo_43 ?_
    refine lj_istore_n C rfl (lv2 := [some (.ref (ld_ad w 67)), some (.int ((ld_up (ld_up Z 67 22 t0) 67 17 (((ld_up Z 67 22 t0) 67 17) - 1)) 83 ((ld_up (ld_up Z 67 22 t0) 67 17 (((ld_up Z 67 22 t0) 67 17) - 1)) 67 17).toNatClampNeg))]) (Nat.le_of_ble_eq_true rfl) rfl dX4_undo_44 ?_
    refine lj_aload_n C rfl rfl dX4_undo_45 ?_
    refine lj_get C (i := 67) (kk := 18) (G := (ld_f4 w)) (v := .ref (ld_ad w 82)) (Tb := TX4) (N := 23) (by decide) (fun _ => rfl) rfl inX4_undo_4 (by decide) (List.mem_of_getElem? (i := 4) rfl) rfl rfl dX4_undo_46 ?_
    refine lj_aload_n C rfl rfl dX4_undo_49 ?_
    refine lj_get C (i := 67) (kk := 17) (G := (ld_f4 w)) (v := .int ((ld_up (ld_up Z 67 22 t0) 67 17 (((ld_up Z 67 22 t0) 67 17) - 1)) 67 17)) (Tb := TX4) (N := 23) (by decide) (fun _ => rfl) rfl inX4_undo_4 (by decide) (List.mem_of_getElem? (i := 1) rfl) rfl rfl dX4_undo_50 ?_
    refine lj_iald C (n := 20) (by decide) (fun _ => rfl) dX4_undo_53 ?_
    refine lj_if_ne C (tgt := 90) dX4_undo_54 (by decide) ?_ ?_
    · refine lj_aload_n C rfl rfl dX4_undo_90 ?_
      refine lj_get C (i := 67) (kk := 18) (G := (ld_f4 w)) (v := .ref (ld_ad w 82)) (Tb := TX4) (N := 23) (by decide) (fun _ => rfl) rfl inX4_undo_4 (by decide) (List.mem_of_getElem? (i := 4) rfl) rfl rfl dX4_undo_91 ?_
      refine lj_aload_n C rfl rfl dX4_undo_94 ?_
      refine lj_get C (i := 67) (kk := 17) (G := (ld_f4 w)) (v := .int ((ld_up (ld_up Z 67 22 t0) 67 17 (((ld_up Z 67 22 t0) 67 17) - 1)) 67 17)) (Tb := TX4) (N := 23) (by decide) (fun _ => rfl) rfl inX4_undo_4 (by decide) (List.mem_of_getElem? (i := 1) rfl) rfl rfl dX4_undo_95 ?_
      refine lj_iald C (n := 20) (by decide) (fun _ => rfl) dX4_undo_98 ?_
      refine lj_iconst C (v := 1) (by decide) dX4_undo_99 ?_
      refine lj_icmp_ne C (tgt := 121) dX4_undo_100 (by decide) ?_ ?_
      · refine lj_aload_n C rfl rfl dX4_undo_121 ?_
        refine lj_get C (i := 67) (kk := 11) (G := (ld_f4 w)) (v := .ref (ld_ad w 77)) (Tb := TX4) (N := 23) (by decide) (fun _ => rfl) rfl inX4_undo_4 (by decide) (List.mem_of_getElem? (i := 10) rfl) rfl rfl dX4_undo_122 ?_
        refine lj_iload_n C rfl rfl dX4_undo_125 ?_
        refine lj_aload_n C rfl rfl dX4_undo_126 ?_
        refine lj_get C (i := 67) (kk := 20) (G := (ld_f4 w)) (v := .ref (ld_ad w 84)) (Tb := TX4) (N := 23) (by decide) (fun _ => rfl) rfl inX4_undo_4 (by decide) (List.mem_of_getElem? (i := 6) rfl) rfl rfl dX4_undo_127 ?_
        refine lj_aload_n C rfl rfl dX4_undo_130 ?_
        refine lj_get C (i := 67) (kk := 17) (G := (ld_f4 w)) (v := .int ((ld_up (ld_up Z 67 22 t0) 67 17 (((ld_up Z 67 22 t0) 67 17) - 1)) 67 17)) (Tb := TX4) (N := 23) (by decide) (fun _ => rfl) rfl inX4_undo_4 (by decide) (List.mem_of_getElem? (i := 1) rfl) rfl rfl dX4_undo_131 ?_
        refine lj_iald C (n := 20) (by decide) (fun _ => rfl) dX4_undo_134 ?_
        refine lj_iast C (n := 240) (by decide) (fun _ => rfl) dX4_undo_135 ?_
        exact bX4_undo_136 l w C (ld_up (ld_up (ld_up Z 67 22 t0) 67 17 (((ld_up Z 67 22 t0) 67 17) - 1)) 77 ((ld_up (ld_up Z 67 22 t0) 67 17 (((ld_up Z 67 22 t0) 67 17) - 1)) 83 ((ld_up (ld_up Z 67 22 t0) 67 17 (((ld_up Z 67 22 t0) 67 17) - 1)) 67 17).toNatClampNeg).toNatClampNeg ((ld_up (ld_up Z 67 22 t0) 67 17 (((ld_up Z 67 22 t0) 67 17) - 1)) 84 ((ld_up (ld_up Z 67 22 t0) 67 17 (((ld_up Z 67 22 t0) 67 17) - 1)) 67 17).toNatClampNeg)) ((ld_up (ld_up Z 67 22 t0) 67 17 (((ld_up Z 67 22 t0) 67 17) - 1)) 83 ((ld_up (ld_up Z 67 22 t0) 67 17 (((ld_up Z 67 22 t0) 67 17) - 1)) 67 17).toNatClampNeg)
      · refine lj_aload_n C rfl rfl dX4_undo_103 ?_
        refine lj_get C (i := 67) (kk := 3) (G := (ld_f4 w)) (v := .ref (ld_ad w 70)) (Tb := TX4) (N := 23) (by decide) (fun _ => rfl) rfl inX4_undo_4 (by decide) (List.mem_of_getElem? (i := 9) rfl) rfl rfl dX4_undo_104 ?_
        refine lj_iload_n C rfl rfl dX4_undo_107 ?_
        refine lj_aload_n C rfl rfl dX4_undo_108 ?_
        refine lj_get C (i := 67) (kk := 20) (G := (ld_f4 w)) (v := .ref (ld_ad w 84)) (Tb := TX4) (N := 23) (by decide) (fun _ => rfl) rfl inX4_undo_4 (by decide) (List.mem_of_getElem? (i := 6) rfl) rfl rfl dX4_undo_109 ?_
        refine lj_aload_n C rfl rfl dX4_undo_112 ?_
        refine lj_get C (i := 67) (kk := 17) (G := (ld_f4 w)) (v := .int ((ld_up (ld_up Z 67 22 t0) 67 17 (((ld_up Z 67 22 t0) 67 17) - 1)) 67 17)) (Tb := TX4) (N := 23) (by decide) (fun _ => rfl) rfl inX4_undo_4 (by decide) (List.mem_of_getElem? (i := 1) rfl) rfl rfl dX4_undo_113 ?_
        refine lj_iald C (n := 20) (by decide) (fun _ => rfl) dX4_undo_116 ?_
        refine lj_iast C (n := 80) (by decide) (fun _ => rfl) dX4_undo_117 ?_
        refine lj_goto C (tgt := 136) dX4_undo_118 (by decide) ?_
        exact bX4_undo_136 l w C (ld_up (ld_up (ld_up Z 67 22 t0) 67 17 (((ld_up Z 67 22 t0) 67 17) - 1)) 70 ((ld_up (ld_up Z 67 22 t0) 67 17 (((ld_up Z 67 22 t0) 67 17) - 1)) 83 ((ld_up (ld_up Z 67 22 t0) 67 17 (((ld_up Z 67 22 t0) 67 17) - 1)) 67 17).toNatClampNeg).toNatClampNeg ((ld_up (ld_up Z 67 22 t0) 67 17 (((ld_up Z 67 22 t0) 67 17) - 1)) 84 ((ld_up (ld_up Z 67 22 t0) 67 17 (((ld_up Z 67 22 t0) 67 17) - 1)) 67 17).toNatClampNeg)) ((ld_up (ld_up Z 67 22 t0) 67 17 (((ld_up Z 67 22 t0) 67 17) - 1)) 83 ((ld_up (ld_up Z 67 22 t0) 67 17 (((ld_up Z 67 22 t0) 67 17) - 1)) 67 17).toNatClampNeg)
    · refine lj_aload_n C rfl rfl dX4_undo_57 ?_
      refine lj_get C (i := 67) (kk := 1) (G := (ld_f4 w)) (v := .ref (ld_ad w 68)) (Tb := TX4) (N := 23) (by decide) (fun _ => rfl) rfl inX4_undo_4 (by decide) (List.mem_of_getElem? (i := 5) rfl) rfl rfl dX4_undo_58 ?_
      refine lj_iload_n C rfl rfl dX4_undo_61 ?_
      refine lj_aload_n C rfl rfl dX4_undo_62 ?_
      refine lj_get C (i := 67) (kk := 20) (G := (ld_f4 w)) (v := .ref (ld_ad w 84)) (Tb := TX4) (N := 23) (by decide) (fun _ => rfl) rfl inX4_undo_4 (by decide) (List.mem_of_getElem? (i := 6) rfl) rfl rfl dX4_undo_63 ?_
      refine lj_aload_n C rfl rfl dX4_undo_66 ?_
      refine lj_get C (i := 67) (kk := 17) (G := (ld_f4 w)) (v := .int ((ld_up (ld_up Z 67 22 t0) 67 17 (((ld_up Z 67 22 t0) 67 17) - 1)) 67 17)) (Tb := TX4) (N := 23) (by decide) (fun _ => rfl) rfl inX4_undo_4 (by decide) (List.mem_of_getElem? (i := 1) rfl) rfl rfl dX4_undo_67 ?_
      refine lj_iald C (n := 20) (by decide) (fun _ => rfl) dX4_undo_70 ?_
      refine lj_iast C (n := 20) (by decide) (fun _ => rfl) dX4_undo_71 ?_
      refine lj_aload_n C rfl rfl dX4_undo_72 ?_
      refine lj_get C (i := 67) (kk := 2) (G := (ld_f4 w)) (v := .ref (ld_ad w 69)) (Tb := TX4) (N := 23) (by decide) (fun _ => rfl) rfl inX4_undo_4 (by decide) (List.mem_of_getElem? (i := 7) rfl) rfl rfl dX4_undo_73 ?_
      refine lj_iload_n C rfl rfl dX4_undo_76 ?_
      refine lj_aload_n C rfl rfl dX4_undo_77 ?_
      refine lj_get C (i := 67) (kk := 21) (G := (ld_f4 w)) (v := .ref (ld_ad w 85)) (Tb := TX4) (N := 23) (by decide) (fun _ => rfl) rfl inX4_undo_4 (by decide) (List.mem_of_getElem? (i := 8) rfl) rfl rfl dX4_undo_78 ?_
      refine lj_aload_n C rfl rfl dX4_undo_81 ?_
      refine lj_get C (i := 67) (kk := 17) (G := (ld_f4 w)) (v := .int ((ld_up (ld_up (ld_up Z 67 22 t0) 67 17 (((ld_up Z 67 22 t0) 67 17) - 1)) 68 ((ld_up (ld_up Z 67 22 t0) 67 17 (((ld_up Z 67 22 t0) 67 17) - 1)) 83 ((ld_up (ld_up Z 67 22 t0) 67 17 (((ld_up Z 67 22 t0) 67 17) - 1)) 67 17).toNatClampNeg).toNatClampNeg ((ld_up (ld_up Z 67 22 t0) 67 17 (((ld_up Z 67 22 t0) 67 17) - 1)) 84 ((ld_up (ld_up Z 67 22 t0) 67 17 (((ld_up Z 67 22 t0) 67 17) - 1)) 67 17).toNatClampNeg)) 67 17)) (Tb := TX4) (N := 23) (by decide) (fun _ => rfl) rfl inX4_undo_4 (by decide) (List.mem_of_getElem? (i := 1) rfl) rfl rfl dX4_undo_82 ?_
      refine lj_iald C (n := 20) (by decide) (fun _ => rfl) dX4_undo_85 ?_
      refine lj_iast C (n := 20) (by decide) (fun _ => rfl) dX4_undo_86 ?_
      refine lj_goto C (tgt := 136) dX4_undo_87 (by decide) ?_
      exact bX4_undo_136 l w C (ld_up (ld_up (ld_up (ld_up Z 67 22 t0) 67 17 (((ld_up Z 67 22 t0) 67 17) - 1)) 68 ((ld_up (ld_up Z 67 22 t0) 67 17 (((ld_up Z 67 22 t0) 67 17) - 1)) 83 ((ld_up (ld_up Z 67 22 t0) 67 17 (((ld_up Z 67 22 t0) 67 17) - 1)) 67 17).toNatClampNeg).toNatClampNeg ((ld_up (ld_up Z 67 22 t0) 67 17 (((ld_up Z 67 22 t0) 67 17) - 1)) 84 ((ld_up (ld_up Z 67 22 t0) 67 17 (((ld_up Z 67 22 t0) 67 17) - 1)) 67 17).toNatClampNeg)) 69 ((ld_up (ld_up Z 67 22 t0) 67 17 (((ld_up Z 67 22 t0) 67 17) - 1)) 83 ((ld_up (ld_up Z 67 22 t0) 67 17 (((ld_up Z 67 22 t0) 67 17) - 1)) 67 17).toNatClampNeg).toNatClampNeg ((ld_up (ld_up (ld_up Z 67 22 t0) 67 17 (((ld_up Z 67 22 t0) 67 17) - 1)) 68 ((ld_up (ld_up Z 67 22 t0) 67 17 (((ld_up Z 67 22 t0) 67 17) - 1)) 83 ((ld_up (ld_up Z 67 22 t0) 67 17 (((ld_up Z 67 22 t0) 67 17) - 1)) 67 17).toNatClampNeg).toNatClampNeg ((ld_up (ld_up Z 67 22 t0) 67 17 (((ld_up Z 67 22 t0) 67 17) - 1)) 84 ((ld_up (ld_up Z 67 22 t0) 67 17 (((ld_up Z 67 22 t0) 67 17) - 1)) 67 17).toNatClampNeg)) 85 ((ld_up (ld_up (ld_up Z 67 22 t0) 67 17 (((ld_up Z 67 22 t0) 67 17) - 1)) 68 ((ld_up (ld_up Z 67 22 t0) 67 17 (((ld_up Z 67 22 t0) 67 17) - 1)) 83 ((ld_up (ld_up Z 67 22 t0) 67 17 (((ld_up Z 67 22 t0) 67 17) - 1)) 67 17).toNatClampNeg).toNatClampNeg ((ld_up (ld_up Z 67 22 t0) 67 17 (((ld_up Z 67 22 t0) 67 17) - 1)) 84 ((ld_up (ld_up Z 67 22 t0) 67 17 (((ld_up Z 67 22 t0) 67 17) - 1)) 67 17).toNatClampNeg)) 67 17).toNatClampNeg)) ((ld_up (ld_up Z 67 22 t0) 67 17 (((ld_up Z 67 22 t0) 67 17) - 1)) 83 ((ld_up (ld_up Z 67 22 t0) 67 17 (((ld_up Z 67 22 t0) 67 17) - 1)) 67 17).toNatClampNeg)
  · refine lj_iconst C (v := 0) (by decide) dX4_undo_23 ?_
    exact lj_rb C (by decide) (by decide) dX4_undo_24
def kX4_undo (Z : ld_M)  : Option (Int32 × ld_M) := if ((Z 67 17) : Int32) = 0 then (kX4_undo_13 Z 1) else (kX4_undo_13 Z 0)
set_option maxHeartbeats 4000000 in
set_option maxRecDepth 100000 in
theorem zX4_undo (l : Launch) (w : ld_E) (Z : ld_M)   {r : Int32 × ld_M} (hr : kX4_undo Z  = some r) (sz : Nat) : Met l yX4_undo wsX4_undo ({ frames := 0, cells := 0, slots := 0, locals := 0 }) (ld_Pc w Z sz [.ref (ld_ad w 67)]) (ld_Q w r.2 sz (some (.int r.1))) 0 0 (ld_A w sz) := by
  refine ld_ofW (ws := wsX4_undo) (Qc := fun sz9 => ld_Q w r.2 sz9 (some (.int r.1))) RX4 (by decide +kernel) rfl rfl (by simp [Value.category]) (Nat.le_of_ble_eq_true rfl) sz ?_
  intro p e s m args below meth c C
  revert hr
  show ld_T p l e ({ frames := 0, cells := 0, slots := 0, locals := 0 }) s m args below meth c (MQ below (ld_Q w r.2 s.heap.size (some (.int r.1))) args s 0 0 (ld_A w s.heap.size)) w r (kX4_undo Z ) Z 0 0 0 [some (.ref (ld_ad w 67)), none] []
  unfold kX4_undo
  refine lj_aload_n C rfl rfl dX4_undo_0 ?_
  refine lj_aload_n C rfl rfl dX4_undo_1 ?_
  refine lj_get C (i := 67) (kk := 17) (G := (ld_f4 w)) (v := .int (Z 67 17)) (Tb := TX4) (N := 23) (by decide) (fun _ => rfl) rfl inX4_undo_4 (by decide) (List.mem_of_getElem? (i := 1) rfl) rfl rfl dX4_undo_2 ?_
  refine lj_if_ne C (tgt := 12) dX4_undo_5 (by decide) ?_ ?_
  · refine lj_iconst C (v := 0) (by decide) dX4_undo_12 ?_
    exact bX4_undo_13 l w C Z 0
  · refine lj_iconst C (v := 1) (by decide) dX4_undo_8 ?_
    refine lj_goto C (tgt := 13) dX4_undo_9 (by decide) ?_
    exact bX4_undo_13 l w C Z 1
theorem inX4_addLamp_4 : ∀ q ∈ u_ws RX4 TX4 23, q ∈ wsX4_addLamp := fun _ h => List.mem_cons_of_mem _ (List.mem_append_right _ h)
def kX4_addLamp_27 (a1 : Int32) (a2 : Int32) (Z : ld_M) (t0 : Int32) : Option (Int32 × ld_M) := if (((ld_up Z 67 22 t0) 67 22) : Int32) ≤ 0 then (ld_ck (ld_g ((ld_up Z 67 22 t0) 67 0) 20) (ld_ck (ld_g ((ld_up (ld_up Z 67 22 t0) 68 ((ld_up Z 67 22 t0) 67 0).toNatClampNeg a1) 67 0) 20) (some ((((ld_up (ld_up (ld_up (ld_up Z 67 22 t0) 68 ((ld_up Z 67 22 t0) 67 0).toNatClampNeg a1) 69 ((ld_up (ld_up Z 67 22 t0) 68 ((ld_up Z 67 22 t0) 67 0).toNatClampNeg a1) 67 0).toNatClampNeg a2) 67 0 (((ld_up (ld_up (ld_up Z 67 22 t0) 68 ((ld_up Z 67 22 t0) 67 0).toNatClampNeg a1) 69 ((ld_up (ld_up Z 67 22 t0) 68 ((ld_up Z 67 22 t0) 67 0).toNatClampNeg a1) 67 0).toNatClampNeg a2) 67 0) + 1)) 67 0) - 1), (ld_up (ld_up (ld_up (ld_up Z 67 22 t0) 68 ((ld_up Z 67 22 t0) 67 0).toNatClampNeg a1) 69 ((ld_up (ld_up Z 67 22 t0) 68 ((ld_up Z 67 22 t0) 67 0).toNatClampNeg a1) 67 0).toNatClampNeg a2) 67 0 (((ld_up (ld_up (ld_up Z 67 22 t0) 68 ((ld_up Z 67 22 t0) 67 0).toNatClampNeg a1) 69 ((ld_up (ld_up Z 67 22 t0) 68 ((ld_up Z 67 22 t0) 67 0).toNatClampNeg a1) 67 0).toNatClampNeg a2) 67 0) + 1)))))) else (some (0, (ld_up Z 67 22 t0)))
set_option maxHeartbeats 4000000 in
set_option maxRecDepth 100000 in
theorem bX4_addLamp_27 {p : Program} {e : Env} {s : State} {m : MethodId} {args : Array Value} {below : List Frame} {meth : Method} {c : Code} (l : Launch) (w : ld_E) (a1 : Int32) (a2 : Int32) {r : Int32 × ld_M} (C : ld_C p l s m args meth c cX4_addLamp 3 (some .int) wsX4_addLamp RX4 w) (Z : ld_M) (t0 : Int32) : ld_T p l e ({ frames := 2, cells := 0, slots := 0, locals := 43 }) s m args below meth c (MQ below (ld_Q w r.2 s.heap.size (some (.int r.1))) args s 0 0 (ld_A w s.heap.size)) w r (kX4_addLamp_27 a1 a2 Z t0) Z 0 0 27 [some (.ref (ld_ad w 67)), some (.int a1), some (.int a2)] [.int t0, .ref (ld_ad w 67)] := by
  unfold kX4_addLamp_27
  refine lj_put C (i := 67) (kk := 22) (G := (ld_f4 w)) (Tb := TX4) (N := 23) (by decide) (fun _ => rfl) rfl inX4_addLamp_4 (by decide) (List.mem_of_getElem? (i := 2) rfl) rfl tyX4 tyX4_ok nmX4 rfl (by decide +kernel) (Nat.le_of_ble_eq_true rfl) rfl dX4_addLamp_27 ?_
  refine lj_aload_n C rfl rfl dX4_addLamp_30 ?_
  refine lj_get C (i := 67) (kk := 22) (G := (ld_f4 w)) (v := .int ((ld_up Z 67 22 t0) 67 22)) (Tb := TX4) (N := 23) (by decide) (fun _ => rfl) rfl inX4_addLamp_4 (by decide) (List.mem_of_getElem? (i := 2) rfl) rfl rfl dX4_addLamp_31 ?_
  refine lj_if_le C (tgt := 39) dX4_addLamp_34 (by decide) ?_ ?_
  · refine lj_aload_n C rfl rfl dX4_addLamp_39 ?_
    refine lj_get C (i := 67) (kk := 1) (G := (ld_f4 w)) (v := .ref (ld_ad w 68)) (Tb := TX4) (N := 23) (by decide) (fun _ => rfl) rfl inX4_addLamp_4 (by decide) (List.mem_of_getElem? (i := 3) rfl) rfl rfl dX4_addLamp_40 ?_
    refine lj_aload_n C rfl rfl dX4_addLamp_43 ?_
    refine lj_get C (i := 67) (kk := 0) (G := (ld_f4 w)) (v := .int ((ld_up Z 67 22 t0) 67 0)) (Tb := TX4) (N := 23) (by decide) (fun _ => rfl) rfl inX4_addLamp_4 (by decide) (List.mem_of_getElem? (i := 1) rfl) rfl rfl dX4_addLamp_44 ?_
    refine lj_iload_n C rfl rfl dX4_addLamp_47 ?_
    refine lj_iast C (n := 20) (by decide) (fun _ => rfl) dX4_addLamp_48 ?_
    refine lj_aload_n C rfl rfl dX4_addLamp_49 ?_
    refine lj_get C (i := 67) (kk := 2) (G := (ld_f4 w)) (v := .ref (ld_ad w 69)) (Tb := TX4) (N := 23) (by decide) (fun _ => rfl) rfl inX4_addLamp_4 (by decide) (List.mem_of_getElem? (i := 4) rfl) rfl rfl dX4_addLamp_50 ?_
    refine lj_aload_n C rfl rfl dX4_addLamp_53 ?_
    refine lj_get C (i := 67) (kk := 0) (G := (ld_f4 w)) (v := .int ((ld_up (ld_up Z 67 22 t0) 68 ((ld_up Z 67 22 t0) 67 0).toNatClampNeg a1) 67 0)) (Tb := TX4) (N := 23) (by decide) (fun _ => rfl) rfl inX4_addLamp_4 (by decide) (List.mem_of_getElem? (i := 1) rfl) rfl rfl dX4_addLamp_54 ?_
    refine lj_iload_n C rfl rfl dX4_addLamp_57 ?_
    refine lj_iast C (n := 20) (by decide) (fun _ => rfl) dX4_addLamp_58 ?_
    refine lj_aload_n C rfl rfl dX4_addLamp_59 ?_
    refine lj_dup C rfl dX4_addLamp_60 ?_
    refine lj_get C (i := 67) (kk := 0) (G := (ld_f4 w)) (v := .int ((ld_up (ld_up (ld_up Z 67 22 t0) 68 ((ld_up Z 67 22 t0) 67 0).toNatClampNeg a1) 69 ((ld_up (ld_up Z 67 22 t0) 68 ((ld_up Z 67 22 t0) 67 0).toNatClampNeg a1) 67 0).toNatClampNeg a2) 67 0)) (Tb := TX4) (N := 23) (by decide) (fun _ => rfl) rfl inX4_addLamp_4 (by decide) (List.mem_of_getElem? (i := 1) rfl) rfl rfl dX4_addLamp_61 ?_
    refine lj_iconst C (v := 1) (by decide) dX4_addLamp_64 ?_
    refine lj_iadd C dX4_addLamp_65 ?_
    refine lj_put C (i := 67) (kk := 0) (G := (ld_f4 w)) (Tb := TX4) (N := 23) (by decide) (fun _ => rfl) rfl inX4_addLamp_4 (by decide) (List.mem_of_getElem? (i := 1) rfl) rfl tyX4 tyX4_ok nmX4 rfl (by decide +kernel) (Nat.le_of_ble_eq_true rfl) rfl dX4_addLamp_66 ?_
    refine lj_aload_n C rfl rfl dX4_addLamp_69 ?_
    refine lj_get C (i := 67) (kk := 0) (G := (ld_f4 w)) (v := .int ((ld_up (ld_up (ld_up (ld_up Z 67 22 t0) 68 ((ld_up Z 67 22 t0) 67 0).toNatClampNeg a1) 69 ((ld_up (ld_up Z 67 22 t0) 68 ((ld_up Z 67 22 t0) 67 0).toNatClampNeg a1) 67 0).toNatClampNeg a2) 67 0 (((ld_up (ld_up (ld_up Z 67 22 t0) 68 ((ld_up Z 67 22 t0) 67 0).toNatClampNeg a1) 69 ((ld_up (ld_up Z 67 22 t0) 68 ((ld_up Z 67 22 t0) 67 0).toNatClampNeg a1) 67 0).toNatClampNeg a2) 67 0) + 1)) 67 0)) (Tb := TX4) (N := 23) (by decide) (fun _ => rfl) rfl inX4_addLamp_4 (by decide) (List.mem_of_getElem? (i := 1) rfl) rfl rfl dX4_addLamp_70 ?_
    refine lj_iconst C (v := 1) (by decide) dX4_addLamp_73 ?_
    refine lj_isub C dX4_addLamp_74 ?_
    exact lj_rb C (by decide) (by decide) dX4_addLamp_75
  · refine lj_iconst C (v := 0) (by decide) dX4_addLamp_37 ?_
    exact lj_rb C (by decide) (by decide) dX4_addLamp_38
def kX4_addLamp (Z : ld_M) (a1 : Int32) (a2 : Int32) : Option (Int32 × ld_M) := ld_bd (kX4_isMade Z a1 a2) (fun x3 => if (x3 : Int32) = 0 then (kX4_addLamp_27 a1 a2 Z 1) else (if ((Z 67 0) : Int32) = 20 then (kX4_addLamp_27 a1 a2 Z 2) else (kX4_addLamp_27 a1 a2 Z 0)))
set_option maxHeartbeats 4000000 in
set_option maxRecDepth 100000 in
theorem zX4_addLamp (l : Launch) (w : ld_E) (Z : ld_M) (a1 : Int32) (a2 : Int32)  {r : Int32 × ld_M} (hr : kX4_addLamp Z a1 a2 = some r) (sz : Nat) : Met l yX4_addLamp wsX4_addLamp ({ frames := 2, cells := 0, slots := 0, locals := 43 }) (ld_Pc w Z sz [.ref (ld_ad w 67), .int a1, .int a2]) (ld_Q w r.2 sz (some (.int r.1))) 0 0 (ld_A w sz) := by
  refine ld_ofW (ws := wsX4_addLamp) (Qc := fun sz9 => ld_Q w r.2 sz9 (some (.int r.1))) RX4 (by decide +kernel) rfl rfl (by simp [Value.category]) (Nat.le_of_ble_eq_true rfl) sz ?_
  intro p e s m args below meth c C
  revert hr
  show ld_T p l e ({ frames := 2, cells := 0, slots := 0, locals := 43 }) s m args below meth c (MQ below (ld_Q w r.2 s.heap.size (some (.int r.1))) args s 0 0 (ld_A w s.heap.size)) w r (kX4_addLamp Z a1 a2) Z 0 0 0 [some (.ref (ld_ad w 67)), some (.int a1), some (.int a2)] []
  unfold kX4_addLamp
  refine lj_aload_n C rfl rfl dX4_addLamp_0 ?_
  refine lj_iload_n C rfl rfl dX4_addLamp_1 ?_
  refine lj_iload_n C rfl rfl dX4_addLamp_2 ?_
  refine lj_cSa C (As := [.int a1, .int a2]) (rest := [.ref (ld_ad w 67)]) (fun sz x hx => zX4_isMade l w Z a1 a2 hx sz) (va_cwS 2 C.2.2.2.2.1 gX4_addLamp_X4_isMade rfl rfl rfl (by decide +kernel) ⟨Nat.le_of_ble_eq_true rfl, Nat.le_of_ble_eq_true rfl⟩) rfl rfl rfl (Nat.le_of_ble_eq_true rfl) ⟨Nat.le_of_ble_eq_true rfl, Nat.le_of_ble_eq_true rfl⟩ dX4_addLamp_3 (fun x3 hx3 => ?_)
  refine lj_if_ne C (tgt := 13) dX4_addLamp_6 (by decide) ?_ ?_
  · refine lj_aload_n C rfl rfl dX4_addLamp_13 ?_
    refine lj_get C (i := 67) (kk := 0) (G := (ld_f4 w)) (v := .int (Z 67 0)) (Tb := TX4) (N := 23) (by decide) (fun _ => rfl) rfl inX4_addLamp_4 (by decide) (List.mem_of_getElem? (i := 1) rfl) rfl rfl dX4_addLamp_14 ?_
    refine lj_bipush C (v := 20) (by decide) dX4_addLamp_17 ?_
    refine lj_icmp_ne C (tgt := 26) dX4_addLamp_19 (by decide) ?_ ?_
    · refine lj_iconst C (v := 0) (by decide) dX4_addLamp_26 ?_
      exact bX4_addLamp_27 l w a1 a2 C Z 0
    · refine lj_iconst C (v := 2) (by decide) dX4_addLamp_22 ?_
      refine lj_goto C (tgt := 27) dX4_addLamp_23 (by decide) ?_
      exact bX4_addLamp_27 l w a1 a2 C Z 2
  · refine lj_iconst C (v := 1) (by decide) dX4_addLamp_9 ?_
    refine lj_goto C (tgt := 27) dX4_addLamp_10 (by decide) ?_
    exact bX4_addLamp_27 l w a1 a2 C Z 1
theorem inX4_swap_4 : ∀ q ∈ u_ws RX4 TX4 23, q ∈ wsX4_swap := fun _ h => List.mem_cons_of_mem _ (List.mem_append_right _ h)
def kX4_swap_68 (a1 : Int32) (a2 : Int32) (a3 : Int32) (Z : ld_M)  : Option (ld_M) := some Z
set_option maxHeartbeats 4000000 in
set_option maxRecDepth 100000 in
theorem bX4_swap_68 {p : Program} {e : Env} {s : State} {m : MethodId} {args : Array Value} {below : List Frame} {meth : Method} {c : Code} (l : Launch) (w : ld_E) (a1 : Int32) (a2 : Int32) (a3 : Int32) {r : ld_M} (C : ld_C p l s m args meth c cX4_swap 4 none wsX4_swap RX4 w) (Z : ld_M)  : ld_T p l e ({ frames := 2, cells := 0, slots := 0, locals := 43 }) s m args below meth c (MQ below (ld_Q w r s.heap.size none) args s 0 0 (ld_A w s.heap.size)) w r (kX4_swap_68 a1 a2 a3 Z ) Z 0 0 68 [some (.ref (ld_ad w 67)), some (.int a1), some (.int a2), some (.int a3)] [] := by
  unfold kX4_swap_68
  exact lj_rv C (by decide) (by decide) dX4_swap_68
def kX4_swap_26 (a1 : Int32) (a2 : Int32) (a3 : Int32) (Z : ld_M) (t0 : Int32) : Option (ld_M) := if (((ld_up Z 67 22 t0) 67 22) : Int32) = 0 then (ld_ck (ld_g a1 20) (ld_ck (ld_g a1 20) (ld_bd (kX4_keeps (ld_up Z 67 22 t0) 0 a1 ((ld_up Z 67 22 t0) 68 a1.toNatClampNeg) ((ld_up Z 67 22 t0) 69 a1.toNatClampNeg)) (fun x51 => ld_ck (ld_g a1 20) (ld_ck (ld_g a1 20) (kX4_swap_68 a1 a2 a3 (ld_up (ld_up x51 68 a1.toNatClampNeg a2) 69 a1.toNatClampNeg a3))))))) else (kX4_swap_68 a1 a2 a3 (ld_up Z 67 22 t0))
set_option maxHeartbeats 4000000 in
set_option maxRecDepth 100000 in
theorem bX4_swap_26 {p : Program} {e : Env} {s : State} {m : MethodId} {args : Array Value} {below : List Frame} {meth : Method} {c : Code} (l : Launch) (w : ld_E) (a1 : Int32) (a2 : Int32) (a3 : Int32) {r : ld_M} (C : ld_C p l s m args meth c cX4_swap 4 none wsX4_swap RX4 w) (Z : ld_M) (t0 : Int32) : ld_T p l e ({ frames := 2, cells := 0, slots := 0, locals := 43 }) s m args below meth c (MQ below (ld_Q w r s.heap.size none) args s 0 0 (ld_A w s.heap.size)) w r (kX4_swap_26 a1 a2 a3 Z t0) Z 0 0 26 [some (.ref (ld_ad w 67)), some (.int a1), some (.int a2), some (.int a3)] [.int t0, .ref (ld_ad w 67)] := by
  unfold kX4_swap_26
  refine lj_put C (i := 67) (kk := 22) (G := (ld_f4 w)) (Tb := TX4) (N := 23) (by decide) (fun _ => rfl) rfl inX4_swap_4 (by decide) (List.mem_of_getElem? (i := 1) rfl) rfl tyX4 tyX4_ok nmX4 rfl (by decide +kernel) (Nat.le_of_ble_eq_true rfl) rfl dX4_swap_26 ?_
  refine lj_aload_n C rfl rfl dX4_swap_29 ?_
  refine lj_get C (i := 67) (kk := 22) (G := (ld_f4 w)) (v := .int ((ld_up Z 67 22 t0) 67 22)) (Tb := TX4) (N := 23) (by decide) (fun _ => rfl) rfl inX4_swap_4 (by decide) (List.mem_of_getElem? (i := 1) rfl) rfl rfl dX4_swap_30 ?_
  refine lj_if_ne C (tgt := 68) dX4_swap_33 (by decide) ?_ ?_
  · exact bX4_swap_68 l w a1 a2 a3 C (ld_up Z 67 22 t0)
  · refine lj_aload_n C rfl rfl dX4_swap_36 ?_
    refine lj_iconst C (v := 0) (by decide) dX4_swap_37 ?_
    refine lj_iload_n C rfl rfl dX4_swap_38 ?_
    refine lj_aload_n C rfl rfl dX4_swap_39 ?_
    refine lj_get C (i := 67) (kk := 1) (G := (ld_f4 w)) (v := .ref (ld_ad w 68)) (Tb := TX4) (N := 23) (by decide) (fun _ => rfl) rfl inX4_swap_4 (by decide) (List.mem_of_getElem? (i := 2) rfl) rfl rfl dX4_swap_40 ?_
    refine lj_iload_n C rfl rfl dX4_swap_43 ?_
    refine lj_iald C (n := 20) (by decide) (fun _ => rfl) dX4_swap_44 ?_
    refine lj_aload_n C rfl rfl dX4_swap_45 ?_
    refine lj_get C (i := 67) (kk := 2) (G := (ld_f4 w)) (v := .ref (ld_ad w 69)) (Tb := TX4) (N := 23) (by decide) (fun _ => rfl) rfl inX4_swap_4 (by decide) (List.mem_of_getElem? (i := 3) rfl) rfl rfl dX4_swap_46 ?_
    refine lj_iload_n C rfl rfl dX4_swap_49 ?_
    refine lj_iald C (n := 20) (by decide) (fun _ => rfl) dX4_swap_50 ?_
    refine lj_cVv C (As := [.int 0, .int a1, .int ((ld_up Z 67 22 t0) 68 a1.toNatClampNeg), .int ((ld_up Z 67 22 t0) 69 a1.toNatClampNeg)]) (rest := []) (i := 67) (ci := 4) (Cn := RX4) (Tb := TX4) (N := 23) (fs := (ld_f4 w) ((ld_up Z 67 22 t0) 67)) (fun sz x hx => zX4_keeps l w (ld_up Z 67 22 t0) 0 a1 ((ld_up Z 67 22 t0) 68 a1.toNatClampNeg) ((ld_up Z 67 22 t0) 69 a1.toNatClampNeg) hx sz) (cwV 4 C.2.2.2.2.1 gX4_swap_X4_keeps rfl rfl rfl (by decide +kernel) ⟨Nat.le_of_ble_eq_true rfl, Nat.le_of_ble_eq_true rfl⟩) (by decide) ((fun _ => rfl) _) rfl rfl rfl rfl (Nat.le_of_ble_eq_true rfl) ⟨Nat.le_of_ble_eq_true rfl, Nat.le_of_ble_eq_true rfl⟩ dX4_swap_51 (fun x51 hx51 => ?_)
    refine lj_aload_n C rfl rfl dX4_swap_54 ?_
    refine lj_get C (i := 67) (kk := 1) (G := (ld_f4 w)) (v := .ref (ld_ad w 68)) (Tb := TX4) (N := 23) (by decide) (fun _ => rfl) rfl inX4_swap_4 (by decide) (List.mem_of_getElem? (i := 2) rfl) rfl rfl dX4_swap_55 ?_
    refine lj_iload_n C rfl rfl dX4_swap_58 ?_
    refine lj_iload_n C rfl rfl dX4_swap_59 ?_
    refine lj_iast C (n := 20) (by decide) (fun _ => rfl) dX4_swap_60 ?_
    refine lj_aload_n C rfl rfl dX4_swap_61 ?_
    refine lj_get C (i := 67) (kk := 2) (G := (ld_f4 w)) (v := .ref (ld_ad w 69)) (Tb := TX4) (N := 23) (by decide) (fun _ => rfl) rfl inX4_swap_4 (by decide) (List.mem_of_getElem? (i := 3) rfl) rfl rfl dX4_swap_62 ?_
    refine lj_iload_n C rfl rfl dX4_swap_65 ?_
    refine lj_iload_n C rfl rfl dX4_swap_66 ?_
    refine lj_iast C (n := 20) (by decide) (fun _ => rfl) dX4_swap_67 ?_
    exact bX4_swap_68 l w a1 a2 a3 C (ld_up (ld_up x51 68 a1.toNatClampNeg a2) 69 a1.toNatClampNeg a3)
def kX4_swap (Z : ld_M) (a1 : Int32) (a2 : Int32) (a3 : Int32) : Option (ld_M) := ld_bd (kX4_isLamp Z a1) (fun x3 => if (x3 : Int32) = 0 then (kX4_swap_26 a1 a2 a3 Z 1) else (ld_bd (kX4_isMade Z a2 a3) (fun x15 => if (x15 : Int32) = 0 then (kX4_swap_26 a1 a2 a3 Z 2) else (kX4_swap_26 a1 a2 a3 Z 0))))
set_option maxHeartbeats 4000000 in
set_option maxRecDepth 100000 in
theorem zX4_swap (l : Launch) (w : ld_E) (Z : ld_M) (a1 : Int32) (a2 : Int32) (a3 : Int32)  {r : ld_M} (hr : kX4_swap Z a1 a2 a3 = some r) (sz : Nat) : Met l yX4_swap wsX4_swap ({ frames := 2, cells := 0, slots := 0, locals := 43 }) (ld_Pc w Z sz [.ref (ld_ad w 67), .int a1, .int a2, .int a3]) (ld_Q w r sz none) 0 0 (ld_A w sz) := by
  refine ld_ofW (ws := wsX4_swap) (Qc := fun sz9 => ld_Q w r sz9 none) RX4 (by decide +kernel) rfl rfl (by simp [Value.category]) (Nat.le_of_ble_eq_true rfl) sz ?_
  intro p e s m args below meth c C
  revert hr
  show ld_T p l e ({ frames := 2, cells := 0, slots := 0, locals := 43 }) s m args below meth c (MQ below (ld_Q w r s.heap.size none) args s 0 0 (ld_A w s.heap.size)) w r (kX4_swap Z a1 a2 a3) Z 0 0 0 [some (.ref (ld_ad w 67)), some (.int a1), some (.int a2), some (.int a3)] []
  unfold kX4_swap
  refine lj_aload_n C rfl rfl dX4_swap_0 ?_
  refine lj_aload_n C rfl rfl dX4_swap_1 ?_
  refine lj_iload_n C rfl rfl dX4_swap_2 ?_
  refine lj_cVa C (As := [.int a1]) (rest := [.ref (ld_ad w 67)]) (i := 67) (ci := 4) (Cn := RX4) (Tb := TX4) (N := 23) (fs := (ld_f4 w) (Z 67)) (fun sz x hx => zX4_isLamp l w Z a1 hx sz) (cwV 1 C.2.2.2.2.1 gX4_swap_X4_isLamp rfl rfl rfl (by decide +kernel) ⟨Nat.le_of_ble_eq_true rfl, Nat.le_of_ble_eq_true rfl⟩) (by decide) ((fun _ => rfl) _) rfl rfl rfl rfl (Nat.le_of_ble_eq_true rfl) ⟨Nat.le_of_ble_eq_true rfl, Nat.le_of_ble_eq_true rfl⟩ dX4_swap_3 (fun x3 hx3 => ?_)
  refine lj_if_ne C (tgt := 13) dX4_swap_6 (by decide) ?_ ?_
  · refine lj_iload_n C rfl rfl dX4_swap_13 ?_
    refine lj_iload_n C rfl rfl dX4_swap_14 ?_
    refine lj_cSa C (As := [.int a2, .int a3]) (rest := [.ref (ld_ad w 67)]) (fun sz x hx => zX4_isMade l w Z a2 a3 hx sz) (va_cwS 2 C.2.2.2.2.1 gX4_swap_X4_isMade rfl rfl rfl (by decide +kernel) ⟨Nat.le_of_ble_eq_true rfl, Nat.le_of_ble_eq_true rfl⟩) rfl rfl rfl (Nat.le_of_ble_eq_true rfl) ⟨Nat.le_of_ble_eq_true rfl, Nat.le_of_ble_eq_true rfl⟩ dX4_swap_15 (fun x15 hx15 => ?_)
    refine lj_if_ne C (tgt := 25) dX4_swap_18 (by decide) ?_ ?_
    · refine lj_iconst C (v := 0) (by decide) dX4_swap_25 ?_
      exact bX4_swap_26 l w a1 a2 a3 C Z 0
    · refine lj_iconst C (v := 2) (by decide) dX4_swap_21 ?_
      refine lj_goto C (tgt := 26) dX4_swap_22 (by decide) ?_
      exact bX4_swap_26 l w a1 a2 a3 C Z 2
  · refine lj_iconst C (v := 1) (by decide) dX4_swap_9 ?_
    refine lj_goto C (tgt := 26) dX4_swap_10 (by decide) ?_
    exact bX4_swap_26 l w a1 a2 a3 C Z 1
theorem inX4_hang_4 : ∀ q ∈ u_ws RX4 TX4 23, q ∈ wsX4_hang := fun _ h => List.mem_cons_of_mem _ (List.mem_append_right _ h)
def kX4_hang_37 (a1 : Int32) (a2 : Int32) (a3 : Int32) (Z : ld_M) (t0 : Int32) : Option (Int32 × ld_M) := if (((ld_up Z 67 22 t0) 67 22) : Int32) ≤ 0 then (ld_ck (ld_g ((20 * a1) + a2) 80) (ld_ck (ld_g ((20 * a1) + a2) 80) (ld_bd (kX4_keeps (ld_up Z 67 22 t0) 1 ((20 * a1) + a2) ((ld_up Z 67 22 t0) 70 ((20 * a1) + a2).toNatClampNeg) 0) (fun x80 => ld_ck (ld_g ((20 * a1) + a2) 80) (some ((((ld_up Z 67 22 t0) 70 ((20 * a1) + a2).toNatClampNeg) - 1), (ld_up x80 70 ((20 * a1) + a2).toNatClampNeg (a3 + 1)))))))) else (some (0, (ld_up Z 67 22 t0)))
set_option maxHeartbeats 4000000 in
set_option maxRecDepth 100000 in
theorem bX4_hang_37 {p : Program} {e : Env} {s : State} {m : MethodId} {args : Array Value} {below : List Frame} {meth : Method} {c : Code} (l : Launch) (w : ld_E) (a1 : Int32) (a2 : Int32) (a3 : Int32) {r : Int32 × ld_M} (C : ld_C p l s m args meth c cX4_hang 6 (some .int) wsX4_hang RX4 w) (Z : ld_M) (t0 : Int32) : ld_T p l e ({ frames := 2, cells := 0, slots := 0, locals := 43 }) s m args below meth c (MQ below (ld_Q w r.2 s.heap.size (some (.int r.1))) args s 0 0 (ld_A w s.heap.size)) w r (kX4_hang_37 a1 a2 a3 Z t0) Z 0 0 37 [some (.ref (ld_ad w 67)), some (.int a1), some (.int a2), some (.int a3), none, none] [.int t0, .ref (ld_ad w 67)] := by
  unfold kX4_hang_37
  refine lj_put C (i := 67) (kk := 22) (G := (ld_f4 w)) (Tb := TX4) (N := 23) (by decide) (fun _ => rfl) rfl inX4_hang_4 (by decide) (List.mem_of_getElem? (i := 1) rfl) rfl tyX4 tyX4_ok nmX4 rfl (by decide +kernel) (Nat.le_of_ble_eq_true rfl) rfl dX4_hang_37 ?_
  refine lj_aload_n C rfl rfl dX4_hang_40 ?_
  refine lj_get C (i := 67) (kk := 22) (G := (ld_f4 w)) (v := .int ((ld_up Z 67 22 t0) 67 22)) (Tb := TX4) (N := 23) (by decide) (fun _ => rfl) rfl inX4_hang_4 (by decide) (List.mem_of_getElem? (i := 1) rfl) rfl rfl dX4_hang_41 ?_
  refine lj_if_le C (tgt := 49) dX4_hang_44 (by decide) ?_ ?_
  · refine lj_bipush C (v := 20) (by decide) dX4_hang_49 ?_
    refine lj_iload_n C rfl rfl dX4_hang_51 ?_
    refine lj_imul C dX4_hang_52 ?_
    refine lj_iload_n C rfl rfl dX4_hang_53 ?_
    refine lj_iadd C dX4_hang_54 ?_
    refine lj_istore C (lv2 := [some (.ref (ld_ad w 67)), some (.int a1), some (.int a2), some (.int a3), some (.int ((20 * a1) + a2)), none]) (Nat.le_of_ble_eq_true rfl) rfl dX4_hang_55 ?_
    refine lj_aload_n C rfl rfl dX4_hang_57 ?_
    refine lj_get C (i := 67) (kk := 3) (G := (ld_f4 w)) (v := .ref (ld_ad w 70)) (Tb := TX4) (N := 23) (by decide) (fun _ => rfl) rfl inX4_hang_4 (by decide) (List.mem_of_getElem? (i := 2) rfl) rfl rfl dX4_hang_58 ?_
    refine lj_iload C rfl dX4_hang_61 ?_
    refine lj_iald C (n := 80) (by decide) (fun _ => rfl) dX4_hang_63 ?_
    refine lj_iconst C (v := 1) (by decide) dX4_hang_64 ?_
    refine lj_isub C dX4_hang_65 ?_
    refine lj_istore C (lv2 := [some (.ref (ld_ad w 67)), some (.int a1), some (.int a2), some (.int a3), some (.int ((20 * a1) + a2)), some (.int (((ld_up Z 67 22 t0) 70 ((20 * a1) + a2).toNatClampNeg) - 1))]) (Nat.le_of_ble_eq_true rfl) rfl dX4_hang_66 ?_
    refine lj_aload_n C rfl rfl dX4_hang_68 ?_
    refine lj_iconst C (v := 1) (by decide) dX4_hang_69 ?_
    refine lj_iload C rfl dX4_hang_70 ?_
    refine lj_aload_n C rfl rfl dX4_hang_72 ?_
    refine lj_get C (i := 67) (kk := 3) (G := (ld_f4 w)) (v := .ref (ld_ad w 70)) (Tb := TX4) (N := 23) (by decide) (fun _ => rfl) rfl inX4_hang_4 (by decide) (List.mem_of_getElem? (i := 2) rfl) rfl rfl dX4_hang_73 ?_
    refine lj_iload C rfl dX4_hang_76 ?_
    refine lj_iald C (n := 80) (by decide) (fun _ => rfl) dX4_hang_78 ?_
    refine lj_iconst C (v := 0) (by decide) dX4_hang_79 ?_
    refine lj_cVv C (As := [.int 1, .int ((20 * a1) + a2), .int ((ld_up Z 67 22 t0) 70 ((20 * a1) + a2).toNatClampNeg), .int 0]) (rest := []) (i := 67) (ci := 4) (Cn := RX4) (Tb := TX4) (N := 23) (fs := (ld_f4 w) ((ld_up Z 67 22 t0) 67)) (fun sz x hx => zX4_keeps l w (ld_up Z 67 22 t0) 1 ((20 * a1) + a2) ((ld_up Z 67 22 t0) 70 ((20 * a1) + a2).toNatClampNeg) 0 hx sz) (cwV 4 C.2.2.2.2.1 gX4_hang_X4_keeps rfl rfl rfl (by decide +kernel) ⟨Nat.le_of_ble_eq_true rfl, Nat.le_of_ble_eq_true rfl⟩) (by decide) ((fun _ => rfl) _) rfl rfl rfl rfl (Nat.le_of_ble_eq_true rfl) ⟨Nat.le_of_ble_eq_true rfl, Nat.le_of_ble_eq_true rfl⟩ dX4_hang_80 (fun x80 hx80 => ?_)
    refine lj_aload_n C rfl rfl dX4_hang_83 ?_
    refine lj_get C (i := 67) (kk := 3) (G := (ld_f4 w)) (v := .ref (ld_ad w 70)) (Tb := TX4) (N := 23) (by decide) (fun _ => rfl) rfl inX4_hang_4 (by decide) (List.mem_of_getElem? (i := 2) rfl) rfl rfl dX4_hang_84 ?_
    refine lj_iload C rfl dX4_hang_87 ?_
    refine lj_iload_n C rfl rfl dX4_hang_89 ?_
    refine lj_iconst C (v := 1) (by decide) dX4_hang_90 ?_
    refine lj_iadd C dX4_hang_91 ?_
    refine lj_iast C (n := 80) (by decide) (fun _ => rfl) dX4_hang_92 ?_
    refine lj_iload C rfl dX4_hang_93 ?_
    exact lj_rb C (by decide) (by decide) dX4_hang_95
  · refine lj_iconst C (v := 0) (by decide) dX4_hang_47 ?_
    exact lj_rb C (by decide) (by decide) dX4_hang_48
def kX4_hang_32 (a1 : Int32) (a2 : Int32) (a3 : Int32) (Z : ld_M)  : Option (Int32 × ld_M) := kX4_hang_37 a1 a2 a3 Z 2
set_option maxHeartbeats 4000000 in
set_option maxRecDepth 100000 in
theorem bX4_hang_32 {p : Program} {e : Env} {s : State} {m : MethodId} {args : Array Value} {below : List Frame} {meth : Method} {c : Code} (l : Launch) (w : ld_E) (a1 : Int32) (a2 : Int32) (a3 : Int32) {r : Int32 × ld_M} (C : ld_C p l s m args meth c cX4_hang 6 (some .int) wsX4_hang RX4 w) (Z : ld_M)  : ld_T p l e ({ frames := 2, cells := 0, slots := 0, locals := 43 }) s m args below meth c (MQ below (ld_Q w r.2 s.heap.size (some (.int r.1))) args s 0 0 (ld_A w s.heap.size)) w r (kX4_hang_32 a1 a2 a3 Z ) Z 0 0 32 [some (.ref (ld_ad w 67)), some (.int a1), some (.int a2), some (.int a3), none, none] [.ref (ld_ad w 67)] := by
  unfold kX4_hang_32
  refine lj_iconst C (v := 2) (by decide) dX4_hang_32 ?_
  refine lj_goto C (tgt := 37) dX4_hang_33 (by decide) ?_
  exact bX4_hang_37 l w a1 a2 a3 C Z 2
def kX4_hang_36 (a1 : Int32) (a2 : Int32) (a3 : Int32) (Z : ld_M)  : Option (Int32 × ld_M) := kX4_hang_37 a1 a2 a3 Z 0
set_option maxHeartbeats 4000000 in
set_option maxRecDepth 100000 in
theorem bX4_hang_36 {p : Program} {e : Env} {s : State} {m : MethodId} {args : Array Value} {below : List Frame} {meth : Method} {c : Code} (l : Launch) (w : ld_E) (a1 : Int32) (a2 : Int32) (a3 : Int32) {r : Int32 × ld_M} (C : ld_C p l s m args meth c cX4_hang 6 (some .int) wsX4_hang RX4 w) (Z : ld_M)  : ld_T p l e ({ frames := 2, cells := 0, slots := 0, locals := 43 }) s m args below meth c (MQ below (ld_Q w r.2 s.heap.size (some (.int r.1))) args s 0 0 (ld_A w s.heap.size)) w r (kX4_hang_36 a1 a2 a3 Z ) Z 0 0 36 [some (.ref (ld_ad w 67)), some (.int a1), some (.int a2), some (.int a3), none, none] [.ref (ld_ad w 67)] := by
  unfold kX4_hang_36
  refine lj_iconst C (v := 0) (by decide) dX4_hang_36 ?_
  exact bX4_hang_37 l w a1 a2 a3 C Z 0
def kX4_hang (Z : ld_M) (a1 : Int32) (a2 : Int32) (a3 : Int32) : Option (Int32 × ld_M) := ld_bd (kX4_isLamp Z a2) (fun x3 => if (x3 : Int32) = 0 then (kX4_hang_37 a1 a2 a3 Z 1) else (ld_bd (kX4_isNight Z a1) (fun x14 => if (x14 : Int32) = 0 then (kX4_hang_32 a1 a2 a3 Z) else (if (a3 : Int32) = (-1) then (kX4_hang_36 a1 a2 a3 Z) else (ld_bd (kX4_isChannel Z a3) (fun x26 => if (x26 : Int32) = 0 then (kX4_hang_32 a1 a2 a3 Z) else (kX4_hang_36 a1 a2 a3 Z)))))))
set_option maxHeartbeats 4000000 in
set_option maxRecDepth 100000 in
theorem zX4_hang (l : Launch) (w : ld_E) (Z : ld_M) (a1 : Int32) (a2 : Int32) (a3 : Int32)  {r : Int32 × ld_M} (hr : kX4_hang Z a1 a2 a3 = some r) (sz : Nat) : Met l yX4_hang wsX4_hang ({ frames := 2, cells := 0, slots := 0, locals := 43 }) (ld_Pc w Z sz [.ref (ld_ad w 67), .int a1, .int a2, .int a3]) (ld_Q w r.2 sz (some (.int r.1))) 0 0 (ld_A w sz) := by
  refine ld_ofW (ws := wsX4_hang) (Qc := fun sz9 => ld_Q w r.2 sz9 (some (.int r.1))) RX4 (by decide +kernel) rfl rfl (by simp [Value.category]) (Nat.le_of_ble_eq_true rfl) sz ?_
  intro p e s m args below meth c C
  revert hr
  show ld_T p l e ({ frames := 2, cells := 0, slots := 0, locals := 43 }) s m args below meth c (MQ below (ld_Q w r.2 s.heap.size (some (.int r.1))) args s 0 0 (ld_A w s.heap.size)) w r (kX4_hang Z a1 a2 a3) Z 0 0 0 [some (.ref (ld_ad w 67)), some (.int a1), some (.int a2), some (.int a3), none, none] []
  unfold kX4_hang
  refine lj_aload_n C rfl rfl dX4_hang_0 ?_
  refine lj_aload_n C rfl rfl dX4_hang_1 ?_
  refine lj_iload_n C rfl rfl dX4_hang_2 ?_
  refine lj_cVa C (As := [.int a2]) (rest := [.ref (ld_ad w 67)]) (i := 67) (ci := 4) (Cn := RX4) (Tb := TX4) (N := 23) (fs := (ld_f4 w) (Z 67)) (fun sz x hx => zX4_isLamp l w Z a2 hx sz) (cwV 1 C.2.2.2.2.1 gX4_hang_X4_isLamp rfl rfl rfl (by decide +kernel) ⟨Nat.le_of_ble_eq_true rfl, Nat.le_of_ble_eq_true rfl⟩) (by decide) ((fun _ => rfl) _) rfl rfl rfl rfl (Nat.le_of_ble_eq_true rfl) ⟨Nat.le_of_ble_eq_true rfl, Nat.le_of_ble_eq_true rfl⟩ dX4_hang_3 (fun x3 hx3 => ?_)
  refine lj_if_ne C (tgt := 13) dX4_hang_6 (by decide) ?_ ?_
  · refine lj_iload_n C rfl rfl dX4_hang_13 ?_
    refine lj_cSa C (As := [.int a1]) (rest := [.ref (ld_ad w 67)]) (fun sz x hx => zX4_isNight l w Z a1 hx sz) (va_cwS 1 C.2.2.2.2.1 gX4_hang_X4_isNight rfl rfl rfl (by decide +kernel) ⟨Nat.le_of_ble_eq_true rfl, Nat.le_of_ble_eq_true rfl⟩) rfl rfl rfl (Nat.le_of_ble_eq_true rfl) ⟨Nat.le_of_ble_eq_true rfl, Nat.le_of_ble_eq_true rfl⟩ dX4_hang_14 (fun x14 hx14 => ?_)
    refine lj_if_eq C (tgt := 32) dX4_hang_17 (by decide) ?_ ?_
    · exact bX4_hang_32 l w a1 a2 a3 C Z
    · refine lj_iload_n C rfl rfl dX4_hang_20 ?_
      refine lj_iconst C (v := (-1)) (by decide) dX4_hang_21 ?_
      refine lj_icmp_eq C (tgt := 36) dX4_hang_22 (by decide) ?_ ?_
      · exact bX4_hang_36 l w a1 a2 a3 C Z
      · refine lj_iload_n C rfl rfl dX4_hang_25 ?_
        refine lj_cSa C (As := [.int a3]) (rest := [.ref (ld_ad w 67)]) (fun sz x hx => zX4_isChannel l w Z a3 hx sz) (va_cwS 1 C.2.2.2.2.1 gX4_hang_X4_isChannel rfl rfl rfl (by decide +kernel) ⟨Nat.le_of_ble_eq_true rfl, Nat.le_of_ble_eq_true rfl⟩) rfl rfl rfl (Nat.le_of_ble_eq_true rfl) ⟨Nat.le_of_ble_eq_true rfl, Nat.le_of_ble_eq_true rfl⟩ dX4_hang_26 (fun x26 hx26 => ?_)
        refine lj_if_ne C (tgt := 36) dX4_hang_29 (by decide) ?_ ?_
        · exact bX4_hang_36 l w a1 a2 a3 C Z
        · exact bX4_hang_32 l w a1 a2 a3 C Z
  · refine lj_iconst C (v := 1) (by decide) dX4_hang_9 ?_
    refine lj_goto C (tgt := 37) dX4_hang_10 (by decide) ?_
    exact bX4_hang_37 l w a1 a2 a3 C Z 1
theorem inX4_setNight_4 : ∀ q ∈ u_ws RX4 TX4 23, q ∈ wsX4_setNight := fun _ h => List.mem_cons_of_mem _ (List.mem_append_right _ h)
def kX4_setNight_13 (a1 : Int32) (Z : ld_M) (t0 : Int32) : Option (Int32 × ld_M) := if (((ld_up Z 67 22 t0) 67 22) : Int32) ≤ 0 then (some (((ld_up Z 67 22 t0) 67 4), (ld_up (ld_up Z 67 22 t0) 67 4 a1))) else (some (0, (ld_up Z 67 22 t0)))
set_option maxHeartbeats 4000000 in
set_option maxRecDepth 100000 in
theorem bX4_setNight_13 {p : Program} {e : Env} {s : State} {m : MethodId} {args : Array Value} {below : List Frame} {meth : Method} {c : Code} (l : Launch) (w : ld_E) (a1 : Int32) {r : Int32 × ld_M} (C : ld_C p l s m args meth c cX4_setNight 3 (some .int) wsX4_setNight RX4 w) (Z : ld_M) (t0 : Int32) : ld_T p l e ({ frames := 2, cells := 0, slots := 0, locals := 42 }) s m args below meth c (MQ below (ld_Q w r.2 s.heap.size (some (.int r.1))) args s 0 0 (ld_A w s.heap.size)) w r (kX4_setNight_13 a1 Z t0) Z 0 0 13 [some (.ref (ld_ad w 67)), some (.int a1), none] [.int t0, .ref (ld_ad w 67)] := by
  unfold kX4_setNight_13
  refine lj_put C (i := 67) (kk := 22) (G := (ld_f4 w)) (Tb := TX4) (N := 23) (by decide) (fun _ => rfl) rfl inX4_setNight_4 (by decide) (List.mem_of_getElem? (i := 1) rfl) rfl tyX4 tyX4_ok nmX4 rfl (by decide +kernel) (Nat.le_of_ble_eq_true rfl) rfl dX4_setNight_13 ?_
  refine lj_aload_n C rfl rfl dX4_setNight_16 ?_
  refine lj_get C (i := 67) (kk := 22) (G := (ld_f4 w)) (v := .int ((ld_up Z 67 22 t0) 67 22)) (Tb := TX4) (N := 23) (by decide) (fun _ => rfl) rfl inX4_setNight_4 (by decide) (List.mem_of_getElem? (i := 1) rfl) rfl rfl dX4_setNight_17 ?_
  refine lj_if_le C (tgt := 25) dX4_setNight_20 (by decide) ?_ ?_
  · refine lj_aload_n C rfl rfl dX4_setNight_25 ?_
    refine lj_get C (i := 67) (kk := 4) (G := (ld_f4 w)) (v := .int ((ld_up Z 67 22 t0) 67 4)) (Tb := TX4) (N := 23) (by decide) (fun _ => rfl) rfl inX4_setNight_4 (by decide) (List.mem_of_getElem? (i := 2) rfl) rfl rfl dX4_setNight_26 ?_
    refine lj_istore_n C rfl (lv2 := [some (.ref (ld_ad w 67)), some (.int a1), some (.int ((ld_up Z 67 22 t0) 67 4))]) (Nat.le_of_ble_eq_true rfl) rfl dX4_setNight_29 ?_
    refine lj_aload_n C rfl rfl dX4_setNight_30 ?_
    refine lj_iload_n C rfl rfl dX4_setNight_31 ?_
    refine lj_put C (i := 67) (kk := 4) (G := (ld_f4 w)) (Tb := TX4) (N := 23) (by decide) (fun _ => rfl) rfl inX4_setNight_4 (by decide) (List.mem_of_getElem? (i := 2) rfl) rfl tyX4 tyX4_ok nmX4 rfl (by decide +kernel) (Nat.le_of_ble_eq_true rfl) rfl dX4_setNight_32 ?_
    refine lj_iload_n C rfl rfl dX4_setNight_35 ?_
    exact lj_rb C (by decide) (by decide) dX4_setNight_36
  · refine lj_iconst C (v := 0) (by decide) dX4_setNight_23 ?_
    exact lj_rb C (by decide) (by decide) dX4_setNight_24
def kX4_setNight (Z : ld_M) (a1 : Int32) : Option (Int32 × ld_M) := ld_bd (kX4_isNight Z a1) (fun x2 => if (x2 : Int32) = 0 then (kX4_setNight_13 a1 Z 1) else (kX4_setNight_13 a1 Z 0))
set_option maxHeartbeats 4000000 in
set_option maxRecDepth 100000 in
theorem zX4_setNight (l : Launch) (w : ld_E) (Z : ld_M) (a1 : Int32)  {r : Int32 × ld_M} (hr : kX4_setNight Z a1 = some r) (sz : Nat) : Met l yX4_setNight wsX4_setNight ({ frames := 2, cells := 0, slots := 0, locals := 42 }) (ld_Pc w Z sz [.ref (ld_ad w 67), .int a1]) (ld_Q w r.2 sz (some (.int r.1))) 0 0 (ld_A w sz) := by
  refine ld_ofW (ws := wsX4_setNight) (Qc := fun sz9 => ld_Q w r.2 sz9 (some (.int r.1))) RX4 (by decide +kernel) rfl rfl (by simp [Value.category]) (Nat.le_of_ble_eq_true rfl) sz ?_
  intro p e s m args below meth c C
  revert hr
  show ld_T p l e ({ frames := 2, cells := 0, slots := 0, locals := 42 }) s m args below meth c (MQ below (ld_Q w r.2 s.heap.size (some (.int r.1))) args s 0 0 (ld_A w s.heap.size)) w r (kX4_setNight Z a1) Z 0 0 0 [some (.ref (ld_ad w 67)), some (.int a1), none] []
  unfold kX4_setNight
  refine lj_aload_n C rfl rfl dX4_setNight_0 ?_
  refine lj_iload_n C rfl rfl dX4_setNight_1 ?_
  refine lj_cSa C (As := [.int a1]) (rest := [.ref (ld_ad w 67)]) (fun sz x hx => zX4_isNight l w Z a1 hx sz) (va_cwS 1 C.2.2.2.2.1 gX4_setNight_X4_isNight rfl rfl rfl (by decide +kernel) ⟨Nat.le_of_ble_eq_true rfl, Nat.le_of_ble_eq_true rfl⟩) rfl rfl rfl (Nat.le_of_ble_eq_true rfl) ⟨Nat.le_of_ble_eq_true rfl, Nat.le_of_ble_eq_true rfl⟩ dX4_setNight_2 (fun x2 hx2 => ?_)
  refine lj_if_eq C (tgt := 12) dX4_setNight_5 (by decide) ?_ ?_
  · refine lj_iconst C (v := 1) (by decide) dX4_setNight_12 ?_
    exact bX4_setNight_13 l w a1 C Z 1
  · refine lj_iconst C (v := 0) (by decide) dX4_setNight_8 ?_
    refine lj_goto C (tgt := 13) dX4_setNight_9 (by decide) ?_
    exact bX4_setNight_13 l w a1 C Z 0
theorem inX4_setLatest_4 : ∀ q ∈ u_ws RX4 TX4 23, q ∈ wsX4_setLatest := fun _ h => List.mem_cons_of_mem _ (List.mem_append_right _ h)
def kX4_setLatest_55 (a1 : Int32) (a2 : Int32) (Z : ld_M) (v3 : Int32) (t0 : Int32) (t1 : Int32) : Option (Int32 × ld_M) := ld_ck (ld_g t1 12) (ld_ck (ld_b v3) (some (v3, (ld_up Z 71 t1.toNatClampNeg t0))))
set_option maxHeartbeats 4000000 in
set_option maxRecDepth 100000 in
theorem bX4_setLatest_55 {p : Program} {e : Env} {s : State} {m : MethodId} {args : Array Value} {below : List Frame} {meth : Method} {c : Code} (l : Launch) (w : ld_E) (a1 : Int32) (a2 : Int32) {r : Int32 × ld_M} (C : ld_C p l s m args meth c cX4_setLatest 4 (some .boolean) wsX4_setLatest RX4 w) (Z : ld_M) (v3 : Int32) (t0 : Int32) (t1 : Int32) : ld_T p l e ({ frames := 2, cells := 0, slots := 0, locals := 42 }) s m args below meth c (MQ below (ld_Q w r.2 s.heap.size (some (.int r.1))) args s 0 0 (ld_A w s.heap.size)) w r (kX4_setLatest_55 a1 a2 Z v3 t0 t1) Z 0 0 55 [some (.ref (ld_ad w 67)), some (.int a1), some (.int a2), some (.int v3)] [.int t0, .int t1, .ref (ld_ad w 71)] := by
  unfold kX4_setLatest_55
  refine lj_iast C (n := 12) (by decide) (fun _ => rfl) dX4_setLatest_55 ?_
  refine lj_iload_n C rfl rfl dX4_setLatest_56 ?_
  exact lj_rb_z C (by decide) (by decide) dX4_setLatest_57
def kX4_setLatest_40 (a1 : Int32) (a2 : Int32) (Z : ld_M) (t0 : Int32) : Option (Int32 × ld_M) := if (a2 : Int32) = 0 then (kX4_setLatest_55 a1 a2 Z t0 0 a1) else (kX4_setLatest_55 a1 a2 Z t0 1 a1)
set_option maxHeartbeats 4000000 in
set_option maxRecDepth 100000 in
theorem bX4_setLatest_40 {p : Program} {e : Env} {s : State} {m : MethodId} {args : Array Value} {below : List Frame} {meth : Method} {c : Code} (l : Launch) (w : ld_E) (a1 : Int32) (a2 : Int32) {r : Int32 × ld_M} (C : ld_C p l s m args meth c cX4_setLatest 4 (some .boolean) wsX4_setLatest RX4 w) (Z : ld_M) (t0 : Int32) : ld_T p l e ({ frames := 2, cells := 0, slots := 0, locals := 42 }) s m args below meth c (MQ below (ld_Q w r.2 s.heap.size (some (.int r.1))) args s 0 0 (ld_A w s.heap.size)) w r (kX4_setLatest_40 a1 a2 Z t0) Z 0 0 40 [some (.ref (ld_ad w 67)), some (.int a1), some (.int a2), none] [.int t0] := by
  unfold kX4_setLatest_40
  refine lj_istore_n C rfl (lv2 := [some (.ref (ld_ad w 67)), some (.int a1), some (.int a2), some (.int t0)]) (Nat.le_of_ble_eq_true rfl) rfl dX4_setLatest_40 ?_
  refine lj_aload_n C rfl rfl dX4_setLatest_41 ?_
  refine lj_get C (i := 67) (kk := 5) (G := (ld_f4 w)) (v := .ref (ld_ad w 71)) (Tb := TX4) (N := 23) (by decide) (fun _ => rfl) rfl inX4_setLatest_4 (by decide) (List.mem_of_getElem? (i := 2) rfl) rfl rfl dX4_setLatest_42 ?_
  refine lj_iload_n C rfl rfl dX4_setLatest_45 ?_
  refine lj_iload_n C rfl rfl dX4_setLatest_46 ?_
  refine lj_if_eq C (tgt := 54) dX4_setLatest_47 (by decide) ?_ ?_
  · refine lj_iconst C (v := 0) (by decide) dX4_setLatest_54 ?_
    exact bX4_setLatest_55 l w a1 a2 C Z t0 0 a1
  · refine lj_iconst C (v := 1) (by decide) dX4_setLatest_50 ?_
    refine lj_goto C (tgt := 55) dX4_setLatest_51 (by decide) ?_
    exact bX4_setLatest_55 l w a1 a2 C Z t0 1 a1
def kX4_setLatest_13 (a1 : Int32) (a2 : Int32) (Z : ld_M) (t0 : Int32) : Option (Int32 × ld_M) := if (((ld_up Z 67 22 t0) 67 22) : Int32) ≤ 0 then (ld_ck (ld_g a1 12) (if (((ld_up Z 67 22 t0) 71 a1.toNatClampNeg) : Int32) = 1 then (kX4_setLatest_40 a1 a2 (ld_up Z 67 22 t0) 1) else (kX4_setLatest_40 a1 a2 (ld_up Z 67 22 t0) 0))) else (ld_ck (ld_b 0) (some (0, (ld_up Z 67 22 t0))))
set_option maxHeartbeats 4000000 in
set_option maxRecDepth 100000 in
theorem bX4_setLatest_13 {p : Program} {e : Env} {s : State} {m : MethodId} {args : Array Value} {below : List Frame} {meth : Method} {c : Code} (l : Launch) (w : ld_E) (a1 : Int32) (a2 : Int32) {r : Int32 × ld_M} (C : ld_C p l s m args meth c cX4_setLatest 4 (some .boolean) wsX4_setLatest RX4 w) (Z : ld_M) (t0 : Int32) : ld_T p l e ({ frames := 2, cells := 0, slots := 0, locals := 42 }) s m args below meth c (MQ below (ld_Q w r.2 s.heap.size (some (.int r.1))) args s 0 0 (ld_A w s.heap.size)) w r (kX4_setLatest_13 a1 a2 Z t0) Z 0 0 13 [some (.ref (ld_ad w 67)), some (.int a1), some (.int a2), none] [.int t0, .ref (ld_ad w 67)] := by
  unfold kX4_setLatest_13
  refine lj_put C (i := 67) (kk := 22) (G := (ld_f4 w)) (Tb := TX4) (N := 23) (by decide) (fun _ => rfl) rfl inX4_setLatest_4 (by decide) (List.mem_of_getElem? (i := 1) rfl) rfl tyX4 tyX4_ok nmX4 rfl (by decide +kernel) (Nat.le_of_ble_eq_true rfl) rfl dX4_setLatest_13 ?_
  refine lj_aload_n C rfl rfl dX4_setLatest_16 ?_
  refine lj_get C (i := 67) (kk := 22) (G := (ld_f4 w)) (v := .int ((ld_up Z 67 22 t0) 67 22)) (Tb := TX4) (N := 23) (by decide) (fun _ => rfl) rfl inX4_setLatest_4 (by decide) (List.mem_of_getElem? (i := 1) rfl) rfl rfl dX4_setLatest_17 ?_
  refine lj_if_le C (tgt := 25) dX4_setLatest_20 (by decide) ?_ ?_
  · refine lj_aload_n C rfl rfl dX4_setLatest_25 ?_
    refine lj_get C (i := 67) (kk := 5) (G := (ld_f4 w)) (v := .ref (ld_ad w 71)) (Tb := TX4) (N := 23) (by decide) (fun _ => rfl) rfl inX4_setLatest_4 (by decide) (List.mem_of_getElem? (i := 2) rfl) rfl rfl dX4_setLatest_26 ?_
    refine lj_iload_n C rfl rfl dX4_setLatest_29 ?_
    refine lj_iald C (n := 12) (by decide) (fun _ => rfl) dX4_setLatest_30 ?_
    refine lj_iconst C (v := 1) (by decide) dX4_setLatest_31 ?_
    refine lj_icmp_ne C (tgt := 39) dX4_setLatest_32 (by decide) ?_ ?_
    · refine lj_iconst C (v := 0) (by decide) dX4_setLatest_39 ?_
      exact bX4_setLatest_40 l w a1 a2 C (ld_up Z 67 22 t0) 0
    · refine lj_iconst C (v := 1) (by decide) dX4_setLatest_35 ?_
      refine lj_goto C (tgt := 40) dX4_setLatest_36 (by decide) ?_
      exact bX4_setLatest_40 l w a1 a2 C (ld_up Z 67 22 t0) 1
  · refine lj_iconst C (v := 0) (by decide) dX4_setLatest_23 ?_
    exact lj_rb_z C (by decide) (by decide) dX4_setLatest_24
def kX4_setLatest (Z : ld_M) (a1 : Int32) (a2 : Int32) : Option (Int32 × ld_M) := ld_bd (kX4_isChannel Z a1) (fun x2 => if (x2 : Int32) = 0 then (kX4_setLatest_13 a1 a2 Z 1) else (kX4_setLatest_13 a1 a2 Z 0))
set_option maxHeartbeats 4000000 in
set_option maxRecDepth 100000 in
theorem zX4_setLatest (l : Launch) (w : ld_E) (Z : ld_M) (a1 : Int32) (a2 : Int32)  {r : Int32 × ld_M} (hr : kX4_setLatest Z a1 a2 = some r) (sz : Nat) : Met l yX4_setLatest wsX4_setLatest ({ frames := 2, cells := 0, slots := 0, locals := 42 }) (ld_Pc w Z sz [.ref (ld_ad w 67), .int a1, .int a2]) (ld_Q w r.2 sz (some (.int r.1))) 0 0 (ld_A w sz) := by
  refine ld_ofW (ws := wsX4_setLatest) (Qc := fun sz9 => ld_Q w r.2 sz9 (some (.int r.1))) RX4 (by decide +kernel) rfl rfl (by simp [Value.category]) (Nat.le_of_ble_eq_true rfl) sz ?_
  intro p e s m args below meth c C
  revert hr
  show ld_T p l e ({ frames := 2, cells := 0, slots := 0, locals := 42 }) s m args below meth c (MQ below (ld_Q w r.2 s.heap.size (some (.int r.1))) args s 0 0 (ld_A w s.heap.size)) w r (kX4_setLatest Z a1 a2) Z 0 0 0 [some (.ref (ld_ad w 67)), some (.int a1), some (.int a2), none] []
  unfold kX4_setLatest
  refine lj_aload_n C rfl rfl dX4_setLatest_0 ?_
  refine lj_iload_n C rfl rfl dX4_setLatest_1 ?_
  refine lj_cSa C (As := [.int a1]) (rest := [.ref (ld_ad w 67)]) (fun sz x hx => zX4_isChannel l w Z a1 hx sz) (va_cwS 1 C.2.2.2.2.1 gX4_setLatest_X4_isChannel rfl rfl rfl (by decide +kernel) ⟨Nat.le_of_ble_eq_true rfl, Nat.le_of_ble_eq_true rfl⟩) rfl rfl rfl (Nat.le_of_ble_eq_true rfl) ⟨Nat.le_of_ble_eq_true rfl, Nat.le_of_ble_eq_true rfl⟩ dX4_setLatest_2 (fun x2 hx2 => ?_)
  refine lj_if_eq C (tgt := 12) dX4_setLatest_5 (by decide) ?_ ?_
  · refine lj_iconst C (v := 1) (by decide) dX4_setLatest_12 ?_
    exact bX4_setLatest_13 l w a1 a2 C Z 1
  · refine lj_iconst C (v := 0) (by decide) dX4_setLatest_8 ?_
    refine lj_goto C (tgt := 13) dX4_setLatest_9 (by decide) ?_
    exact bX4_setLatest_13 l w a1 a2 C Z 0
theorem inX4_addCue_4 : ∀ q ∈ u_ws RX4 TX4 23, q ∈ wsX4_addCue := fun _ h => List.mem_cons_of_mem _ (List.mem_append_right _ h)
def kX4_addCue_107 (a1 : Int32) (a2 : Int32) (a3 : Int32) (a4 : Int32) (Z : ld_M) (v5 : Int32) (t0 : Int32) (t1 : Int32) : Option (Int32 × ld_M) := ld_ck (ld_g t1 20) (ld_ck (ld_g a1 2) (ld_ck (ld_g a1 2) (ld_ck (ld_g a1 2) (some ((((ld_up (ld_up Z 76 t1.toNatClampNeg t0) 73 a1.toNatClampNeg (((ld_up Z 76 t1.toNatClampNeg t0) 73 a1.toNatClampNeg) + 1)) 73 a1.toNatClampNeg) - 1), (ld_up (ld_up Z 76 t1.toNatClampNeg t0) 73 a1.toNatClampNeg (((ld_up Z 76 t1.toNatClampNeg t0) 73 a1.toNatClampNeg) + 1)))))))
set_option maxHeartbeats 4000000 in
set_option maxRecDepth 100000 in
theorem bX4_addCue_107 {p : Program} {e : Env} {s : State} {m : MethodId} {args : Array Value} {below : List Frame} {meth : Method} {c : Code} (l : Launch) (w : ld_E) (a1 : Int32) (a2 : Int32) (a3 : Int32) (a4 : Int32) {r : Int32 × ld_M} (C : ld_C p l s m args meth c cX4_addCue 6 (some .int) wsX4_addCue RX4 w) (Z : ld_M) (v5 : Int32) (t0 : Int32) (t1 : Int32) : ld_T p l e ({ frames := 2, cells := 0, slots := 0, locals := 42 }) s m args below meth c (MQ below (ld_Q w r.2 s.heap.size (some (.int r.1))) args s 0 0 (ld_A w s.heap.size)) w r (kX4_addCue_107 a1 a2 a3 a4 Z v5 t0 t1) Z 0 0 107 [some (.ref (ld_ad w 67)), some (.int a1), some (.int a2), some (.int a3), some (.int a4), some (.int v5)] [.int t0, .int t1, .ref (ld_ad w 76)] := by
  unfold kX4_addCue_107
  refine lj_iast C (n := 20) (by decide) (fun _ => rfl) dX4_addCue_107 ?_
  refine lj_aload_n C rfl rfl dX4_addCue_108 ?_
  refine lj_get C (i := 67) (kk := 7) (G := (ld_f4 w)) (v := .ref (ld_ad w 73)) (Tb := TX4) (N := 23) (by decide) (fun _ => rfl) rfl inX4_addCue_4 (by decide) (List.mem_of_getElem? (i := 2) rfl) rfl rfl dX4_addCue_109 ?_
  refine lj_iload_n C rfl rfl dX4_addCue_112 ?_
  refine lj_dup2 C rfl rfl dX4_addCue_113 ?_
  refine lj_iald C (n := 2) (by decide) (fun _ => rfl) dX4_addCue_114 ?_
  refine lj_iconst C (v := 1) (by decide) dX4_addCue_115 ?_
  refine lj_iadd C dX4_addCue_116 ?_
  refine lj_iast C (n := 2) (by decide) (fun _ => rfl) dX4_addCue_117 ?_
  refine lj_aload_n C rfl rfl dX4_addCue_118 ?_
  refine lj_get C (i := 67) (kk := 7) (G := (ld_f4 w)) (v := .ref (ld_ad w 73)) (Tb := TX4) (N := 23) (by decide) (fun _ => rfl) rfl inX4_addCue_4 (by decide) (List.mem_of_getElem? (i := 2) rfl) rfl rfl dX4_addCue_119 ?_
  refine lj_iload_n C rfl rfl dX4_addCue_122 ?_
  refine lj_iald C (n := 2) (by decide) (fun _ => rfl) dX4_addCue_123 ?_
  refine lj_iconst C (v := 1) (by decide) dX4_addCue_124 ?_
  refine lj_isub C dX4_addCue_125 ?_
  exact lj_rb C (by decide) (by decide) dX4_addCue_126
def kX4_addCue_33 (a1 : Int32) (a2 : Int32) (a3 : Int32) (a4 : Int32) (Z : ld_M) (t0 : Int32) : Option (Int32 × ld_M) := if (((ld_up Z 67 22 t0) 67 22) : Int32) ≤ 0 then (ld_ck (ld_g a1 2) (if (((ld_up Z 67 22 t0) 73 a1.toNatClampNeg) : Int32) = 10 then (ld_bd (kX4_fails (ld_up Z 67 22 t0) 2) (fun x58 => some (x58.1, x58.2))) else (ld_ck (ld_g a1 2) (ld_ck (ld_g ((10 * a1) + ((ld_up Z 67 22 t0) 73 a1.toNatClampNeg)) 20) (ld_ck (ld_g ((10 * a1) + ((ld_up Z 67 22 t0) 73 a1.toNatClampNeg)) 20) (if (a4 : Int32) = 0 then (kX4_addCue_107 a1 a2 a3 a4 (ld_up (ld_up (ld_up Z 67 22 t0) 74 ((10 * a1) + ((ld_up Z 67 22 t0) 73 a1.toNatClampNeg)).toNatClampNeg a2) 75 ((10 * a1) + ((ld_up Z 67 22 t0) 73 a1.toNatClampNeg)).toNatClampNeg a3) ((10 * a1) + ((ld_up Z 67 22 t0) 73 a1.toNatClampNeg)) 0 ((10 * a1) + ((ld_up Z 67 22 t0) 73 a1.toNatClampNeg))) else (kX4_addCue_107 a1 a2 a3 a4 (ld_up (ld_up (ld_up Z 67 22 t0) 74 ((10 * a1) + ((ld_up Z 67 22 t0) 73 a1.toNatClampNeg)).toNatClampNeg a2) 75 ((10 * a1) + ((ld_up Z 67 22 t0) 73 a1.toNatClampNeg)).toNatClampNeg a3) ((10 * a1) + ((ld_up Z 67 22 t0) 73 a1.toNatClampNeg)) 1 ((10 * a1) + ((ld_up Z 67 22 t0) 73 a1.toNatClampNeg))))))))) else (some (0, (ld_up Z 67 22 t0)))
set_option maxHeartbeats 4000000 in
set_option maxRecDepth 100000 in
theorem bX4_addCue_33 {p : Program} {e : Env} {s : State} {m : MethodId} {args : Array Value} {below : List Frame} {meth : Method} {c : Code} (l : Launch) (w : ld_E) (a1 : Int32) (a2 : Int32) (a3 : Int32) (a4 : Int32) {r : Int32 × ld_M} (C : ld_C p l s m args meth c cX4_addCue 6 (some .int) wsX4_addCue RX4 w) (Z : ld_M) (t0 : Int32) : ld_T p l e ({ frames := 2, cells := 0, slots := 0, locals := 42 }) s m args below meth c (MQ below (ld_Q w r.2 s.heap.size (some (.int r.1))) args s 0 0 (ld_A w s.heap.size)) w r (kX4_addCue_33 a1 a2 a3 a4 Z t0) Z 0 0 33 [some (.ref (ld_ad w 67)), some (.int a1), some (.int a2), some (.int a3), some (.int a4), none] [.int t0, .ref (ld_ad w 67)] := by
  unfold kX4_addCue_33
  refine lj_put C (i := 67) (kk := 22) (G := (ld_f4 w)) (Tb := TX4) (N := 23) (by decide) (fun _ => rfl) rfl inX4_addCue_4 (by decide) (List.mem_of_getElem? (i := 1) rfl) rfl tyX4 tyX4_ok nmX4 rfl (by decide +kernel) (Nat.le_of_ble_eq_true rfl) rfl dX4_addCue_33 ?_
  refine lj_aload_n C rfl rfl dX4_addCue_36 ?_
  refine lj_get C (i := 67) (kk := 22) (G := (ld_f4 w)) (v := .int ((ld_up Z 67 22 t0) 67 22)) (Tb := TX4) (N := 23) (by decide) (fun _ => rfl) rfl inX4_addCue_4 (by decide) (List.mem_of_getElem? (i := 1) rfl) rfl rfl dX4_addCue_37 ?_
  refine lj_if_le C (tgt := 45) dX4_addCue_40 (by decide) ?_ ?_
  · refine lj_aload_n C rfl rfl dX4_addCue_45 ?_
    refine lj_get C (i := 67) (kk := 7) (G := (ld_f4 w)) (v := .ref (ld_ad w 73)) (Tb := TX4) (N := 23) (by decide) (fun _ => rfl) rfl inX4_addCue_4 (by decide) (List.mem_of_getElem? (i := 2) rfl) rfl rfl dX4_addCue_46 ?_
    refine lj_iload_n C rfl rfl dX4_addCue_49 ?_
    refine lj_iald C (n := 2) (by decide) (fun _ => rfl) dX4_addCue_50 ?_
    refine lj_bipush C (v := 10) (by decide) dX4_addCue_51 ?_
    refine lj_icmp_ne C (tgt := 62) dX4_addCue_53 (by decide) ?_ ?_
    · refine lj_bipush C (v := 10) (by decide) dX4_addCue_62 ?_
      refine lj_iload_n C rfl rfl dX4_addCue_64 ?_
      refine lj_imul C dX4_addCue_65 ?_
      refine lj_aload_n C rfl rfl dX4_addCue_66 ?_
      refine lj_get C (i := 67) (kk := 7) (G := (ld_f4 w)) (v := .ref (ld_ad w 73)) (Tb := TX4) (N := 23) (by decide) (fun _ => rfl) rfl inX4_addCue_4 (by decide) (List.mem_of_getElem? (i := 2) rfl) rfl rfl dX4_addCue_67 ?_
      refine lj_iload_n C rfl rfl dX4_addCue_70 ?_
      refine lj_iald C (n := 2) (by decide) (fun _ => rfl) dX4_addCue_71 ?_
      refine lj_iadd C dX4_addCue_72 ?_
      refine lj_istore C (lv2 := [some (.ref (ld_ad w 67)), some (.int a1), some (.int a2), some (.int a3), some (.int a4), some (.int ((10 * a1) + ((ld_up Z 67 22 t0) 73 a1.toNatClampNeg)))]) (Nat.le_of_ble_eq_true rfl) rfl dX4_addCue_73 ?_
      refine lj_aload_n C rfl rfl dX4_addCue_75 ?_
      refine lj_get C (i := 67) (kk := 8) (G := (ld_f4 w)) (v := .ref (ld_ad w 74)) (Tb := TX4) (N := 23) (by decide) (fun _ => rfl) rfl inX4_addCue_4 (by decide) (List.mem_of_getElem? (i := 3) rfl) rfl rfl dX4_addCue_76 ?_
      refine lj_iload C rfl dX4_addCue_79 ?_
      refine lj_iload_n C rfl rfl dX4_addCue_81 ?_
      refine lj_iast C (n := 20) (by decide) (fun _ => rfl) dX4_addCue_82 ?_
      refine lj_aload_n C rfl rfl dX4_addCue_83 ?_
      refine lj_get C (i := 67) (kk := 9) (G := (ld_f4 w)) (v := .ref (ld_ad w 75)) (Tb := TX4) (N := 23) (by decide) (fun _ => rfl) rfl inX4_addCue_4 (by decide) (List.mem_of_getElem? (i := 4) rfl) rfl rfl dX4_addCue_84 ?_
      refine lj_iload C rfl dX4_addCue_87 ?_
      refine lj_iload_n C rfl rfl dX4_addCue_89 ?_
      refine lj_iast C (n := 20) (by decide) (fun _ => rfl) dX4_addCue_90 ?_
      refine lj_aload_n C rfl rfl dX4_addCue_91 ?_
      refine lj_get C (i := 67) (kk := 10) (G := (ld_f4 w)) (v := .ref (ld_ad w 76)) (Tb := TX4) (N := 23) (by decide) (fun _ => rfl) rfl inX4_addCue_4 (by decide) (List.mem_of_getElem? (i := 5) rfl) rfl rfl dX4_addCue_92 ?_
      refine lj_iload C rfl dX4_addCue_95 ?_
      refine lj_iload C rfl dX4_addCue_97 ?_
      refine lj_if_eq C (tgt := 106) dX4_addCue_99 (by decide) ?_ ?_
      · refine lj_iconst C (v := 0) (by decide) dX4_addCue_106 ?_
        exact bX4_addCue_107 l w a1 a2 a3 a4 C (ld_up (ld_up (ld_up Z 67 22 t0) 74 ((10 * a1) + ((ld_up Z 67 22 t0) 73 a1.toNatClampNeg)).toNatClampNeg a2) 75 ((10 * a1) + ((ld_up Z 67 22 t0) 73 a1.toNatClampNeg)).toNatClampNeg a3) ((10 * a1) + ((ld_up Z 67 22 t0) 73 a1.toNatClampNeg)) 0 ((10 * a1) + ((ld_up Z 67 22 t0) 73 a1.toNatClampNeg))
      · refine lj_iconst C (v := 1) (by decide) dX4_addCue_102 ?_
        refine lj_goto C (tgt := 107) dX4_addCue_103 (by decide) ?_
        exact bX4_addCue_107 l w a1 a2 a3 a4 C (ld_up (ld_up (ld_up Z 67 22 t0) 74 ((10 * a1) + ((ld_up Z 67 22 t0) 73 a1.toNatClampNeg)).toNatClampNeg a2) 75 ((10 * a1) + ((ld_up Z 67 22 t0) 73 a1.toNatClampNeg)).toNatClampNeg a3) ((10 * a1) + ((ld_up Z 67 22 t0) 73 a1.toNatClampNeg)) 1 ((10 * a1) + ((ld_up Z 67 22 t0) 73 a1.toNatClampNeg))
    · refine lj_aload_n C rfl rfl dX4_addCue_56 ?_
      refine lj_iconst C (v := 2) (by decide) dX4_addCue_57 ?_
      refine lj_cVb C (As := [.int 2]) (rest := []) (i := 67) (ci := 4) (Cn := RX4) (Tb := TX4) (N := 23) (fs := (ld_f4 w) ((ld_up Z 67 22 t0) 67)) (fun sz x hx => zX4_fails l w (ld_up Z 67 22 t0) 2 hx sz) (cwV 1 C.2.2.2.2.1 gX4_addCue_X4_fails rfl rfl rfl (by decide +kernel) ⟨Nat.le_of_ble_eq_true rfl, Nat.le_of_ble_eq_true rfl⟩) (by decide) ((fun _ => rfl) _) rfl rfl rfl rfl (Nat.le_of_ble_eq_true rfl) ⟨Nat.le_of_ble_eq_true rfl, Nat.le_of_ble_eq_true rfl⟩ dX4_addCue_58 (fun x58 hx58 => ?_)
      exact lj_rb C (by decide) (by decide) dX4_addCue_61
  · refine lj_iconst C (v := 0) (by decide) dX4_addCue_43 ?_
    exact lj_rb C (by decide) (by decide) dX4_addCue_44
def kX4_addCue_28 (a1 : Int32) (a2 : Int32) (a3 : Int32) (a4 : Int32) (Z : ld_M)  : Option (Int32 × ld_M) := kX4_addCue_33 a1 a2 a3 a4 Z 1
set_option maxHeartbeats 4000000 in
set_option maxRecDepth 100000 in
theorem bX4_addCue_28 {p : Program} {e : Env} {s : State} {m : MethodId} {args : Array Value} {below : List Frame} {meth : Method} {c : Code} (l : Launch) (w : ld_E) (a1 : Int32) (a2 : Int32) (a3 : Int32) (a4 : Int32) {r : Int32 × ld_M} (C : ld_C p l s m args meth c cX4_addCue 6 (some .int) wsX4_addCue RX4 w) (Z : ld_M)  : ld_T p l e ({ frames := 2, cells := 0, slots := 0, locals := 42 }) s m args below meth c (MQ below (ld_Q w r.2 s.heap.size (some (.int r.1))) args s 0 0 (ld_A w s.heap.size)) w r (kX4_addCue_28 a1 a2 a3 a4 Z ) Z 0 0 28 [some (.ref (ld_ad w 67)), some (.int a1), some (.int a2), some (.int a3), some (.int a4), none] [.ref (ld_ad w 67)] := by
  unfold kX4_addCue_28
  refine lj_iconst C (v := 1) (by decide) dX4_addCue_28 ?_
  refine lj_goto C (tgt := 33) dX4_addCue_29 (by decide) ?_
  exact bX4_addCue_33 l w a1 a2 a3 a4 C Z 1
def kX4_addCue (Z : ld_M) (a1 : Int32) (a2 : Int32) (a3 : Int32) (a4 : Int32) : Option (Int32 × ld_M) := ld_bd (kX4_isList Z a1) (fun x2 => if (x2 : Int32) = 0 then (kX4_addCue_28 a1 a2 a3 a4 Z) else (ld_bd (kX4_in Z a2 0 100) (fun x12 => if (x12 : Int32) = 0 then (kX4_addCue_28 a1 a2 a3 a4 Z) else (ld_bd (kX4_in Z a3 0 100) (fun x22 => if (x22 : Int32) = 0 then (kX4_addCue_28 a1 a2 a3 a4 Z) else (kX4_addCue_33 a1 a2 a3 a4 Z 0))))))
set_option maxHeartbeats 4000000 in
set_option maxRecDepth 100000 in
theorem zX4_addCue (l : Launch) (w : ld_E) (Z : ld_M) (a1 : Int32) (a2 : Int32) (a3 : Int32) (a4 : Int32)  {r : Int32 × ld_M} (hr : kX4_addCue Z a1 a2 a3 a4 = some r) (sz : Nat) : Met l yX4_addCue wsX4_addCue ({ frames := 2, cells := 0, slots := 0, locals := 42 }) (ld_Pc w Z sz [.ref (ld_ad w 67), .int a1, .int a2, .int a3, .int a4]) (ld_Q w r.2 sz (some (.int r.1))) 0 0 (ld_A w sz) := by
  refine ld_ofW (ws := wsX4_addCue) (Qc := fun sz9 => ld_Q w r.2 sz9 (some (.int r.1))) RX4 (by decide +kernel) rfl rfl (by simp [Value.category]) (Nat.le_of_ble_eq_true rfl) sz ?_
  intro p e s m args below meth c C
  revert hr
  show ld_T p l e ({ frames := 2, cells := 0, slots := 0, locals := 42 }) s m args below meth c (MQ below (ld_Q w r.2 s.heap.size (some (.int r.1))) args s 0 0 (ld_A w s.heap.size)) w r (kX4_addCue Z a1 a2 a3 a4) Z 0 0 0 [some (.ref (ld_ad w 67)), some (.int a1), some (.int a2), some (.int a3), some (.int a4), none] []
  unfold kX4_addCue
  refine lj_aload_n C rfl rfl dX4_addCue_0 ?_
  refine lj_iload_n C rfl rfl dX4_addCue_1 ?_
  refine lj_cSa C (As := [.int a1]) (rest := [.ref (ld_ad w 67)]) (fun sz x hx => zX4_isList l w Z a1 hx sz) (va_cwS 1 C.2.2.2.2.1 gX4_addCue_X4_isList rfl rfl rfl (by decide +kernel) ⟨Nat.le_of_ble_eq_true rfl, Nat.le_of_ble_eq_true rfl⟩) rfl rfl rfl (Nat.le_of_ble_eq_true rfl) ⟨Nat.le_of_ble_eq_true rfl, Nat.le_of_ble_eq_true rfl⟩ dX4_addCue_2 (fun x2 hx2 => ?_)
  refine lj_if_eq C (tgt := 28) dX4_addCue_5 (by decide) ?_ ?_
  · exact bX4_addCue_28 l w a1 a2 a3 a4 C Z
  · refine lj_iload_n C rfl rfl dX4_addCue_8 ?_
    refine lj_iconst C (v := 0) (by decide) dX4_addCue_9 ?_
    refine lj_bipush C (v := 100) (by decide) dX4_addCue_10 ?_
    refine lj_cSa C (As := [.int a2, .int 0, .int 100]) (rest := [.ref (ld_ad w 67)]) (fun sz x hx => zX4_in l w Z a2 0 100 hx sz) (va_cwS 3 C.2.2.2.2.1 gX4_addCue_X4_in rfl rfl rfl (by decide +kernel) ⟨Nat.le_of_ble_eq_true rfl, Nat.le_of_ble_eq_true rfl⟩) rfl rfl rfl (Nat.le_of_ble_eq_true rfl) ⟨Nat.le_of_ble_eq_true rfl, Nat.le_of_ble_eq_true rfl⟩ dX4_addCue_12 (fun x12 hx12 => ?_)
    refine lj_if_eq C (tgt := 28) dX4_addCue_15 (by decide) ?_ ?_
    · exact bX4_addCue_28 l w a1 a2 a3 a4 C Z
    · refine lj_iload_n C rfl rfl dX4_addCue_18 ?_
      refine lj_iconst C (v := 0) (by decide) dX4_addCue_19 ?_
      refine lj_bipush C (v := 100) (by decide) dX4_addCue_20 ?_
      refine lj_cSa C (As := [.int a3, .int 0, .int 100]) (rest := [.ref (ld_ad w 67)]) (fun sz x hx => zX4_in l w Z a3 0 100 hx sz) (va_cwS 3 C.2.2.2.2.1 gX4_addCue_X4_in rfl rfl rfl (by decide +kernel) ⟨Nat.le_of_ble_eq_true rfl, Nat.le_of_ble_eq_true rfl⟩) rfl rfl rfl (Nat.le_of_ble_eq_true rfl) ⟨Nat.le_of_ble_eq_true rfl, Nat.le_of_ble_eq_true rfl⟩ dX4_addCue_22 (fun x22 hx22 => ?_)
      refine lj_if_ne C (tgt := 32) dX4_addCue_25 (by decide) ?_ ?_
      · refine lj_iconst C (v := 0) (by decide) dX4_addCue_32 ?_
        exact bX4_addCue_33 l w a1 a2 a3 a4 C Z 0
      · exact bX4_addCue_28 l w a1 a2 a3 a4 C Z
theorem inX4_setLevel_4 : ∀ q ∈ u_ws RX4 TX4 23, q ∈ wsX4_setLevel := fun _ h => List.mem_cons_of_mem _ (List.mem_append_right _ h)
def kX4_setLevel_51 (a1 : Int32) (a2 : Int32) (a3 : Int32) (a4 : Int32) (Z : ld_M) (t0 : Int32) : Option (Int32 × ld_M) := if (((ld_up Z 67 22 t0) 67 22) : Int32) ≤ 0 then (ld_ck (ld_g ((12 * ((10 * a1) + a2)) + a3) 240) (ld_ck (ld_g ((12 * ((10 * a1) + a2)) + a3) 240) (ld_bd (kX4_keeps (ld_up Z 67 22 t0) 2 ((12 * ((10 * a1) + a2)) + a3) ((ld_up Z 67 22 t0) 77 ((12 * ((10 * a1) + a2)) + a3).toNatClampNeg) 0) (fun x99 => ld_ck (ld_g ((12 * ((10 * a1) + a2)) + a3) 240) (some ((((ld_up Z 67 22 t0) 77 ((12 * ((10 * a1) + a2)) + a3).toNatClampNeg) - 1), (ld_up x99 77 ((12 * ((10 * a1) + a2)) + a3).toNatClampNeg (a4 + 1)))))))) else (some (0, (ld_up Z 67 22 t0)))
set_option maxHeartbeats 4000000 in
set_option maxRecDepth 100000 in
theorem bX4_setLevel_51 {p : Program} {e : Env} {s : State} {m : MethodId} {args : Array Value} {below : List Frame} {meth : Method} {c : Code} (l : Launch) (w : ld_E) (a1 : Int32) (a2 : Int32) (a3 : Int32) (a4 : Int32) {r : Int32 × ld_M} (C : ld_C p l s m args meth c cX4_setLevel 7 (some .int) wsX4_setLevel RX4 w) (Z : ld_M) (t0 : Int32) : ld_T p l e ({ frames := 2, cells := 0, slots := 0, locals := 42 }) s m args below meth c (MQ below (ld_Q w r.2 s.heap.size (some (.int r.1))) args s 0 0 (ld_A w s.heap.size)) w r (kX4_setLevel_51 a1 a2 a3 a4 Z t0) Z 0 0 51 [some (.ref (ld_ad w 67)), some (.int a1), some (.int a2), some (.int a3), some (.int a4), none, none] [.int t0, .ref (ld_ad w 67)] := by
  unfold kX4_setLevel_51
  refine lj_put C (i := 67) (kk := 22) (G := (ld_f4 w)) (Tb := TX4) (N := 23) (by decide) (fun _ => rfl) rfl inX4_setLevel_4 (by decide) (List.mem_of_getElem? (i := 2) rfl) rfl tyX4 tyX4_ok nmX4 rfl (by decide +kernel) (Nat.le_of_ble_eq_true rfl) rfl dX4_setLevel_51 ?_
  refine lj_aload_n C rfl rfl dX4_setLevel_54 ?_
  refine lj_get C (i := 67) (kk := 22) (G := (ld_f4 w)) (v := .int ((ld_up Z 67 22 t0) 67 22)) (Tb := TX4) (N := 23) (by decide) (fun _ => rfl) rfl inX4_setLevel_4 (by decide) (List.mem_of_getElem? (i := 2) rfl) rfl rfl dX4_setLevel_55 ?_
  refine lj_if_le C (tgt := 63) dX4_setLevel_58 (by decide) ?_ ?_
  · refine lj_bipush C (v := 12) (by decide) dX4_setLevel_63 ?_
    refine lj_bipush C (v := 10) (by decide) dX4_setLevel_65 ?_
    refine lj_iload_n C rfl rfl dX4_setLevel_67 ?_
    refine lj_imul C dX4_setLevel_68 ?_
    refine lj_iload_n C rfl rfl dX4_setLevel_69 ?_
    refine lj_iadd C dX4_setLevel_70 ?_
    refine lj_imul C dX4_setLevel_71 ?_
    refine lj_iload_n C rfl rfl dX4_setLevel_72 ?_
    refine lj_iadd C dX4_setLevel_73 ?_
    refine lj_istore C (lv2 := [some (.ref (ld_ad w 67)), some (.int a1), some (.int a2), some (.int a3), some (.int a4), some (.int ((12 * ((10 * a1) + a2)) + a3)), none]) (Nat.le_of_ble_eq_true rfl) rfl dX4_setLevel_74 ?_
    refine lj_aload_n C rfl rfl dX4_setLevel_76 ?_
    refine lj_get C (i := 67) (kk := 11) (G := (ld_f4 w)) (v := .ref (ld_ad w 77)) (Tb := TX4) (N := 23) (by decide) (fun _ => rfl) rfl inX4_setLevel_4 (by decide) (List.mem_of_getElem? (i := 3) rfl) rfl rfl dX4_setLevel_77 ?_
    refine lj_iload C rfl dX4_setLevel_80 ?_
    refine lj_iald C (n := 240) (by decide) (fun _ => rfl) dX4_setLevel_82 ?_
    refine lj_iconst C (v := 1) (by decide) dX4_setLevel_83 ?_
    refine lj_isub C dX4_setLevel_84 ?_
    refine lj_istore C (lv2 := [some (.ref (ld_ad w 67)), some (.int a1), some (.int a2), some (.int a3), some (.int a4), some (.int ((12 * ((10 * a1) + a2)) + a3)), some (.int (((ld_up Z 67 22 t0) 77 ((12 * ((10 * a1) + a2)) + a3).toNatClampNeg) - 1))]) (Nat.le_of_ble_eq_true rfl) rfl dX4_setLevel_85 ?_
    refine lj_aload_n C rfl rfl dX4_setLevel_87 ?_
    refine lj_iconst C (v := 2) (by decide) dX4_setLevel_88 ?_
    refine lj_iload C rfl dX4_setLevel_89 ?_
    refine lj_aload_n C rfl rfl dX4_setLevel_91 ?_
    refine lj_get C (i := 67) (kk := 11) (G := (ld_f4 w)) (v := .ref (ld_ad w 77)) (Tb := TX4) (N := 23) (by decide) (fun _ => rfl) rfl inX4_setLevel_4 (by decide) (List.mem_of_getElem? (i := 3) rfl) rfl rfl dX4_setLevel_92 ?_
    refine lj_iload C rfl dX4_setLevel_95 ?_
    refine lj_iald C (n := 240) (by decide) (fun _ => rfl) dX4_setLevel_97 ?_
    refine lj_iconst C (v := 0) (by decide) dX4_setLevel_98 ?_
    refine lj_cVv C (As := [.int 2, .int ((12 * ((10 * a1) + a2)) + a3), .int ((ld_up Z 67 22 t0) 77 ((12 * ((10 * a1) + a2)) + a3).toNatClampNeg), .int 0]) (rest := []) (i := 67) (ci := 4) (Cn := RX4) (Tb := TX4) (N := 23) (fs := (ld_f4 w) ((ld_up Z 67 22 t0) 67)) (fun sz x hx => zX4_keeps l w (ld_up Z 67 22 t0) 2 ((12 * ((10 * a1) + a2)) + a3) ((ld_up Z 67 22 t0) 77 ((12 * ((10 * a1) + a2)) + a3).toNatClampNeg) 0 hx sz) (cwV 4 C.2.2.2.2.1 gX4_setLevel_X4_keeps rfl rfl rfl (by decide +kernel) ⟨Nat.le_of_ble_eq_true rfl, Nat.le_of_ble_eq_true rfl⟩) (by decide) ((fun _ => rfl) _) rfl rfl rfl rfl (Nat.le_of_ble_eq_true rfl) ⟨Nat.le_of_ble_eq_true rfl, Nat.le_of_ble_eq_true rfl⟩ dX4_setLevel_99 (fun x99 hx99 => ?_)
    refine lj_aload_n C rfl rfl dX4_setLevel_102 ?_
    refine lj_get C (i := 67) (kk := 11) (G := (ld_f4 w)) (v := .ref (ld_ad w 77)) (Tb := TX4) (N := 23) (by decide) (fun _ => rfl) rfl inX4_setLevel_4 (by decide) (List.mem_of_getElem? (i := 3) rfl) rfl rfl dX4_setLevel_103 ?_
    refine lj_iload C rfl dX4_setLevel_106 ?_
    refine lj_iload C rfl dX4_setLevel_108 ?_
    refine lj_iconst C (v := 1) (by decide) dX4_setLevel_110 ?_
    refine lj_iadd C dX4_setLevel_111 ?_
    refine lj_iast C (n := 240) (by decide) (fun _ => rfl) dX4_setLevel_112 ?_
    refine lj_iload C rfl dX4_setLevel_113 ?_
    exact lj_rb C (by decide) (by decide) dX4_setLevel_115
  · refine lj_iconst C (v := 0) (by decide) dX4_setLevel_61 ?_
    exact lj_rb C (by decide) (by decide) dX4_setLevel_62
def kX4_setLevel_26 (a1 : Int32) (a2 : Int32) (a3 : Int32) (a4 : Int32) (Z : ld_M)  : Option (Int32 × ld_M) := kX4_setLevel_51 a1 a2 a3 a4 Z 1
set_option maxHeartbeats 4000000 in
set_option maxRecDepth 100000 in
theorem bX4_setLevel_26 {p : Program} {e : Env} {s : State} {m : MethodId} {args : Array Value} {below : List Frame} {meth : Method} {c : Code} (l : Launch) (w : ld_E) (a1 : Int32) (a2 : Int32) (a3 : Int32) (a4 : Int32) {r : Int32 × ld_M} (C : ld_C p l s m args meth c cX4_setLevel 7 (some .int) wsX4_setLevel RX4 w) (Z : ld_M)  : ld_T p l e ({ frames := 2, cells := 0, slots := 0, locals := 42 }) s m args below meth c (MQ below (ld_Q w r.2 s.heap.size (some (.int r.1))) args s 0 0 (ld_A w s.heap.size)) w r (kX4_setLevel_26 a1 a2 a3 a4 Z ) Z 0 0 26 [some (.ref (ld_ad w 67)), some (.int a1), some (.int a2), some (.int a3), some (.int a4), none, none] [.ref (ld_ad w 67)] := by
  unfold kX4_setLevel_26
  refine lj_iconst C (v := 1) (by decide) dX4_setLevel_26 ?_
  refine lj_goto C (tgt := 51) dX4_setLevel_27 (by decide) ?_
  exact bX4_setLevel_51 l w a1 a2 a3 a4 C Z 1
def kX4_setLevel (Z : ld_M) (a1 : Int32) (a2 : Int32) (a3 : Int32) (a4 : Int32) : Option (Int32 × ld_M) := ld_bd (kX4_isList Z a1) (fun x2 => if (x2 : Int32) = 0 then (kX4_setLevel_26 a1 a2 a3 a4 Z) else (ld_bd (kX4_isChannel Z a3) (fun x9 => if (x9 : Int32) = 0 then (kX4_setLevel_26 a1 a2 a3 a4 Z) else (ld_bd (kX4_in Z a4 (-1) 100) (fun x20 => if (x20 : Int32) = 0 then (kX4_setLevel_26 a1 a2 a3 a4 Z) else (ld_ck (ld_g a1 2) (ld_bd (kX4_in Z a2 0 ((Z 73 a1.toNatClampNeg) - 1)) (fun x40 => if (x40 : Int32) = 0 then (kX4_setLevel_51 a1 a2 a3 a4 Z 2) else (kX4_setLevel_51 a1 a2 a3 a4 Z 0)))))))))
set_option maxHeartbeats 4000000 in
set_option maxRecDepth 100000 in
theorem zX4_setLevel (l : Launch) (w : ld_E) (Z : ld_M) (a1 : Int32) (a2 : Int32) (a3 : Int32) (a4 : Int32)  {r : Int32 × ld_M} (hr : kX4_setLevel Z a1 a2 a3 a4 = some r) (sz : Nat) : Met l yX4_setLevel wsX4_setLevel ({ frames := 2, cells := 0, slots := 0, locals := 42 }) (ld_Pc w Z sz [.ref (ld_ad w 67), .int a1, .int a2, .int a3, .int a4]) (ld_Q w r.2 sz (some (.int r.1))) 0 0 (ld_A w sz) := by
  refine ld_ofW (ws := wsX4_setLevel) (Qc := fun sz9 => ld_Q w r.2 sz9 (some (.int r.1))) RX4 (by decide +kernel) rfl rfl (by simp [Value.category]) (Nat.le_of_ble_eq_true rfl) sz ?_
  intro p e s m args below meth c C
  revert hr
  show ld_T p l e ({ frames := 2, cells := 0, slots := 0, locals := 42 }) s m args below meth c (MQ below (ld_Q w r.2 s.heap.size (some (.int r.1))) args s 0 0 (ld_A w s.heap.size)) w r (kX4_setLevel Z a1 a2 a3 a4) Z 0 0 0 [some (.ref (ld_ad w 67)), some (.int a1), some (.int a2), some (.int a3), some (.int a4), none, none] []
  unfold kX4_setLevel
  refine lj_aload_n C rfl rfl dX4_setLevel_0 ?_
  refine lj_iload_n C rfl rfl dX4_setLevel_1 ?_
  refine lj_cSa C (As := [.int a1]) (rest := [.ref (ld_ad w 67)]) (fun sz x hx => zX4_isList l w Z a1 hx sz) (va_cwS 1 C.2.2.2.2.1 gX4_setLevel_X4_isList rfl rfl rfl (by decide +kernel) ⟨Nat.le_of_ble_eq_true rfl, Nat.le_of_ble_eq_true rfl⟩) rfl rfl rfl (Nat.le_of_ble_eq_true rfl) ⟨Nat.le_of_ble_eq_true rfl, Nat.le_of_ble_eq_true rfl⟩ dX4_setLevel_2 (fun x2 hx2 => ?_)
  refine lj_if_eq C (tgt := 26) dX4_setLevel_5 (by decide) ?_ ?_
  · exact bX4_setLevel_26 l w a1 a2 a3 a4 C Z
  · refine lj_iload_n C rfl rfl dX4_setLevel_8 ?_
    refine lj_cSa C (As := [.int a3]) (rest := [.ref (ld_ad w 67)]) (fun sz x hx => zX4_isChannel l w Z a3 hx sz) (va_cwS 1 C.2.2.2.2.1 gX4_setLevel_X4_isChannel rfl rfl rfl (by decide +kernel) ⟨Nat.le_of_ble_eq_true rfl, Nat.le_of_ble_eq_true rfl⟩) rfl rfl rfl (Nat.le_of_ble_eq_true rfl) ⟨Nat.le_of_ble_eq_true rfl, Nat.le_of_ble_eq_true rfl⟩ dX4_setLevel_9 (fun x9 hx9 => ?_)
    refine lj_if_eq C (tgt := 26) dX4_setLevel_12 (by decide) ?_ ?_
    · exact bX4_setLevel_26 l w a1 a2 a3 a4 C Z
    · refine lj_iload C rfl dX4_setLevel_15 ?_
      refine lj_iconst C (v := (-1)) (by decide) dX4_setLevel_17 ?_
      refine lj_bipush C (v := 100) (by decide) dX4_setLevel_18 ?_
      refine lj_cSa C (As := [.int a4, .int (-1), .int 100]) (rest := [.ref (ld_ad w 67)]) (fun sz x hx => zX4_in l w Z a4 (-1) 100 hx sz) (va_cwS 3 C.2.2.2.2.1 gX4_setLevel_X4_in rfl rfl rfl (by decide +kernel) ⟨Nat.le_of_ble_eq_true rfl, Nat.le_of_ble_eq_true rfl⟩) rfl rfl rfl (Nat.le_of_ble_eq_true rfl) ⟨Nat.le_of_ble_eq_true rfl, Nat.le_of_ble_eq_true rfl⟩ dX4_setLevel_20 (fun x20 hx20 => ?_)
      refine lj_if_ne C (tgt := 30) dX4_setLevel_23 (by decide) ?_ ?_
      · refine lj_iload_n C rfl rfl dX4_setLevel_30 ?_
        refine lj_iconst C (v := 0) (by decide) dX4_setLevel_31 ?_
        refine lj_aload_n C rfl rfl dX4_setLevel_32 ?_
        refine lj_get C (i := 67) (kk := 7) (G := (ld_f4 w)) (v := .ref (ld_ad w 73)) (Tb := TX4) (N := 23) (by decide) (fun _ => rfl) rfl inX4_setLevel_4 (by decide) (List.mem_of_getElem? (i := 1) rfl) rfl rfl dX4_setLevel_33 ?_
        refine lj_iload_n C rfl rfl dX4_setLevel_36 ?_
        refine lj_iald C (n := 2) (by decide) (fun _ => rfl) dX4_setLevel_37 ?_
        refine lj_iconst C (v := 1) (by decide) dX4_setLevel_38 ?_
        refine lj_isub C dX4_setLevel_39 ?_
        refine lj_cSa C (As := [.int a2, .int 0, .int ((Z 73 a1.toNatClampNeg) - 1)]) (rest := [.ref (ld_ad w 67)]) (fun sz x hx => zX4_in l w Z a2 0 ((Z 73 a1.toNatClampNeg) - 1) hx sz) (va_cwS 3 C.2.2.2.2.1 gX4_setLevel_X4_in rfl rfl rfl (by decide +kernel) ⟨Nat.le_of_ble_eq_true rfl, Nat.le_of_ble_eq_true rfl⟩) rfl rfl rfl (Nat.le_of_ble_eq_true rfl) ⟨Nat.le_of_ble_eq_true rfl, Nat.le_of_ble_eq_true rfl⟩ dX4_setLevel_40 (fun x40 hx40 => ?_)
        refine lj_if_ne C (tgt := 50) dX4_setLevel_43 (by decide) ?_ ?_
        · refine lj_iconst C (v := 0) (by decide) dX4_setLevel_50 ?_
          exact bX4_setLevel_51 l w a1 a2 a3 a4 C Z 0
        · refine lj_iconst C (v := 2) (by decide) dX4_setLevel_46 ?_
          refine lj_goto C (tgt := 51) dX4_setLevel_47 (by decide) ?_
          exact bX4_setLevel_51 l w a1 a2 a3 a4 C Z 2
      · exact bX4_setLevel_26 l w a1 a2 a3 a4 C Z
theorem inX4_levelOf_4 : ∀ q ∈ u_ws RX4 TX4 23, q ∈ wsX4_levelOf := fun _ h => List.mem_cons_of_mem _ (List.mem_append_right _ h)
def kX4_levelOf_131 (a1 : Int32) (a2 : Int32) (Z : ld_M) (v3 : Int32) (v4 : Int32) (v5 : Int32) (v6 : Int32) (t0 : Int32) : Option (Int32) := some t0
set_option maxHeartbeats 4000000 in
set_option maxRecDepth 100000 in
theorem bX4_levelOf_131 {p : Program} {e : Env} {s : State} {m : MethodId} {args : Array Value} {below : List Frame} {meth : Method} {c : Code} (l : Launch) (w : ld_E) (a1 : Int32) (a2 : Int32)   {r : Int32} (C : ld_C p l s m args meth c cX4_levelOf 7 (some .int) wsX4_levelOf RX4 w) (Z : ld_M) (v3 : Int32) (v4 : Int32) (v5 : Int32) (v6 : Int32) (t0 : Int32) : ld_T p l e ({ frames := 0, cells := 0, slots := 0, locals := 0 }) s m args below meth c (MQ below (ld_Q w Z s.heap.size (some (.int r))) args s 0 0 (ld_A w s.heap.size)) w r (kX4_levelOf_131 a1 a2 Z v3 v4 v5 v6 t0) Z 0 0 131 [some (.ref (ld_ad w 67)), some (.int a1), some (.int a2), some (.int v3), some (.int v4), some (.int v5), some (.int v6)] [.int t0] := by
  unfold kX4_levelOf_131
  exact lj_ra C (by decide) (by decide) dX4_levelOf_131
def kX4_levelOf (Z : ld_M) (a1 : Int32) (a2 : Int32) : Option (Int32) := ld_ck (ld_g ((12 * a1) + a2) 24) (if ((Z 81 ((12 * a1) + a2).toNatClampNeg) : Int32) = 0 then (ld_ck (ld_g ((12 * a1) + a2) 24) (some (Z 80 ((12 * a1) + a2).toNatClampNeg))) else (ld_ck (ld_g a1 2) (ld_ck (ld_g a1 2) (ld_ck (ld_g ((10 * a1) + (Z 78 a1.toNatClampNeg)) 20) (ld_ck (ld_g ((12 * a1) + a2) 24) (ld_ck (ld_g ((12 * a1) + a2) 24) (if (0 : Int32) ≤ (((Z 67 12) - (Z 79 a1.toNatClampNeg)) - (Z 74 ((10 * a1) + (Z 78 a1.toNatClampNeg)).toNatClampNeg)) then (ld_ck (ld_g ((10 * a1) + (Z 78 a1.toNatClampNeg)) 20) (if ((((Z 67 12) - (Z 79 a1.toNatClampNeg)) - (Z 74 ((10 * a1) + (Z 78 a1.toNatClampNeg)).toNatClampNeg)) : Int32) < (Z 75 ((10 * a1) + (Z 78 a1.toNatClampNeg)).toNatClampNeg) then (ld_ck (ld_g ((12 * a1) + a2) 24) (ld_ck (ld_g ((10 * a1) + (Z 78 a1.toNatClampNeg)) 20) (ld_ck (decide (¬ ((Z 75 ((10 * a1) + (Z 78 a1.toNatClampNeg)).toNatClampNeg) : Int32) = 0)) (kX4_levelOf_131 a1 a2 Z ((12 * a1) + a2) ((10 * a1) + (Z 78 a1.toNatClampNeg)) (((Z 67 12) - (Z 79 a1.toNatClampNeg)) - (Z 74 ((10 * a1) + (Z 78 a1.toNatClampNeg)).toNatClampNeg)) (((Z 81 ((12 * a1) + a2).toNatClampNeg) - 1) - (Z 80 ((12 * a1) + a2).toNatClampNeg)) ((Z 80 ((12 * a1) + a2).toNatClampNeg) + (((((Z 81 ((12 * a1) + a2).toNatClampNeg) - 1) - (Z 80 ((12 * a1) + a2).toNatClampNeg)) * (((Z 67 12) - (Z 79 a1.toNatClampNeg)) - (Z 74 ((10 * a1) + (Z 78 a1.toNatClampNeg)).toNatClampNeg))) / (Z 75 ((10 * a1) + (Z 78 a1.toNatClampNeg)).toNatClampNeg))))))) else (ld_ck (ld_g ((12 * a1) + a2) 24) (kX4_levelOf_131 a1 a2 Z ((12 * a1) + a2) ((10 * a1) + (Z 78 a1.toNatClampNeg)) (((Z 67 12) - (Z 79 a1.toNatClampNeg)) - (Z 74 ((10 * a1) + (Z 78 a1.toNatClampNeg)).toNatClampNeg)) (((Z 81 ((12 * a1) + a2).toNatClampNeg) - 1) - (Z 80 ((12 * a1) + a2).toNatClampNeg)) ((Z 81 ((12 * a1) + a2).toNatClampNeg) - 1))))) else (ld_ck (ld_g ((12 * a1) + a2) 24) (kX4_levelOf_131 a1 a2 Z ((12 * a1) + a2) ((10 * a1) + (Z 78 a1.toNatClampNeg)) (((Z 67 12) - (Z 79 a1.toNatClampNeg)) - (Z 74 ((10 * a1) + (Z 78 a1.toNatClampNeg)).toNatClampNeg)) (((Z 81 ((12 * a1) + a2).toNatClampNeg) - 1) - (Z 80 ((12 * a1) + a2).toNatClampNeg)) (Z 80 ((12 * a1) + a2).toNatClampNeg))))))))))
set_option maxHeartbeats 4000000 in
set_option maxRecDepth 100000 in
theorem zX4_levelOf (l : Launch) (w : ld_E) (Z : ld_M) (a1 : Int32) (a2 : Int32)  {r : Int32} (hr : kX4_levelOf Z a1 a2 = some r) (sz : Nat) : Met l yX4_levelOf wsX4_levelOf ({ frames := 0, cells := 0, slots := 0, locals := 0 }) (ld_Pc w Z sz [.ref (ld_ad w 67), .int a1, .int a2]) (ld_Q w Z sz (some (.int r))) 0 0 (ld_A w sz) := by
  refine ld_ofW (ws := wsX4_levelOf) (Qc := fun sz9 => ld_Q w Z sz9 (some (.int r))) RX4 (by decide +kernel) rfl rfl (by simp [Value.category]) (Nat.le_of_ble_eq_true rfl) sz ?_
  intro p e s m args below meth c C
  revert hr
  show ld_T p l e ({ frames := 0, cells := 0, slots := 0, locals := 0 }) s m args below meth c (MQ below (ld_Q w Z s.heap.size (some (.int r))) args s 0 0 (ld_A w s.heap.size)) w r (kX4_levelOf Z a1 a2) Z 0 0 0 [some (.ref (ld_ad w 67)), some (.int a1), some (.int a2), none, none, none, none] []
  unfold kX4_levelOf
  refine lj_bipush C (v := 12) (by decide) dX4_levelOf_0 ?_
  refine lj_iload_n C rfl rfl dX4_levelOf_2 ?_
  refine lj_imul C dX4_levelOf_3 ?_
  refine lj_iload_n C rfl rfl dX4_levelOf_4 ?_
  refine lj_iadd C dX4_levelOf_5 ?_
  refine lj_istore_n C rfl (lv2 := [some (.ref (ld_ad w 67)), some (.int a1), some (.int a2), some (.int ((12 * a1) + a2)), none, none, none]) (Nat.le_of_ble_eq_true rfl) rfl dX4_levelOf_6 ?_
  refine lj_aload_n C rfl rfl dX4_levelOf_7 ?_
  refine lj_get C (i := 67) (kk := 16) (G := (ld_f4 w)) (v := .ref (ld_ad w 81)) (Tb := TX4) (N := 23) (by decide) (fun _ => rfl) rfl inX4_levelOf_4 (by decide) (List.mem_of_getElem? (i := 1) rfl) rfl rfl dX4_levelOf_8 ?_
  refine lj_iload_n C rfl rfl dX4_levelOf_11 ?_
  refine lj_iald C (n := 24) (by decide) (fun _ => rfl) dX4_levelOf_12 ?_
  refine lj_if_ne C (tgt := 23) dX4_levelOf_13 (by decide) ?_ ?_
  · refine lj_bipush C (v := 10) (by decide) dX4_levelOf_23 ?_
    refine lj_iload_n C rfl rfl dX4_levelOf_25 ?_
    refine lj_imul C dX4_levelOf_26 ?_
    refine lj_aload_n C rfl rfl dX4_levelOf_27 ?_
    refine lj_get C (i := 67) (kk := 13) (G := (ld_f4 w)) (v := .ref (ld_ad w 78)) (Tb := TX4) (N := 23) (by decide) (fun _ => rfl) rfl inX4_levelOf_4 (by decide) (List.mem_of_getElem? (i := 3) rfl) rfl rfl dX4_levelOf_28 ?_
    refine lj_iload_n C rfl rfl dX4_levelOf_31 ?_
    refine lj_iald C (n := 2) (by decide) (fun _ => rfl) dX4_levelOf_32 ?_
    refine lj_iadd C dX4_levelOf_33 ?_
    refine lj_istore C (lv2 := [some (.ref (ld_ad w 67)), some (.int a1), some (.int a2), some (.int ((12 * a1) + a2)), some (.int ((10 * a1) + (Z 78 a1.toNatClampNeg))), none, none]) (Nat.le_of_ble_eq_true rfl) rfl dX4_levelOf_34 ?_
    refine lj_aload_n C rfl rfl dX4_levelOf_36 ?_
    refine lj_get C (i := 67) (kk := 12) (G := (ld_f4 w)) (v := .int (Z 67 12)) (Tb := TX4) (N := 23) (by decide) (fun _ => rfl) rfl inX4_levelOf_4 (by decide) (List.mem_of_getElem? (i := 4) rfl) rfl rfl dX4_levelOf_37 ?_
    refine lj_aload_n C rfl rfl dX4_levelOf_40 ?_
    refine lj_get C (i := 67) (kk := 14) (G := (ld_f4 w)) (v := .ref (ld_ad w 79)) (Tb := TX4) (N := 23) (by decide) (fun _ => rfl) rfl inX4_levelOf_4 (by decide) (List.mem_of_getElem? (i := 5) rfl) rfl rfl dX4_levelOf_41 ?_
    refine lj_iload_n C rfl rfl dX4_levelOf_44 ?_
    refine lj_iald C (n := 2) (by decide) (fun _ => rfl) dX4_levelOf_45 ?_
    refine lj_isub C dX4_levelOf_46 ?_
    refine lj_aload_n C rfl rfl dX4_levelOf_47 ?_
    refine lj_get C (i := 67) (kk := 8) (G := (ld_f4 w)) (v := .ref (ld_ad w 74)) (Tb := TX4) (N := 23) (by decide) (fun _ => rfl) rfl inX4_levelOf_4 (by decide) (List.mem_of_getElem? (i := 6) rfl) rfl rfl dX4_levelOf_48 ?_
    refine lj_iload C rfl dX4_levelOf_51 ?_
    refine lj_iald C (n := 20) (by decide) (fun _ => rfl) dX4_levelOf_53 ?_
    refine lj_isub C dX4_levelOf_54 ?_
    refine lj_istore C (lv2 := [some (.ref (ld_ad w 67)), some (.int a1), some (.int a2), some (.int ((12 * a1) + a2)), some (.int ((10 * a1) + (Z 78 a1.toNatClampNeg))), some (.int (((Z 67 12) - (Z 79 a1.toNatClampNeg)) - (Z 74 ((10 * a1) + (Z 78 a1.toNatClampNeg)).toNatClampNeg))), none]) (Nat.le_of_ble_eq_true rfl) rfl dX4_levelOf_55 ?_
    refine lj_aload_n C rfl rfl dX4_levelOf_57 ?_
    refine lj_get C (i := 67) (kk := 16) (G := (ld_f4 w)) (v := .ref (ld_ad w 81)) (Tb := TX4) (N := 23) (by decide) (fun _ => rfl) rfl inX4_levelOf_4 (by decide) (List.mem_of_getElem? (i := 1) rfl) rfl rfl dX4_levelOf_58 ?_
    refine lj_iload_n C rfl rfl dX4_levelOf_61 ?_
    refine lj_iald C (n := 24) (by decide) (fun _ => rfl) dX4_levelOf_62 ?_
    refine lj_iconst C (v := 1) (by decide) dX4_levelOf_63 ?_
    refine lj_isub C dX4_levelOf_64 ?_
    refine lj_aload_n C rfl rfl dX4_levelOf_65 ?_
    refine lj_get C (i := 67) (kk := 15) (G := (ld_f4 w)) (v := .ref (ld_ad w 80)) (Tb := TX4) (N := 23) (by decide) (fun _ => rfl) rfl inX4_levelOf_4 (by decide) (List.mem_of_getElem? (i := 2) rfl) rfl rfl dX4_levelOf_66 ?_
    refine lj_iload_n C rfl rfl dX4_levelOf_69 ?_
    refine lj_iald C (n := 24) (by decide) (fun _ => rfl) dX4_levelOf_70 ?_
    refine lj_isub C dX4_levelOf_71 ?_
    refine lj_istore C (lv2 := [some (.ref (ld_ad w 67)), some (.int a1), some (.int a2), some (.int ((12 * a1) + a2)), some (.int ((10 * a1) + (Z 78 a1.toNatClampNeg))), some (.int (((Z 67 12) - (Z 79 a1.toNatClampNeg)) - (Z 74 ((10 * a1) + (Z 78 a1.toNatClampNeg)).toNatClampNeg))), some (.int (((Z 81 ((12 * a1) + a2).toNatClampNeg) - 1) - (Z 80 ((12 * a1) + a2).toNatClampNeg)))]) (Nat.le_of_ble_eq_true rfl) rfl dX4_levelOf_72 ?_
    refine lj_iload C rfl dX4_levelOf_74 ?_
    refine lj_if_ge C (tgt := 88) dX4_levelOf_76 (by decide) ?_ ?_
    · refine lj_iload C rfl dX4_levelOf_88 ?_
      refine lj_aload_n C rfl rfl dX4_levelOf_90 ?_
      refine lj_get C (i := 67) (kk := 9) (G := (ld_f4 w)) (v := .ref (ld_ad w 75)) (Tb := TX4) (N := 23) (by decide) (fun _ => rfl) rfl inX4_levelOf_4 (by decide) (List.mem_of_getElem? (i := 7) rfl) rfl rfl dX4_levelOf_91 ?_
      refine lj_iload C rfl dX4_levelOf_94 ?_
      refine lj_iald C (n := 20) (by decide) (fun _ => rfl) dX4_levelOf_96 ?_
      refine lj_icmp_lt C (tgt := 111) dX4_levelOf_97 (by decide) ?_ ?_
      · refine lj_aload_n C rfl rfl dX4_levelOf_111 ?_
        refine lj_get C (i := 67) (kk := 15) (G := (ld_f4 w)) (v := .ref (ld_ad w 80)) (Tb := TX4) (N := 23) (by decide) (fun _ => rfl) rfl inX4_levelOf_4 (by decide) (List.mem_of_getElem? (i := 2) rfl) rfl rfl dX4_levelOf_112 ?_
        refine lj_iload_n C rfl rfl dX4_levelOf_115 ?_
        refine lj_iald C (n := 24) (by decide) (fun _ => rfl) dX4_levelOf_116 ?_
        refine lj_iload C rfl dX4_levelOf_117 ?_
        refine lj_iload C rfl dX4_levelOf_119 ?_
        refine lj_imul C dX4_levelOf_121 ?_
        refine lj_aload_n C rfl rfl dX4_levelOf_122 ?_
        refine lj_get C (i := 67) (kk := 9) (G := (ld_f4 w)) (v := .ref (ld_ad w 75)) (Tb := TX4) (N := 23) (by decide) (fun _ => rfl) rfl inX4_levelOf_4 (by decide) (List.mem_of_getElem? (i := 7) rfl) rfl rfl dX4_levelOf_123 ?_
        refine lj_iload C rfl dX4_levelOf_126 ?_
        refine lj_iald C (n := 20) (by decide) (fun _ => rfl) dX4_levelOf_128 ?_
        refine lj_idiv C dX4_levelOf_129 ?_
        refine lj_iadd C dX4_levelOf_130 ?_
        exact bX4_levelOf_131 l w a1 a2 C Z ((12 * a1) + a2) ((10 * a1) + (Z 78 a1.toNatClampNeg)) (((Z 67 12) - (Z 79 a1.toNatClampNeg)) - (Z 74 ((10 * a1) + (Z 78 a1.toNatClampNeg)).toNatClampNeg)) (((Z 81 ((12 * a1) + a2).toNatClampNeg) - 1) - (Z 80 ((12 * a1) + a2).toNatClampNeg)) ((Z 80 ((12 * a1) + a2).toNatClampNeg) + (((((Z 81 ((12 * a1) + a2).toNatClampNeg) - 1) - (Z 80 ((12 * a1) + a2).toNatClampNeg)) * (((Z 67 12) - (Z 79 a1.toNatClampNeg)) - (Z 74 ((10 * a1) + (Z 78 a1.toNatClampNeg)).toNatClampNeg))) / (Z 75 ((10 * a1) + (Z 78 a1.toNatClampNeg)).toNatClampNeg)))
      · refine lj_aload_n C rfl rfl dX4_levelOf_100 ?_
        refine lj_get C (i := 67) (kk := 16) (G := (ld_f4 w)) (v := .ref (ld_ad w 81)) (Tb := TX4) (N := 23) (by decide) (fun _ => rfl) rfl inX4_levelOf_4 (by decide) (List.mem_of_getElem? (i := 1) rfl) rfl rfl dX4_levelOf_101 ?_
        refine lj_iload_n C rfl rfl dX4_levelOf_104 ?_
        refine lj_iald C (n := 24) (by decide) (fun _ => rfl) dX4_levelOf_105 ?_
        refine lj_iconst C (v := 1) (by decide) dX4_levelOf_106 ?_
        refine lj_isub C dX4_levelOf_107 ?_
        refine lj_goto C (tgt := 131) dX4_levelOf_108 (by decide) ?_
        exact bX4_levelOf_131 l w a1 a2 C Z ((12 * a1) + a2) ((10 * a1) + (Z 78 a1.toNatClampNeg)) (((Z 67 12) - (Z 79 a1.toNatClampNeg)) - (Z 74 ((10 * a1) + (Z 78 a1.toNatClampNeg)).toNatClampNeg)) (((Z 81 ((12 * a1) + a2).toNatClampNeg) - 1) - (Z 80 ((12 * a1) + a2).toNatClampNeg)) ((Z 81 ((12 * a1) + a2).toNatClampNeg) - 1)
    · refine lj_aload_n C rfl rfl dX4_levelOf_79 ?_
      refine lj_get C (i := 67) (kk := 15) (G := (ld_f4 w)) (v := .ref (ld_ad w 80)) (Tb := TX4) (N := 23) (by decide) (fun _ => rfl) rfl inX4_levelOf_4 (by decide) (List.mem_of_getElem? (i := 2) rfl) rfl rfl dX4_levelOf_80 ?_
      refine lj_iload_n C rfl rfl dX4_levelOf_83 ?_
      refine lj_iald C (n := 24) (by decide) (fun _ => rfl) dX4_levelOf_84 ?_
      refine lj_goto C (tgt := 131) dX4_levelOf_85 (by decide) ?_
      exact bX4_levelOf_131 l w a1 a2 C Z ((12 * a1) + a2) ((10 * a1) + (Z 78 a1.toNatClampNeg)) (((Z 67 12) - (Z 79 a1.toNatClampNeg)) - (Z 74 ((10 * a1) + (Z 78 a1.toNatClampNeg)).toNatClampNeg)) (((Z 81 ((12 * a1) + a2).toNatClampNeg) - 1) - (Z 80 ((12 * a1) + a2).toNatClampNeg)) (Z 80 ((12 * a1) + a2).toNatClampNeg)
  · refine lj_aload_n C rfl rfl dX4_levelOf_16 ?_
    refine lj_get C (i := 67) (kk := 15) (G := (ld_f4 w)) (v := .ref (ld_ad w 80)) (Tb := TX4) (N := 23) (by decide) (fun _ => rfl) rfl inX4_levelOf_4 (by decide) (List.mem_of_getElem? (i := 2) rfl) rfl rfl dX4_levelOf_17 ?_
    refine lj_iload_n C rfl rfl dX4_levelOf_20 ?_
    refine lj_iald C (n := 24) (by decide) (fun _ => rfl) dX4_levelOf_21 ?_
    exact lj_ra C (by decide) (by decide) dX4_levelOf_22
theorem inX4_begins_4 : ∀ q ∈ u_ws RX4 TX4 23, q ∈ wsX4_begins := fun _ h => List.mem_cons_of_mem _ (List.mem_append_right _ h)
def kX4_begins_102 (a1 : Int32) (a2 : Int32) (k : ld_M → Int32 → Option (ld_M)) (Z : ld_M) (v3 : Int32) (v4 : Int32) (t0 : Int32) (t1 : Int32) : Option (ld_M) := ld_ck (ld_g t1 12) (k (ld_up Z 72 t1.toNatClampNeg t0) (v3 + 1))
set_option maxHeartbeats 4000000 in
set_option maxRecDepth 100000 in
theorem bX4_begins_102 {p : Program} {e : Env} {s : State} {m : MethodId} {args : Array Value} {below : List Frame} {meth : Method} {c : Code} (l : Launch) (w : ld_E) (a1 : Int32) (a2 : Int32) {r : ld_M} (C : ld_C p l s m args meth c cX4_begins 5 none wsX4_begins RX4 w) (k : ld_M → Int32 → Option (ld_M)) (hk : ∀ (Z : ld_M) (u0 : Int32), ld_T p l e ({ frames := 1, cells := 0, slots := 0, locals := 26 }) s m args below meth c (MQ below (ld_Q w r s.heap.size none) args s 0 0 (ld_A w s.heap.size)) w r (k Z u0) Z 0 0 45 [some (.ref (ld_ad w 67)), some (.int a1), some (.int a2), some (.int u0), none] []) (Z : ld_M) (v3 : Int32) (v4 : Int32) (t0 : Int32) (t1 : Int32) : ld_T p l e ({ frames := 1, cells := 0, slots := 0, locals := 26 }) s m args below meth c (MQ below (ld_Q w r s.heap.size none) args s 0 0 (ld_A w s.heap.size)) w r (kX4_begins_102 a1 a2 k Z v3 v4 t0 t1) Z 0 0 102 [some (.ref (ld_ad w 67)), some (.int a1), some (.int a2), some (.int v3), some (.int v4)] [.int t0, .int t1, .ref (ld_ad w 72)] := by
  unfold kX4_begins_102
  refine lj_iast C (n := 12) (by decide) (fun _ => rfl) dX4_begins_102 ?_
  refine lj_iinc C (i := 3) (v := (v3 + 1)) (lv2 := [some (.ref (ld_ad w 67)), some (.int a1), some (.int a2), some (.int (v3 + 1)), some (.int v4)]) rfl rfl rfl dX4_begins_103 ?_
  refine lj_goto C (tgt := 45) dX4_begins_106 (by decide) ?_
  refine lj_forget (lv2 := [some (.ref (ld_ad w 67)), some (.int a1), some (.int a2), some (.int (v3 + 1)), none]) (by simp [ld_le]) ?_
  exact hk (ld_up Z 72 t1.toNatClampNeg t0) (v3 + 1)
def kX4_begins_45 (a1 : Int32) (a2 : Int32) : Nat → ld_M → Int32 → Option (ld_M)
  | 0, _, _ => none
  | n + 1, Z, v3 => if (12 : Int32) ≤ v3 then (ld_ck (ld_g a1 2) (ld_ck (ld_g a1 2) (some (ld_up (ld_up Z 78 a1.toNatClampNeg a2) 79 a1.toNatClampNeg ((ld_up Z 78 a1.toNatClampNeg a2) 67 12))))) else (ld_ck (ld_g ((12 * ((10 * a1) + a2)) + v3) 240) (ld_ck (ld_g ((12 * a1) + v3) 24) (if ((Z 77 ((12 * ((10 * a1) + a2)) + v3).toNatClampNeg) : Int32) ≤ 0 then (ld_ck (ld_g v3 12) (kX4_begins_102 a1 a2 (kX4_begins_45 a1 a2 n) (ld_up Z 81 ((12 * a1) + v3).toNatClampNeg (Z 77 ((12 * ((10 * a1) + a2)) + v3).toNatClampNeg)) v3 (Z 77 ((12 * ((10 * a1) + a2)) + v3).toNatClampNeg) ((ld_up Z 81 ((12 * a1) + v3).toNatClampNeg (Z 77 ((12 * ((10 * a1) + a2)) + v3).toNatClampNeg)) 72 v3.toNatClampNeg) v3)) else (kX4_begins_102 a1 a2 (kX4_begins_45 a1 a2 n) (ld_up Z 81 ((12 * a1) + v3).toNatClampNeg (Z 77 ((12 * ((10 * a1) + a2)) + v3).toNatClampNeg)) v3 (Z 77 ((12 * ((10 * a1) + a2)) + v3).toNatClampNeg) a1 v3))))
set_option maxHeartbeats 4000000 in
set_option maxRecDepth 100000 in
theorem bX4_begins_45 {p : Program} {e : Env} {s : State} {m : MethodId} {args : Array Value} {below : List Frame} {meth : Method} {c : Code} (l : Launch) (w : ld_E) (a1 : Int32) (a2 : Int32) {r : ld_M} (C : ld_C p l s m args meth c cX4_begins 5 none wsX4_begins RX4 w) : ∀ (n : Nat) (Z : ld_M) (v3 : Int32), ld_T p l e ({ frames := 1, cells := 0, slots := 0, locals := 26 }) s m args below meth c (MQ below (ld_Q w r s.heap.size none) args s 0 0 (ld_A w s.heap.size)) w r (kX4_begins_45 a1 a2 n Z v3) Z 0 0 45 [some (.ref (ld_ad w 67)), some (.int a1), some (.int a2), some (.int v3), none] [] := by
  intro n
  induction n with
  | zero => exact fun _ _ h => nomatch h
  | succ n ih =>
    intro Z v3
    refine lj_iload_n C rfl rfl dX4_begins_45 ?_
    refine lj_bipush C (v := 12) (by decide) dX4_begins_46 ?_
    refine lj_icmp_ge C (tgt := 109) dX4_begins_48 (by decide) ?_ ?_
    · refine lj_aload_n C rfl rfl dX4_begins_109 ?_
      refine lj_get C (i := 67) (kk := 13) (G := (ld_f4 w)) (v := .ref (ld_ad w 78)) (Tb := TX4) (N := 23) (by decide) (fun _ => rfl) rfl inX4_begins_4 (by decide) (List.mem_of_getElem? (i := 5) rfl) rfl rfl dX4_begins_110 ?_
      refine lj_iload_n C rfl rfl dX4_begins_113 ?_
      refine lj_iload_n C rfl rfl dX4_begins_114 ?_
      refine lj_iast C (n := 2) (by decide) (fun _ => rfl) dX4_begins_115 ?_
      refine lj_aload_n C rfl rfl dX4_begins_116 ?_
      refine lj_get C (i := 67) (kk := 14) (G := (ld_f4 w)) (v := .ref (ld_ad w 79)) (Tb := TX4) (N := 23) (by decide) (fun _ => rfl) rfl inX4_begins_4 (by decide) (List.mem_of_getElem? (i := 6) rfl) rfl rfl dX4_begins_117 ?_
      refine lj_iload_n C rfl rfl dX4_begins_120 ?_
      refine lj_aload_n C rfl rfl dX4_begins_121 ?_
      refine lj_get C (i := 67) (kk := 12) (G := (ld_f4 w)) (v := .int ((ld_up Z 78 a1.toNatClampNeg a2) 67 12)) (Tb := TX4) (N := 23) (by decide) (fun _ => rfl) rfl inX4_begins_4 (by decide) (List.mem_of_getElem? (i := 7) rfl) rfl rfl dX4_begins_122 ?_
      refine lj_iast C (n := 2) (by decide) (fun _ => rfl) dX4_begins_125 ?_
      exact lj_rv C (by decide) (by decide) dX4_begins_126
    · refine lj_aload_n C rfl rfl dX4_begins_51 ?_
      refine lj_get C (i := 67) (kk := 11) (G := (ld_f4 w)) (v := .ref (ld_ad w 77)) (Tb := TX4) (N := 23) (by decide) (fun _ => rfl) rfl inX4_begins_4 (by decide) (List.mem_of_getElem? (i := 3) rfl) rfl rfl dX4_begins_52 ?_
      refine lj_bipush C (v := 12) (by decide) dX4_begins_55 ?_
      refine lj_bipush C (v := 10) (by decide) dX4_begins_57 ?_
      refine lj_iload_n C rfl rfl dX4_begins_59 ?_
      refine lj_imul C dX4_begins_60 ?_
      refine lj_iload_n C rfl rfl dX4_begins_61 ?_
      refine lj_iadd C dX4_begins_62 ?_
      refine lj_imul C dX4_begins_63 ?_
      refine lj_iload_n C rfl rfl dX4_begins_64 ?_
      refine lj_iadd C dX4_begins_65 ?_
      refine lj_iald C (n := 240) (by decide) (fun _ => rfl) dX4_begins_66 ?_
      refine lj_istore C (lv2 := [some (.ref (ld_ad w 67)), some (.int a1), some (.int a2), some (.int v3), some (.int (Z 77 ((12 * ((10 * a1) + a2)) + v3).toNatClampNeg))]) (Nat.le_of_ble_eq_true rfl) rfl dX4_begins_67 ?_
      refine lj_aload_n C rfl rfl dX4_begins_69 ?_
      refine lj_get C (i := 67) (kk := 16) (G := (ld_f4 w)) (v := .ref (ld_ad w 81)) (Tb := TX4) (N := 23) (by decide) (fun _ => rfl) rfl inX4_begins_4 (by decide) (List.mem_of_getElem? (i := 2) rfl) rfl rfl dX4_begins_70 ?_
      refine lj_bipush C (v := 12) (by decide) dX4_begins_73 ?_
      refine lj_iload_n C rfl rfl dX4_begins_75 ?_
      refine lj_imul C dX4_begins_76 ?_
      refine lj_iload_n C rfl rfl dX4_begins_77 ?_
      refine lj_iadd C dX4_begins_78 ?_
      refine lj_iload C rfl dX4_begins_79 ?_
      refine lj_iast C (n := 24) (by decide) (fun _ => rfl) dX4_begins_81 ?_
      refine lj_aload_n C rfl rfl dX4_begins_82 ?_
      refine lj_get C (i := 67) (kk := 6) (G := (ld_f4 w)) (v := .ref (ld_ad w 72)) (Tb := TX4) (N := 23) (by decide) (fun _ => rfl) rfl inX4_begins_4 (by decide) (List.mem_of_getElem? (i := 4) rfl) rfl rfl dX4_begins_83 ?_
      refine lj_iload_n C rfl rfl dX4_begins_86 ?_
      refine lj_iload C rfl dX4_begins_87 ?_
      refine lj_if_le C (tgt := 96) dX4_begins_89 (by decide) ?_ ?_
      · refine lj_aload_n C rfl rfl dX4_begins_96 ?_
        refine lj_get C (i := 67) (kk := 6) (G := (ld_f4 w)) (v := .ref (ld_ad w 72)) (Tb := TX4) (N := 23) (by decide) (fun _ => rfl) rfl inX4_begins_4 (by decide) (List.mem_of_getElem? (i := 4) rfl) rfl rfl dX4_begins_97 ?_
        refine lj_iload_n C rfl rfl dX4_begins_100 ?_
        refine lj_iald C (n := 12) (by decide) (fun _ => rfl) dX4_begins_101 ?_
        exact bX4_begins_102 l w a1 a2 C (kX4_begins_45 a1 a2 n) (fun Z9 u0 => ih Z9 u0) (ld_up Z 81 ((12 * a1) + v3).toNatClampNeg (Z 77 ((12 * ((10 * a1) + a2)) + v3).toNatClampNeg)) v3 (Z 77 ((12 * ((10 * a1) + a2)) + v3).toNatClampNeg) ((ld_up Z 81 ((12 * a1) + v3).toNatClampNeg (Z 77 ((12 * ((10 * a1) + a2)) + v3).toNatClampNeg)) 72 v3.toNatClampNeg) v3
      · refine lj_iload_n C rfl rfl dX4_begins_92 ?_
        refine lj_goto C (tgt := 102) dX4_begins_93 (by decide) ?_
        exact bX4_begins_102 l w a1 a2 C (kX4_begins_45 a1 a2 n) (fun Z9 u0 => ih Z9 u0) (ld_up Z 81 ((12 * a1) + v3).toNatClampNeg (Z 77 ((12 * ((10 * a1) + a2)) + v3).toNatClampNeg)) v3 (Z 77 ((12 * ((10 * a1) + a2)) + v3).toNatClampNeg) a1 v3
def kX4_begins_2 (a1 : Int32) (a2 : Int32) : Nat → ld_M → Int32 → Option (ld_M)
  | 0, _, _ => none
  | n + 1, Z, v3 => if (12 : Int32) ≤ v3 then (kX4_begins_45 a1 a2 ld_fu Z 0) else (ld_bd (kX4_levelOf Z a1 v3) (fun x21 => ld_ck (ld_g ((12 * a1) + v3) 24) (ld_ck (ld_g ((12 * a1) + v3) 24) (kX4_begins_2 a1 a2 n (ld_up (ld_up Z 80 ((12 * a1) + v3).toNatClampNeg x21) 81 ((12 * a1) + v3).toNatClampNeg 0) (v3 + 1)))))
set_option maxHeartbeats 4000000 in
set_option maxRecDepth 100000 in
theorem bX4_begins_2 {p : Program} {e : Env} {s : State} {m : MethodId} {args : Array Value} {below : List Frame} {meth : Method} {c : Code} (l : Launch) (w : ld_E) (a1 : Int32) (a2 : Int32) {r : ld_M} (C : ld_C p l s m args meth c cX4_begins 5 none wsX4_begins RX4 w) : ∀ (n : Nat) (Z : ld_M) (v3 : Int32), ld_T p l e ({ frames := 1, cells := 0, slots := 0, locals := 26 }) s m args below meth c (MQ below (ld_Q w r s.heap.size none) args s 0 0 (ld_A w s.heap.size)) w r (kX4_begins_2 a1 a2 n Z v3) Z 0 0 2 [some (.ref (ld_ad w 67)), some (.int a1), some (.int a2), some (.int v3), none] [] := by
  intro n
  induction n with
  | zero => exact fun _ _ h => nomatch h
  | succ n ih =>
    intro Z v3
    refine lj_iload_n C rfl rfl dX4_begins_2 ?_
    refine lj_bipush C (v := 12) (by decide) dX4_begins_3 ?_
    refine lj_icmp_ge C (tgt := 43) dX4_begins_5 (by decide) ?_ ?_
    · refine lj_iconst C (v := 0) (by decide) dX4_begins_43 ?_
      refine lj_istore_n C rfl (lv2 := [some (.ref (ld_ad w 67)), some (.int a1), some (.int a2), some (.int 0), none]) (Nat.le_of_ble_eq_true rfl) rfl dX4_begins_44 ?_
      exact bX4_begins_45 l w a1 a2 C ld_fu Z 0
    · refine lj_aload_n C rfl rfl dX4_begins_8 ?_
      refine lj_get C (i := 67) (kk := 15) (G := (ld_f4 w)) (v := .ref (ld_ad w 80)) (Tb := TX4) (N := 23) (by decide) (fun _ => rfl) rfl inX4_begins_4 (by decide) (List.mem_of_getElem? (i := 1) rfl) rfl rfl dX4_begins_9 ?_
      refine lj_bipush C (v := 12) (by decide) dX4_begins_12 ?_
      refine lj_iload_n C rfl rfl dX4_begins_14 ?_
      refine lj_imul C dX4_begins_15 ?_
      refine lj_iload_n C rfl rfl dX4_begins_16 ?_
      refine lj_iadd C dX4_begins_17 ?_
      refine lj_aload_n C rfl rfl dX4_begins_18 ?_
      refine lj_iload_n C rfl rfl dX4_begins_19 ?_
      refine lj_iload_n C rfl rfl dX4_begins_20 ?_
      refine lj_cVa C (As := [.int a1, .int v3]) (rest := [.int ((12 * a1) + v3), .ref (ld_ad w 80)]) (i := 67) (ci := 4) (Cn := RX4) (Tb := TX4) (N := 23) (fs := (ld_f4 w) (Z 67)) (fun sz x hx => zX4_levelOf l w Z a1 v3 hx sz) (cwV 2 C.2.2.2.2.1 gX4_begins_X4_levelOf rfl rfl rfl (by decide +kernel) ⟨Nat.le_of_ble_eq_true rfl, Nat.le_of_ble_eq_true rfl⟩) (by decide) ((fun _ => rfl) _) rfl rfl rfl rfl (Nat.le_of_ble_eq_true rfl) ⟨Nat.le_of_ble_eq_true rfl, Nat.le_of_ble_eq_true rfl⟩ dX4_begins_21 (fun x21 hx21 => ?_)
      refine lj_iast C (n := 24) (by decide) (fun _ => rfl) dX4_begins_24 ?_
      refine lj_aload_n C rfl rfl dX4_begins_25 ?_
      refine lj_get C (i := 67) (kk := 16) (G := (ld_f4 w)) (v := .ref (ld_ad w 81)) (Tb := TX4) (N := 23) (by decide) (fun _ => rfl) rfl inX4_begins_4 (by decide) (List.mem_of_getElem? (i := 2) rfl) rfl rfl dX4_begins_26 ?_
      refine lj_bipush C (v := 12) (by decide) dX4_begins_29 ?_
      refine lj_iload_n C rfl rfl dX4_begins_31 ?_
      refine lj_imul C dX4_begins_32 ?_
      refine lj_iload_n C rfl rfl dX4_begins_33 ?_
      refine lj_iadd C dX4_begins_34 ?_
      refine lj_iconst C (v := 0) (by decide) dX4_begins_35 ?_
      refine lj_iast C (n := 24) (by decide) (fun _ => rfl) dX4_begins_36 ?_
      refine lj_iinc C (i := 3) (v := (v3 + 1)) (lv2 := [some (.ref (ld_ad w 67)), some (.int a1), some (.int a2), some (.int (v3 + 1)), none]) rfl rfl rfl dX4_begins_37 ?_
      refine lj_goto C (tgt := 2) dX4_begins_40 (by decide) ?_
      exact ih (ld_up (ld_up Z 80 ((12 * a1) + v3).toNatClampNeg x21) 81 ((12 * a1) + v3).toNatClampNeg 0) (v3 + 1)
def kX4_begins (Z : ld_M) (a1 : Int32) (a2 : Int32) : Option (ld_M) := kX4_begins_2 a1 a2 ld_fu Z 0
set_option maxHeartbeats 4000000 in
set_option maxRecDepth 100000 in
theorem zX4_begins (l : Launch) (w : ld_E) (Z : ld_M) (a1 : Int32) (a2 : Int32)  {r : ld_M} (hr : kX4_begins Z a1 a2 = some r) (sz : Nat) : Met l yX4_begins wsX4_begins ({ frames := 1, cells := 0, slots := 0, locals := 26 }) (ld_Pc w Z sz [.ref (ld_ad w 67), .int a1, .int a2]) (ld_Q w r sz none) 0 0 (ld_A w sz) := by
  refine ld_ofW (ws := wsX4_begins) (Qc := fun sz9 => ld_Q w r sz9 none) RX4 (by decide +kernel) rfl rfl (by simp [Value.category]) (Nat.le_of_ble_eq_true rfl) sz ?_
  intro p e s m args below meth c C
  revert hr
  show ld_T p l e ({ frames := 1, cells := 0, slots := 0, locals := 26 }) s m args below meth c (MQ below (ld_Q w r s.heap.size none) args s 0 0 (ld_A w s.heap.size)) w r (kX4_begins Z a1 a2) Z 0 0 0 [some (.ref (ld_ad w 67)), some (.int a1), some (.int a2), none, none] []
  unfold kX4_begins
  refine lj_iconst C (v := 0) (by decide) dX4_begins_0 ?_
  refine lj_istore_n C rfl (lv2 := [some (.ref (ld_ad w 67)), some (.int a1), some (.int a2), some (.int 0), none]) (Nat.le_of_ble_eq_true rfl) rfl dX4_begins_1 ?_
  exact bX4_begins_2 l w a1 a2 C ld_fu Z 0
theorem inX4_looks_4 : ∀ q ∈ u_ws RX4 TX4 23, q ∈ wsX4_looks := fun _ h => List.mem_cons_of_mem _ (List.mem_append_right _ h)
def kX4_looks_116 (a1 : Int32) (k : ld_M → Int32 → Int32 → Option (Int32 × ld_M)) (Z : ld_M) (v2 : Int32) (v3 : Int32) (v4 : Int32) : Option (Int32 × ld_M) := k Z v2 v3
set_option maxHeartbeats 4000000 in
set_option maxRecDepth 100000 in
theorem bX4_looks_116 {p : Program} {e : Env} {s : State} {m : MethodId} {args : Array Value} {below : List Frame} {meth : Method} {c : Code} (l : Launch) (w : ld_E) (a1 : Int32) {r : Int32 × ld_M} (C : ld_C p l s m args meth c cX4_looks 5 (some .int) wsX4_looks RX4 w) (k : ld_M → Int32 → Int32 → Option (Int32 × ld_M)) (hk : ∀ (Z : ld_M) (u0 : Int32) (u1 : Int32), ld_T p l e ({ frames := 2, cells := 0, slots := 0, locals := 50 }) s m args below meth c (MQ below (ld_Q w r.2 s.heap.size (some (.int r.1))) args s 0 0 (ld_A w s.heap.size)) w r (k Z u0 u1) Z 0 0 4 [some (.ref (ld_ad w 67)), some (.int a1), some (.int u0), some (.int u1), none] []) (Z : ld_M) (v2 : Int32) (v3 : Int32) (v4 : Int32) : ld_T p l e ({ frames := 2, cells := 0, slots := 0, locals := 50 }) s m args below meth c (MQ below (ld_Q w r.2 s.heap.size (some (.int r.1))) args s 0 0 (ld_A w s.heap.size)) w r (kX4_looks_116 a1 k Z v2 v3 v4) Z 0 0 116 [some (.ref (ld_ad w 67)), some (.int a1), some (.int v2), some (.int v3), some (.int v4)] [] := by
  unfold kX4_looks_116
  refine lj_goto C (tgt := 4) dX4_looks_116 (by decide) ?_
  refine lj_forget (lv2 := [some (.ref (ld_ad w 67)), some (.int a1), some (.int v2), some (.int v3), none]) (by simp [ld_le]) ?_
  exact hk Z v2 v3
def kX4_looks_95 (a1 : Int32) (k : ld_M → Int32 → Int32 → Option (Int32 × ld_M)) (Z : ld_M) (v2 : Int32) (v3 : Int32) (v4 : Int32) (t0 : Int32) : Option (Int32 × ld_M) := if (t0 : Int32) = 0 then (kX4_looks_116 a1 (k) Z v2 t0 v4) else (ld_ck (ld_g a1 2) (ld_bd (kX4_begins Z a1 ((Z 78 a1.toNatClampNeg) + 1)) (fun x110 => kX4_looks_116 a1 (k) x110 (v2 + 1) t0 v4)))
set_option maxHeartbeats 4000000 in
set_option maxRecDepth 100000 in
theorem bX4_looks_95 {p : Program} {e : Env} {s : State} {m : MethodId} {args : Array Value} {below : List Frame} {meth : Method} {c : Code} (l : Launch) (w : ld_E) (a1 : Int32) {r : Int32 × ld_M} (C : ld_C p l s m args meth c cX4_looks 5 (some .int) wsX4_looks RX4 w) (k : ld_M → Int32 → Int32 → Option (Int32 × ld_M)) (hk : ∀ (Z : ld_M) (u0 : Int32) (u1 : Int32), ld_T p l e ({ frames := 2, cells := 0, slots := 0, locals := 50 }) s m args below meth c (MQ below (ld_Q w r.2 s.heap.size (some (.int r.1))) args s 0 0 (ld_A w s.heap.size)) w r (k Z u0 u1) Z 0 0 4 [some (.ref (ld_ad w 67)), some (.int a1), some (.int u0), some (.int u1), none] []) (Z : ld_M) (v2 : Int32) (v3 : Int32) (v4 : Int32) (t0 : Int32) : ld_T p l e ({ frames := 2, cells := 0, slots := 0, locals := 50 }) s m args below meth c (MQ below (ld_Q w r.2 s.heap.size (some (.int r.1))) args s 0 0 (ld_A w s.heap.size)) w r (kX4_looks_95 a1 k Z v2 v3 v4 t0) Z 0 0 95 [some (.ref (ld_ad w 67)), some (.int a1), some (.int v2), some (.int v3), some (.int v4)] [.int t0] := by
  unfold kX4_looks_95
  refine lj_istore_n C rfl (lv2 := [some (.ref (ld_ad w 67)), some (.int a1), some (.int v2), some (.int t0), some (.int v4)]) (Nat.le_of_ble_eq_true rfl) rfl dX4_looks_95 ?_
  refine lj_iload_n C rfl rfl dX4_looks_96 ?_
  refine lj_if_eq C (tgt := 116) dX4_looks_97 (by decide) ?_ ?_
  · exact bX4_looks_116 l w a1 C (k) (fun Z9 u0 u1 => hk Z9 u0 u1) Z v2 t0 v4
  · refine lj_aload_n C rfl rfl dX4_looks_100 ?_
    refine lj_iload_n C rfl rfl dX4_looks_101 ?_
    refine lj_aload_n C rfl rfl dX4_looks_102 ?_
    refine lj_get C (i := 67) (kk := 13) (G := (ld_f4 w)) (v := .ref (ld_ad w 78)) (Tb := TX4) (N := 23) (by decide) (fun _ => rfl) rfl inX4_looks_4 (by decide) (List.mem_of_getElem? (i := 1) rfl) rfl rfl dX4_looks_103 ?_
    refine lj_iload_n C rfl rfl dX4_looks_106 ?_
    refine lj_iald C (n := 2) (by decide) (fun _ => rfl) dX4_looks_107 ?_
    refine lj_iconst C (v := 1) (by decide) dX4_looks_108 ?_
    refine lj_iadd C dX4_looks_109 ?_
    refine lj_cVv C (As := [.int a1, .int ((Z 78 a1.toNatClampNeg) + 1)]) (rest := []) (i := 67) (ci := 4) (Cn := RX4) (Tb := TX4) (N := 23) (fs := (ld_f4 w) (Z 67)) (fun sz x hx => zX4_begins l w Z a1 ((Z 78 a1.toNatClampNeg) + 1) hx sz) (cwV 2 C.2.2.2.2.1 gX4_looks_X4_begins rfl rfl rfl (by decide +kernel) ⟨Nat.le_of_ble_eq_true rfl, Nat.le_of_ble_eq_true rfl⟩) (by decide) ((fun _ => rfl) _) rfl rfl rfl rfl (Nat.le_of_ble_eq_true rfl) ⟨Nat.le_of_ble_eq_true rfl, Nat.le_of_ble_eq_true rfl⟩ dX4_looks_110 (fun x110 hx110 => ?_)
    refine lj_iinc C (i := 2) (v := (v2 + 1)) (lv2 := [some (.ref (ld_ad w 67)), some (.int a1), some (.int (v2 + 1)), some (.int t0), some (.int v4)]) rfl rfl rfl dX4_looks_113 ?_
    exact bX4_looks_116 l w a1 C (k) (fun Z9 u0 u1 => hk Z9 u0 u1) x110 (v2 + 1) t0 v4
def kX4_looks_94 (a1 : Int32) (k : ld_M → Int32 → Int32 → Option (Int32 × ld_M)) (Z : ld_M) (v2 : Int32) (v3 : Int32) (v4 : Int32) : Option (Int32 × ld_M) := kX4_looks_95 a1 (k) Z v2 v3 v4 0
set_option maxHeartbeats 4000000 in
set_option maxRecDepth 100000 in
theorem bX4_looks_94 {p : Program} {e : Env} {s : State} {m : MethodId} {args : Array Value} {below : List Frame} {meth : Method} {c : Code} (l : Launch) (w : ld_E) (a1 : Int32) {r : Int32 × ld_M} (C : ld_C p l s m args meth c cX4_looks 5 (some .int) wsX4_looks RX4 w) (k : ld_M → Int32 → Int32 → Option (Int32 × ld_M)) (hk : ∀ (Z : ld_M) (u0 : Int32) (u1 : Int32), ld_T p l e ({ frames := 2, cells := 0, slots := 0, locals := 50 }) s m args below meth c (MQ below (ld_Q w r.2 s.heap.size (some (.int r.1))) args s 0 0 (ld_A w s.heap.size)) w r (k Z u0 u1) Z 0 0 4 [some (.ref (ld_ad w 67)), some (.int a1), some (.int u0), some (.int u1), none] []) (Z : ld_M) (v2 : Int32) (v3 : Int32) (v4 : Int32) : ld_T p l e ({ frames := 2, cells := 0, slots := 0, locals := 50 }) s m args below meth c (MQ below (ld_Q w r.2 s.heap.size (some (.int r.1))) args s 0 0 (ld_A w s.heap.size)) w r (kX4_looks_94 a1 k Z v2 v3 v4) Z 0 0 94 [some (.ref (ld_ad w 67)), some (.int a1), some (.int v2), some (.int v3), some (.int v4)] [] := by
  unfold kX4_looks_94
  refine lj_iconst C (v := 0) (by decide) dX4_looks_94 ?_
  exact bX4_looks_95 l w a1 C (k) (fun Z9 u0 u1 => hk Z9 u0 u1) Z v2 v3 v4 0
def kX4_looks_4 (a1 : Int32) : Nat → ld_M → Int32 → Int32 → Option (Int32 × ld_M)
  | 0, _, _, _ => none
  | n + 1, Z, v2, v3 => if (v3 : Int32) = 0 then (some (v2, Z)) else (ld_ck (ld_g a1 2) (ld_ck (ld_g a1 2) (if ((Z 78 a1.toNatClampNeg) : Int32) = (-1) then (kX4_looks_94 a1 (kX4_looks_4 a1 n) Z v2 v3 ((10 * a1) + (Z 78 a1.toNatClampNeg))) else (ld_ck (ld_g a1 2) (ld_ck (ld_g ((10 * a1) + (Z 78 a1.toNatClampNeg)) 20) (ld_ck (ld_g ((10 * a1) + (Z 78 a1.toNatClampNeg)) 20) (if ((((Z 79 a1.toNatClampNeg) + (Z 74 ((10 * a1) + (Z 78 a1.toNatClampNeg)).toNatClampNeg)) + (Z 75 ((10 * a1) + (Z 78 a1.toNatClampNeg)).toNatClampNeg)) : Int32) = (Z 67 12) then (ld_ck (ld_g a1 2) (ld_ck (ld_g a1 2) (if ((Z 73 a1.toNatClampNeg) : Int32) ≤ ((Z 78 a1.toNatClampNeg) + 1) then (kX4_looks_94 a1 (kX4_looks_4 a1 n) Z v2 v3 ((10 * a1) + (Z 78 a1.toNatClampNeg))) else (ld_ck (ld_g (((10 * a1) + (Z 78 a1.toNatClampNeg)) + 1) 20) (if ((Z 76 (((10 * a1) + (Z 78 a1.toNatClampNeg)) + 1).toNatClampNeg) : Int32) = 1 then (kX4_looks_95 a1 (kX4_looks_4 a1 n) Z v2 v3 ((10 * a1) + (Z 78 a1.toNatClampNeg)) 1) else (kX4_looks_94 a1 (kX4_looks_4 a1 n) Z v2 v3 ((10 * a1) + (Z 78 a1.toNatClampNeg)))))))) else (kX4_looks_94 a1 (kX4_looks_4 a1 n) Z v2 v3 ((10 * a1) + (Z 78 a1.toNatClampNeg))))))))))
set_option maxHeartbeats 4000000 in
set_option maxRecDepth 100000 in
theorem bX4_looks_4 {p : Program} {e : Env} {s : State} {m : MethodId} {args : Array Value} {below : List Frame} {meth : Method} {c : Code} (l : Launch) (w : ld_E) (a1 : Int32) {r : Int32 × ld_M} (C : ld_C p l s m args meth c cX4_looks 5 (some .int) wsX4_looks RX4 w) : ∀ (n : Nat) (Z : ld_M) (v2 : Int32) (v3 : Int32), ld_T p l e ({ frames := 2, cells := 0, slots := 0, locals := 50 }) s m args below meth c (MQ below (ld_Q w r.2 s.heap.size (some (.int r.1))) args s 0 0 (ld_A w s.heap.size)) w r (kX4_looks_4 a1 n Z v2 v3) Z 0 0 4 [some (.ref (ld_ad w 67)), some (.int a1), some (.int v2), some (.int v3), none] [] := by
  intro n
  induction n with
  | zero => exact fun _ _ _ h => nomatch h
  | succ n ih =>
    intro Z v2 v3
    refine lj_iload_n C rfl rfl dX4_looks_4 ?_
    refine lj_if_eq C (tgt := 119) dX4_looks_5 (by decide) ?_ ?_
    · refine lj_iload_n C rfl rfl dX4_looks_119 ?_
      exact lj_rb C (by decide) (by decide) dX4_looks_120
    · refine lj_bipush C (v := 10) (by decide) dX4_looks_8 ?_
      refine lj_iload_n C rfl rfl dX4_looks_10 ?_
      refine lj_imul C dX4_looks_11 ?_
      refine lj_aload_n C rfl rfl dX4_looks_12 ?_
      refine lj_get C (i := 67) (kk := 13) (G := (ld_f4 w)) (v := .ref (ld_ad w 78)) (Tb := TX4) (N := 23) (by decide) (fun _ => rfl) rfl inX4_looks_4 (by decide) (List.mem_of_getElem? (i := 1) rfl) rfl rfl dX4_looks_13 ?_
      refine lj_iload_n C rfl rfl dX4_looks_16 ?_
      refine lj_iald C (n := 2) (by decide) (fun _ => rfl) dX4_looks_17 ?_
      refine lj_iadd C dX4_looks_18 ?_
      refine lj_istore C (lv2 := [some (.ref (ld_ad w 67)), some (.int a1), some (.int v2), some (.int v3), some (.int ((10 * a1) + (Z 78 a1.toNatClampNeg)))]) (Nat.le_of_ble_eq_true rfl) rfl dX4_looks_19 ?_
      refine lj_aload_n C rfl rfl dX4_looks_21 ?_
      refine lj_get C (i := 67) (kk := 13) (G := (ld_f4 w)) (v := .ref (ld_ad w 78)) (Tb := TX4) (N := 23) (by decide) (fun _ => rfl) rfl inX4_looks_4 (by decide) (List.mem_of_getElem? (i := 1) rfl) rfl rfl dX4_looks_22 ?_
      refine lj_iload_n C rfl rfl dX4_looks_25 ?_
      refine lj_iald C (n := 2) (by decide) (fun _ => rfl) dX4_looks_26 ?_
      refine lj_iconst C (v := (-1)) (by decide) dX4_looks_27 ?_
      refine lj_icmp_eq C (tgt := 94) dX4_looks_28 (by decide) ?_ ?_
      · exact bX4_looks_94 l w a1 C (kX4_looks_4 a1 n) (fun Z9 u0 u1 => ih Z9 u0 u1) Z v2 v3 ((10 * a1) + (Z 78 a1.toNatClampNeg))
      · refine lj_aload_n C rfl rfl dX4_looks_31 ?_
        refine lj_get C (i := 67) (kk := 14) (G := (ld_f4 w)) (v := .ref (ld_ad w 79)) (Tb := TX4) (N := 23) (by decide) (fun _ => rfl) rfl inX4_looks_4 (by decide) (List.mem_of_getElem? (i := 2) rfl) rfl rfl dX4_looks_32 ?_
        refine lj_iload_n C rfl rfl dX4_looks_35 ?_
        refine lj_iald C (n := 2) (by decide) (fun _ => rfl) dX4_looks_36 ?_
        refine lj_aload_n C rfl rfl dX4_looks_37 ?_
        refine lj_get C (i := 67) (kk := 8) (G := (ld_f4 w)) (v := .ref (ld_ad w 74)) (Tb := TX4) (N := 23) (by decide) (fun _ => rfl) rfl inX4_looks_4 (by decide) (List.mem_of_getElem? (i := 3) rfl) rfl rfl dX4_looks_38 ?_
        refine lj_iload C rfl dX4_looks_41 ?_
        refine lj_iald C (n := 20) (by decide) (fun _ => rfl) dX4_looks_43 ?_
        refine lj_iadd C dX4_looks_44 ?_
        refine lj_aload_n C rfl rfl dX4_looks_45 ?_
        refine lj_get C (i := 67) (kk := 9) (G := (ld_f4 w)) (v := .ref (ld_ad w 75)) (Tb := TX4) (N := 23) (by decide) (fun _ => rfl) rfl inX4_looks_4 (by decide) (List.mem_of_getElem? (i := 4) rfl) rfl rfl dX4_looks_46 ?_
        refine lj_iload C rfl dX4_looks_49 ?_
        refine lj_iald C (n := 20) (by decide) (fun _ => rfl) dX4_looks_51 ?_
        refine lj_iadd C dX4_looks_52 ?_
        refine lj_aload_n C rfl rfl dX4_looks_53 ?_
        refine lj_get C (i := 67) (kk := 12) (G := (ld_f4 w)) (v := .int (Z 67 12)) (Tb := TX4) (N := 23) (by decide) (fun _ => rfl) rfl inX4_looks_4 (by decide) (List.mem_of_getElem? (i := 5) rfl) rfl rfl dX4_looks_54 ?_
        refine lj_icmp_ne C (tgt := 94) dX4_looks_57 (by decide) ?_ ?_
        · exact bX4_looks_94 l w a1 C (kX4_looks_4 a1 n) (fun Z9 u0 u1 => ih Z9 u0 u1) Z v2 v3 ((10 * a1) + (Z 78 a1.toNatClampNeg))
        · refine lj_aload_n C rfl rfl dX4_looks_60 ?_
          refine lj_get C (i := 67) (kk := 13) (G := (ld_f4 w)) (v := .ref (ld_ad w 78)) (Tb := TX4) (N := 23) (by decide) (fun _ => rfl) rfl inX4_looks_4 (by decide) (List.mem_of_getElem? (i := 1) rfl) rfl rfl dX4_looks_61 ?_
          refine lj_iload_n C rfl rfl dX4_looks_64 ?_
          refine lj_iald C (n := 2) (by decide) (fun _ => rfl) dX4_looks_65 ?_
          refine lj_iconst C (v := 1) (by decide) dX4_looks_66 ?_
          refine lj_iadd C dX4_looks_67 ?_
          refine lj_aload_n C rfl rfl dX4_looks_68 ?_
          refine lj_get C (i := 67) (kk := 7) (G := (ld_f4 w)) (v := .ref (ld_ad w 73)) (Tb := TX4) (N := 23) (by decide) (fun _ => rfl) rfl inX4_looks_4 (by decide) (List.mem_of_getElem? (i := 6) rfl) rfl rfl dX4_looks_69 ?_
          refine lj_iload_n C rfl rfl dX4_looks_72 ?_
          refine lj_iald C (n := 2) (by decide) (fun _ => rfl) dX4_looks_73 ?_
          refine lj_icmp_ge C (tgt := 94) dX4_looks_74 (by decide) ?_ ?_
          · exact bX4_looks_94 l w a1 C (kX4_looks_4 a1 n) (fun Z9 u0 u1 => ih Z9 u0 u1) Z v2 v3 ((10 * a1) + (Z 78 a1.toNatClampNeg))
          · refine lj_aload_n C rfl rfl dX4_looks_77 ?_
            refine lj_get C (i := 67) (kk := 10) (G := (ld_f4 w)) (v := .ref (ld_ad w 76)) (Tb := TX4) (N := 23) (by decide) (fun _ => rfl) rfl inX4_looks_4 (by decide) (List.mem_of_getElem? (i := 7) rfl) rfl rfl dX4_looks_78 ?_
            refine lj_iload C rfl dX4_looks_81 ?_
            refine lj_iconst C (v := 1) (by decide) dX4_looks_83 ?_
            refine lj_iadd C dX4_looks_84 ?_
            refine lj_iald C (n := 20) (by decide) (fun _ => rfl) dX4_looks_85 ?_
            refine lj_iconst C (v := 1) (by decide) dX4_looks_86 ?_
            refine lj_icmp_ne C (tgt := 94) dX4_looks_87 (by decide) ?_ ?_
            · exact bX4_looks_94 l w a1 C (kX4_looks_4 a1 n) (fun Z9 u0 u1 => ih Z9 u0 u1) Z v2 v3 ((10 * a1) + (Z 78 a1.toNatClampNeg))
            · refine lj_iconst C (v := 1) (by decide) dX4_looks_90 ?_
              refine lj_goto C (tgt := 95) dX4_looks_91 (by decide) ?_
              exact bX4_looks_95 l w a1 C (kX4_looks_4 a1 n) (fun Z9 u0 u1 => ih Z9 u0 u1) Z v2 v3 ((10 * a1) + (Z 78 a1.toNatClampNeg)) 1
def kX4_looks (Z : ld_M) (a1 : Int32) : Option (Int32 × ld_M) := kX4_looks_4 a1 ld_fu Z 0 1
set_option maxHeartbeats 4000000 in
set_option maxRecDepth 100000 in
theorem zX4_looks (l : Launch) (w : ld_E) (Z : ld_M) (a1 : Int32)  {r : Int32 × ld_M} (hr : kX4_looks Z a1 = some r) (sz : Nat) : Met l yX4_looks wsX4_looks ({ frames := 2, cells := 0, slots := 0, locals := 50 }) (ld_Pc w Z sz [.ref (ld_ad w 67), .int a1]) (ld_Q w r.2 sz (some (.int r.1))) 0 0 (ld_A w sz) := by
  refine ld_ofW (ws := wsX4_looks) (Qc := fun sz9 => ld_Q w r.2 sz9 (some (.int r.1))) RX4 (by decide +kernel) rfl rfl (by simp [Value.category]) (Nat.le_of_ble_eq_true rfl) sz ?_
  intro p e s m args below meth c C
  revert hr
  show ld_T p l e ({ frames := 2, cells := 0, slots := 0, locals := 50 }) s m args below meth c (MQ below (ld_Q w r.2 s.heap.size (some (.int r.1))) args s 0 0 (ld_A w s.heap.size)) w r (kX4_looks Z a1) Z 0 0 0 [some (.ref (ld_ad w 67)), some (.int a1), none, none, none] []
  unfold kX4_looks
  refine lj_iconst C (v := 0) (by decide) dX4_looks_0 ?_
  refine lj_istore_n C rfl (lv2 := [some (.ref (ld_ad w 67)), some (.int a1), some (.int 0), none, none]) (Nat.le_of_ble_eq_true rfl) rfl dX4_looks_1 ?_
  refine lj_iconst C (v := 1) (by decide) dX4_looks_2 ?_
  refine lj_istore_n C rfl (lv2 := [some (.ref (ld_ad w 67)), some (.int a1), some (.int 0), some (.int 1), none]) (Nat.le_of_ble_eq_true rfl) rfl dX4_looks_3 ?_
  exact bX4_looks_4 l w a1 C ld_fu Z 0 1
theorem inX4_go_4 : ∀ q ∈ u_ws RX4 TX4 23, q ∈ wsX4_go := fun _ h => List.mem_cons_of_mem _ (List.mem_append_right _ h)
def kX4_go_83 (a1 : Int32) (a2 : Int32) (k : ld_M → Int32 → Int32 → Option (Int32 × ld_M)) (Z : ld_M) (v3 : Int32) (v4 : Int32) (t0 : Int32) (t1 : Int32) : Option (Int32 × ld_M) := k Z (t1 + t0) (v4 + 1)
set_option maxHeartbeats 4000000 in
set_option maxRecDepth 100000 in
theorem bX4_go_83 {p : Program} {e : Env} {s : State} {m : MethodId} {args : Array Value} {below : List Frame} {meth : Method} {c : Code} (l : Launch) (w : ld_E) (a1 : Int32) (a2 : Int32) {r : Int32 × ld_M} (C : ld_C p l s m args meth c cX4_go 5 (some .int) wsX4_go RX4 w) (k : ld_M → Int32 → Int32 → Option (Int32 × ld_M)) (hk : ∀ (Z : ld_M) (u0 : Int32) (u1 : Int32), ld_T p l e ({ frames := 3, cells := 0, slots := 0, locals := 74 }) s m args below meth c (MQ below (ld_Q w r.2 s.heap.size (some (.int r.1))) args s 0 0 (ld_A w s.heap.size)) w r (k Z u0 u1) Z 0 0 50 [some (.ref (ld_ad w 67)), some (.int a1), some (.int a2), some (.int u0), some (.int u1)] []) (Z : ld_M) (v3 : Int32) (v4 : Int32) (t0 : Int32) (t1 : Int32) : ld_T p l e ({ frames := 3, cells := 0, slots := 0, locals := 74 }) s m args below meth c (MQ below (ld_Q w r.2 s.heap.size (some (.int r.1))) args s 0 0 (ld_A w s.heap.size)) w r (kX4_go_83 a1 a2 k Z v3 v4 t0 t1) Z 0 0 83 [some (.ref (ld_ad w 67)), some (.int a1), some (.int a2), some (.int v3), some (.int v4)] [.int t0, .int t1] := by
  unfold kX4_go_83
  refine lj_iadd C dX4_go_83 ?_
  refine lj_istore_n C rfl (lv2 := [some (.ref (ld_ad w 67)), some (.int a1), some (.int a2), some (.int (t1 + t0)), some (.int v4)]) (Nat.le_of_ble_eq_true rfl) rfl dX4_go_84 ?_
  refine lj_iinc C (i := 4) (v := (v4 + 1)) (lv2 := [some (.ref (ld_ad w 67)), some (.int a1), some (.int a2), some (.int (t1 + t0)), some (.int (v4 + 1))]) rfl rfl rfl dX4_go_85 ?_
  refine lj_goto C (tgt := 50) dX4_go_88 (by decide) ?_
  exact hk Z (t1 + t0) (v4 + 1)
def kX4_go_50 (a1 : Int32) (a2 : Int32) : Nat → ld_M → Int32 → Int32 → Option (Int32 × ld_M)
  | 0, _, _, _ => none
  | n + 1, Z, v3, v4 => if (12 : Int32) ≤ v4 then (ld_bd (kX4_begins Z a1 a2) (fun x94 => ld_bd (kX4_looks x94 a1) (fun x99 => some (v3, x99.2)))) else (ld_ck (ld_g ((12 * ((10 * a1) + a2)) + v4) 240) (if ((Z 77 ((12 * ((10 * a1) + a2)) + v4).toNatClampNeg) : Int32) ≤ 0 then (kX4_go_83 a1 a2 (kX4_go_50 a1 a2 n) Z v3 v4 0 v3) else (kX4_go_83 a1 a2 (kX4_go_50 a1 a2 n) Z v3 v4 1 v3)))
set_option maxHeartbeats 4000000 in
set_option maxRecDepth 100000 in
theorem bX4_go_50 {p : Program} {e : Env} {s : State} {m : MethodId} {args : Array Value} {below : List Frame} {meth : Method} {c : Code} (l : Launch) (w : ld_E) (a1 : Int32) (a2 : Int32) {r : Int32 × ld_M} (C : ld_C p l s m args meth c cX4_go 5 (some .int) wsX4_go RX4 w) : ∀ (n : Nat) (Z : ld_M) (v3 : Int32) (v4 : Int32), ld_T p l e ({ frames := 3, cells := 0, slots := 0, locals := 74 }) s m args below meth c (MQ below (ld_Q w r.2 s.heap.size (some (.int r.1))) args s 0 0 (ld_A w s.heap.size)) w r (kX4_go_50 a1 a2 n Z v3 v4) Z 0 0 50 [some (.ref (ld_ad w 67)), some (.int a1), some (.int a2), some (.int v3), some (.int v4)] [] := by
  intro n
  induction n with
  | zero => exact fun _ _ _ h => nomatch h
  | succ n ih =>
    intro Z v3 v4
    refine lj_iload C rfl dX4_go_50 ?_
    refine lj_bipush C (v := 12) (by decide) dX4_go_52 ?_
    refine lj_icmp_ge C (tgt := 91) dX4_go_54 (by decide) ?_ ?_
    · refine lj_aload_n C rfl rfl dX4_go_91 ?_
      refine lj_iload_n C rfl rfl dX4_go_92 ?_
      refine lj_iload_n C rfl rfl dX4_go_93 ?_
      refine lj_cVv C (As := [.int a1, .int a2]) (rest := []) (i := 67) (ci := 4) (Cn := RX4) (Tb := TX4) (N := 23) (fs := (ld_f4 w) (Z 67)) (fun sz x hx => zX4_begins l w Z a1 a2 hx sz) (cwV 2 C.2.2.2.2.1 gX4_go_X4_begins rfl rfl rfl (by decide +kernel) ⟨Nat.le_of_ble_eq_true rfl, Nat.le_of_ble_eq_true rfl⟩) (by decide) ((fun _ => rfl) _) rfl rfl rfl rfl (Nat.le_of_ble_eq_true rfl) ⟨Nat.le_of_ble_eq_true rfl, Nat.le_of_ble_eq_true rfl⟩ dX4_go_94 (fun x94 hx94 => ?_)
      refine lj_aload_n C rfl rfl dX4_go_97 ?_
      refine lj_iload_n C rfl rfl dX4_go_98 ?_
      refine lj_cVb C (As := [.int a1]) (rest := []) (i := 67) (ci := 4) (Cn := RX4) (Tb := TX4) (N := 23) (fs := (ld_f4 w) (x94 67)) (fun sz x hx => zX4_looks l w x94 a1 hx sz) (cwV 1 C.2.2.2.2.1 gX4_go_X4_looks rfl rfl rfl (by decide +kernel) ⟨Nat.le_of_ble_eq_true rfl, Nat.le_of_ble_eq_true rfl⟩) (by decide) ((fun _ => rfl) _) rfl rfl rfl rfl (Nat.le_of_ble_eq_true rfl) ⟨Nat.le_of_ble_eq_true rfl, Nat.le_of_ble_eq_true rfl⟩ dX4_go_99 (fun x99 hx99 => ?_)
      refine lj_pop C rfl dX4_go_102 ?_
      refine lj_iload_n C rfl rfl dX4_go_103 ?_
      exact lj_rb C (by decide) (by decide) dX4_go_104
    · refine lj_iload_n C rfl rfl dX4_go_57 ?_
      refine lj_aload_n C rfl rfl dX4_go_58 ?_
      refine lj_get C (i := 67) (kk := 11) (G := (ld_f4 w)) (v := .ref (ld_ad w 77)) (Tb := TX4) (N := 23) (by decide) (fun _ => rfl) rfl inX4_go_4 (by decide) (List.mem_of_getElem? (i := 3) rfl) rfl rfl dX4_go_59 ?_
      refine lj_bipush C (v := 12) (by decide) dX4_go_62 ?_
      refine lj_bipush C (v := 10) (by decide) dX4_go_64 ?_
      refine lj_iload_n C rfl rfl dX4_go_66 ?_
      refine lj_imul C dX4_go_67 ?_
      refine lj_iload_n C rfl rfl dX4_go_68 ?_
      refine lj_iadd C dX4_go_69 ?_
      refine lj_imul C dX4_go_70 ?_
      refine lj_iload C rfl dX4_go_71 ?_
      refine lj_iadd C dX4_go_73 ?_
      refine lj_iald C (n := 240) (by decide) (fun _ => rfl) dX4_go_74 ?_
      refine lj_if_le C (tgt := 82) dX4_go_75 (by decide) ?_ ?_
      · refine lj_iconst C (v := 0) (by decide) dX4_go_82 ?_
        exact bX4_go_83 l w a1 a2 C (kX4_go_50 a1 a2 n) (fun Z9 u0 u1 => ih Z9 u0 u1) Z v3 v4 0 v3
      · refine lj_iconst C (v := 1) (by decide) dX4_go_78 ?_
        refine lj_goto C (tgt := 83) dX4_go_79 (by decide) ?_
        exact bX4_go_83 l w a1 a2 C (kX4_go_50 a1 a2 n) (fun Z9 u0 u1 => ih Z9 u0 u1) Z v3 v4 1 v3
def kX4_go_33 (a1 : Int32) (a2 : Int32) (Z : ld_M) (t0 : Int32) : Option (Int32 × ld_M) := if (((ld_up Z 67 22 t0) 67 22) : Int32) ≤ 0 then (kX4_go_50 a1 a2 ld_fu (ld_up Z 67 22 t0) 0 0) else (some (0, (ld_up Z 67 22 t0)))
set_option maxHeartbeats 4000000 in
set_option maxRecDepth 100000 in
theorem bX4_go_33 {p : Program} {e : Env} {s : State} {m : MethodId} {args : Array Value} {below : List Frame} {meth : Method} {c : Code} (l : Launch) (w : ld_E) (a1 : Int32) (a2 : Int32) {r : Int32 × ld_M} (C : ld_C p l s m args meth c cX4_go 5 (some .int) wsX4_go RX4 w) (Z : ld_M) (t0 : Int32) : ld_T p l e ({ frames := 3, cells := 0, slots := 0, locals := 74 }) s m args below meth c (MQ below (ld_Q w r.2 s.heap.size (some (.int r.1))) args s 0 0 (ld_A w s.heap.size)) w r (kX4_go_33 a1 a2 Z t0) Z 0 0 33 [some (.ref (ld_ad w 67)), some (.int a1), some (.int a2), none, none] [.int t0, .ref (ld_ad w 67)] := by
  unfold kX4_go_33
  refine lj_put C (i := 67) (kk := 22) (G := (ld_f4 w)) (Tb := TX4) (N := 23) (by decide) (fun _ => rfl) rfl inX4_go_4 (by decide) (List.mem_of_getElem? (i := 2) rfl) rfl tyX4 tyX4_ok nmX4 rfl (by decide +kernel) (Nat.le_of_ble_eq_true rfl) rfl dX4_go_33 ?_
  refine lj_aload_n C rfl rfl dX4_go_36 ?_
  refine lj_get C (i := 67) (kk := 22) (G := (ld_f4 w)) (v := .int ((ld_up Z 67 22 t0) 67 22)) (Tb := TX4) (N := 23) (by decide) (fun _ => rfl) rfl inX4_go_4 (by decide) (List.mem_of_getElem? (i := 2) rfl) rfl rfl dX4_go_37 ?_
  refine lj_if_le C (tgt := 45) dX4_go_40 (by decide) ?_ ?_
  · refine lj_iconst C (v := 0) (by decide) dX4_go_45 ?_
    refine lj_istore_n C rfl (lv2 := [some (.ref (ld_ad w 67)), some (.int a1), some (.int a2), some (.int 0), none]) (Nat.le_of_ble_eq_true rfl) rfl dX4_go_46 ?_
    refine lj_iconst C (v := 0) (by decide) dX4_go_47 ?_
    refine lj_istore C (lv2 := [some (.ref (ld_ad w 67)), some (.int a1), some (.int a2), some (.int 0), some (.int 0)]) (Nat.le_of_ble_eq_true rfl) rfl dX4_go_48 ?_
    exact bX4_go_50 l w a1 a2 C ld_fu (ld_up Z 67 22 t0) 0 0
  · refine lj_iconst C (v := 0) (by decide) dX4_go_43 ?_
    exact lj_rb C (by decide) (by decide) dX4_go_44
def kX4_go (Z : ld_M) (a1 : Int32) (a2 : Int32) : Option (Int32 × ld_M) := ld_bd (kX4_isList Z a1) (fun x2 => if (x2 : Int32) = 0 then (kX4_go_33 a1 a2 Z 1) else (ld_ck (ld_g a1 2) (ld_bd (kX4_in Z a2 0 ((Z 73 a1.toNatClampNeg) - 1)) (fun x22 => if (x22 : Int32) = 0 then (kX4_go_33 a1 a2 Z 2) else (kX4_go_33 a1 a2 Z 0)))))
set_option maxHeartbeats 4000000 in
set_option maxRecDepth 100000 in
theorem zX4_go (l : Launch) (w : ld_E) (Z : ld_M) (a1 : Int32) (a2 : Int32)  {r : Int32 × ld_M} (hr : kX4_go Z a1 a2 = some r) (sz : Nat) : Met l yX4_go wsX4_go ({ frames := 3, cells := 0, slots := 0, locals := 74 }) (ld_Pc w Z sz [.ref (ld_ad w 67), .int a1, .int a2]) (ld_Q w r.2 sz (some (.int r.1))) 0 0 (ld_A w sz) := by
  refine ld_ofW (ws := wsX4_go) (Qc := fun sz9 => ld_Q w r.2 sz9 (some (.int r.1))) RX4 (by decide +kernel) rfl rfl (by simp [Value.category]) (Nat.le_of_ble_eq_true rfl) sz ?_
  intro p e s m args below meth c C
  revert hr
  show ld_T p l e ({ frames := 3, cells := 0, slots := 0, locals := 74 }) s m args below meth c (MQ below (ld_Q w r.2 s.heap.size (some (.int r.1))) args s 0 0 (ld_A w s.heap.size)) w r (kX4_go Z a1 a2) Z 0 0 0 [some (.ref (ld_ad w 67)), some (.int a1), some (.int a2), none, none] []
  unfold kX4_go
  refine lj_aload_n C rfl rfl dX4_go_0 ?_
  refine lj_iload_n C rfl rfl dX4_go_1 ?_
  refine lj_cSa C (As := [.int a1]) (rest := [.ref (ld_ad w 67)]) (fun sz x hx => zX4_isList l w Z a1 hx sz) (va_cwS 1 C.2.2.2.2.1 gX4_go_X4_isList rfl rfl rfl (by decide +kernel) ⟨Nat.le_of_ble_eq_true rfl, Nat.le_of_ble_eq_true rfl⟩) rfl rfl rfl (Nat.le_of_ble_eq_true rfl) ⟨Nat.le_of_ble_eq_true rfl, Nat.le_of_ble_eq_true rfl⟩ dX4_go_2 (fun x2 hx2 => ?_)
  refine lj_if_ne C (tgt := 12) dX4_go_5 (by decide) ?_ ?_
  · refine lj_iload_n C rfl rfl dX4_go_12 ?_
    refine lj_iconst C (v := 0) (by decide) dX4_go_13 ?_
    refine lj_aload_n C rfl rfl dX4_go_14 ?_
    refine lj_get C (i := 67) (kk := 7) (G := (ld_f4 w)) (v := .ref (ld_ad w 73)) (Tb := TX4) (N := 23) (by decide) (fun _ => rfl) rfl inX4_go_4 (by decide) (List.mem_of_getElem? (i := 1) rfl) rfl rfl dX4_go_15 ?_
    refine lj_iload_n C rfl rfl dX4_go_18 ?_
    refine lj_iald C (n := 2) (by decide) (fun _ => rfl) dX4_go_19 ?_
    refine lj_iconst C (v := 1) (by decide) dX4_go_20 ?_
    refine lj_isub C dX4_go_21 ?_
    refine lj_cSa C (As := [.int a2, .int 0, .int ((Z 73 a1.toNatClampNeg) - 1)]) (rest := [.ref (ld_ad w 67)]) (fun sz x hx => zX4_in l w Z a2 0 ((Z 73 a1.toNatClampNeg) - 1) hx sz) (va_cwS 3 C.2.2.2.2.1 gX4_go_X4_in rfl rfl rfl (by decide +kernel) ⟨Nat.le_of_ble_eq_true rfl, Nat.le_of_ble_eq_true rfl⟩) rfl rfl rfl (Nat.le_of_ble_eq_true rfl) ⟨Nat.le_of_ble_eq_true rfl, Nat.le_of_ble_eq_true rfl⟩ dX4_go_22 (fun x22 hx22 => ?_)
    refine lj_if_ne C (tgt := 32) dX4_go_25 (by decide) ?_ ?_
    · refine lj_iconst C (v := 0) (by decide) dX4_go_32 ?_
      exact bX4_go_33 l w a1 a2 C Z 0
    · refine lj_iconst C (v := 2) (by decide) dX4_go_28 ?_
      refine lj_goto C (tgt := 33) dX4_go_29 (by decide) ?_
      exact bX4_go_33 l w a1 a2 C Z 2
  · refine lj_iconst C (v := 1) (by decide) dX4_go_8 ?_
    refine lj_goto C (tgt := 33) dX4_go_9 (by decide) ?_
    exact bX4_go_33 l w a1 a2 C Z 1
theorem inX4_pass_4 : ∀ q ∈ u_ws RX4 TX4 23, q ∈ wsX4_pass := fun _ h => List.mem_cons_of_mem _ (List.mem_append_right _ h)
def kX4_pass_68 (a1 : Int32) (Z : ld_M) (v2 : Int32) (v3 : Int32) : Option (Int32 × ld_M) := some (v2, Z)
set_option maxHeartbeats 4000000 in
set_option maxRecDepth 100000 in
theorem bX4_pass_68 {p : Program} {e : Env} {s : State} {m : MethodId} {args : Array Value} {below : List Frame} {meth : Method} {c : Code} (l : Launch) (w : ld_E) (a1 : Int32) {r : Int32 × ld_M} (C : ld_C p l s m args meth c cX4_pass 4 (some .int) wsX4_pass RX4 w) (Z : ld_M) (v2 : Int32) (v3 : Int32) : ld_T p l e ({ frames := 3, cells := 0, slots := 0, locals := 74 }) s m args below meth c (MQ below (ld_Q w r.2 s.heap.size (some (.int r.1))) args s 0 0 (ld_A w s.heap.size)) w r (kX4_pass_68 a1 Z v2 v3) Z 0 0 68 [some (.ref (ld_ad w 67)), some (.int a1), some (.int v2), some (.int v3)] [] := by
  unfold kX4_pass_68
  refine lj_iload_n C rfl rfl dX4_pass_68 ?_
  exact lj_rb C (by decide) (by decide) dX4_pass_69
def kX4_pass_24 (a1 : Int32) : Nat → ld_M → Int32 → Int32 → Option (Int32 × ld_M)
  | 0, _, _, _ => none
  | n + 1, Z, v2, v3 => if (a1 : Int32) ≤ v3 then (kX4_pass_68 a1 Z v2 v3) else (if ((Z 67 22) : Int32) = 0 then (ld_bd (kX4_looks (ld_up Z 67 12 ((Z 67 12) + 1)) 0) (fun x49 => ld_bd (kX4_looks x49.2 1) (fun x57 => kX4_pass_24 a1 n x57.2 ((v2 + x49.1) + x57.1) (v3 + 1)))) else (kX4_pass_68 a1 Z v2 v3))
set_option maxHeartbeats 4000000 in
set_option maxRecDepth 100000 in
theorem bX4_pass_24 {p : Program} {e : Env} {s : State} {m : MethodId} {args : Array Value} {below : List Frame} {meth : Method} {c : Code} (l : Launch) (w : ld_E) (a1 : Int32) {r : Int32 × ld_M} (C : ld_C p l s m args meth c cX4_pass 4 (some .int) wsX4_pass RX4 w) : ∀ (n : Nat) (Z : ld_M) (v2 : Int32) (v3 : Int32), ld_T p l e ({ frames := 3, cells := 0, slots := 0, locals := 74 }) s m args below meth c (MQ below (ld_Q w r.2 s.heap.size (some (.int r.1))) args s 0 0 (ld_A w s.heap.size)) w r (kX4_pass_24 a1 n Z v2 v3) Z 0 0 24 [some (.ref (ld_ad w 67)), some (.int a1), some (.int v2), some (.int v3)] [] := by
  intro n
  induction n with
  | zero => exact fun _ _ _ h => nomatch h
  | succ n ih =>
    intro Z v2 v3
    refine lj_iload_n C rfl rfl dX4_pass_24 ?_
    refine lj_iload_n C rfl rfl dX4_pass_25 ?_
    refine lj_icmp_ge C (tgt := 68) dX4_pass_26 (by decide) ?_ ?_
    · exact bX4_pass_68 l w a1 C Z v2 v3
    · refine lj_aload_n C rfl rfl dX4_pass_29 ?_
      refine lj_get C (i := 67) (kk := 22) (G := (ld_f4 w)) (v := .int (Z 67 22)) (Tb := TX4) (N := 23) (by decide) (fun _ => rfl) rfl inX4_pass_4 (by decide) (List.mem_of_getElem? (i := 1) rfl) rfl rfl dX4_pass_30 ?_
      refine lj_if_ne C (tgt := 68) dX4_pass_33 (by decide) ?_ ?_
      · exact bX4_pass_68 l w a1 C Z v2 v3
      · refine lj_aload_n C rfl rfl dX4_pass_36 ?_
        refine lj_dup C rfl dX4_pass_37 ?_
        refine lj_get C (i := 67) (kk := 12) (G := (ld_f4 w)) (v := .int (Z 67 12)) (Tb := TX4) (N := 23) (by decide) (fun _ => rfl) rfl inX4_pass_4 (by decide) (List.mem_of_getElem? (i := 2) rfl) rfl rfl dX4_pass_38 ?_
        refine lj_iconst C (v := 1) (by decide) dX4_pass_41 ?_
        refine lj_iadd C dX4_pass_42 ?_
        refine lj_put C (i := 67) (kk := 12) (G := (ld_f4 w)) (Tb := TX4) (N := 23) (by decide) (fun _ => rfl) rfl inX4_pass_4 (by decide) (List.mem_of_getElem? (i := 2) rfl) rfl tyX4 tyX4_ok nmX4 rfl (by decide +kernel) (Nat.le_of_ble_eq_true rfl) rfl dX4_pass_43 ?_
        refine lj_iload_n C rfl rfl dX4_pass_46 ?_
        refine lj_aload_n C rfl rfl dX4_pass_47 ?_
        refine lj_iconst C (v := 0) (by decide) dX4_pass_48 ?_
        refine lj_cVb C (As := [.int 0]) (rest := [.int v2]) (i := 67) (ci := 4) (Cn := RX4) (Tb := TX4) (N := 23) (fs := (ld_f4 w) ((ld_up Z 67 12 ((Z 67 12) + 1)) 67)) (fun sz x hx => zX4_looks l w (ld_up Z 67 12 ((Z 67 12) + 1)) 0 hx sz) (cwV 1 C.2.2.2.2.1 gX4_pass_X4_looks rfl rfl rfl (by decide +kernel) ⟨Nat.le_of_ble_eq_true rfl, Nat.le_of_ble_eq_true rfl⟩) (by decide) ((fun _ => rfl) _) rfl rfl rfl rfl (Nat.le_of_ble_eq_true rfl) ⟨Nat.le_of_ble_eq_true rfl, Nat.le_of_ble_eq_true rfl⟩ dX4_pass_49 (fun x49 hx49 => ?_)
        refine lj_iadd C dX4_pass_52 ?_
        refine lj_istore_n C rfl (lv2 := [some (.ref (ld_ad w 67)), some (.int a1), some (.int (v2 + x49.1)), some (.int v3)]) (Nat.le_of_ble_eq_true rfl) rfl dX4_pass_53 ?_
        refine lj_iload_n C rfl rfl dX4_pass_54 ?_
        refine lj_aload_n C rfl rfl dX4_pass_55 ?_
        refine lj_iconst C (v := 1) (by decide) dX4_pass_56 ?_
        refine lj_cVb C (As := [.int 1]) (rest := [.int (v2 + x49.1)]) (i := 67) (ci := 4) (Cn := RX4) (Tb := TX4) (N := 23) (fs := (ld_f4 w) (x49.2 67)) (fun sz x hx => zX4_looks l w x49.2 1 hx sz) (cwV 1 C.2.2.2.2.1 gX4_pass_X4_looks rfl rfl rfl (by decide +kernel) ⟨Nat.le_of_ble_eq_true rfl, Nat.le_of_ble_eq_true rfl⟩) (by decide) ((fun _ => rfl) _) rfl rfl rfl rfl (Nat.le_of_ble_eq_true rfl) ⟨Nat.le_of_ble_eq_true rfl, Nat.le_of_ble_eq_true rfl⟩ dX4_pass_57 (fun x57 hx57 => ?_)
        refine lj_iadd C dX4_pass_60 ?_
        refine lj_istore_n C rfl (lv2 := [some (.ref (ld_ad w 67)), some (.int a1), some (.int ((v2 + x49.1) + x57.1)), some (.int v3)]) (Nat.le_of_ble_eq_true rfl) rfl dX4_pass_61 ?_
        refine lj_iinc C (i := 3) (v := (v3 + 1)) (lv2 := [some (.ref (ld_ad w 67)), some (.int a1), some (.int ((v2 + x49.1) + x57.1)), some (.int (v3 + 1))]) rfl rfl rfl dX4_pass_62 ?_
        refine lj_goto C (tgt := 24) dX4_pass_65 (by decide) ?_
        exact ih x57.2 ((v2 + x49.1) + x57.1) (v3 + 1)
def kX4_pass_17 (a1 : Int32) (Z : ld_M) (t0 : Int32) : Option (Int32 × ld_M) := kX4_pass_24 a1 ld_fu (ld_up Z 67 22 t0) 0 0
set_option maxHeartbeats 4000000 in
set_option maxRecDepth 100000 in
theorem bX4_pass_17 {p : Program} {e : Env} {s : State} {m : MethodId} {args : Array Value} {below : List Frame} {meth : Method} {c : Code} (l : Launch) (w : ld_E) (a1 : Int32) {r : Int32 × ld_M} (C : ld_C p l s m args meth c cX4_pass 4 (some .int) wsX4_pass RX4 w) (Z : ld_M) (t0 : Int32) : ld_T p l e ({ frames := 3, cells := 0, slots := 0, locals := 74 }) s m args below meth c (MQ below (ld_Q w r.2 s.heap.size (some (.int r.1))) args s 0 0 (ld_A w s.heap.size)) w r (kX4_pass_17 a1 Z t0) Z 0 0 17 [some (.ref (ld_ad w 67)), some (.int a1), none, none] [.int t0, .ref (ld_ad w 67)] := by
  unfold kX4_pass_17
  refine lj_put C (i := 67) (kk := 22) (G := (ld_f4 w)) (Tb := TX4) (N := 23) (by decide) (fun _ => rfl) rfl inX4_pass_4 (by decide) (List.mem_of_getElem? (i := 1) rfl) rfl tyX4 tyX4_ok nmX4 rfl (by decide +kernel) (Nat.le_of_ble_eq_true rfl) rfl dX4_pass_17 ?_
  refine lj_iconst C (v := 0) (by decide) dX4_pass_20 ?_
  refine lj_istore_n C rfl (lv2 := [some (.ref (ld_ad w 67)), some (.int a1), some (.int 0), none]) (Nat.le_of_ble_eq_true rfl) rfl dX4_pass_21 ?_
  refine lj_iconst C (v := 0) (by decide) dX4_pass_22 ?_
  refine lj_istore_n C rfl (lv2 := [some (.ref (ld_ad w 67)), some (.int a1), some (.int 0), some (.int 0)]) (Nat.le_of_ble_eq_true rfl) rfl dX4_pass_23 ?_
  exact bX4_pass_24 l w a1 C ld_fu (ld_up Z 67 22 t0) 0 0
def kX4_pass (Z : ld_M) (a1 : Int32) : Option (Int32 × ld_M) := ld_bd (kX4_in Z a1 1 1000) (fun x6 => if (x6 : Int32) = 0 then (kX4_pass_17 a1 Z 1) else (kX4_pass_17 a1 Z 0))
set_option maxHeartbeats 4000000 in
set_option maxRecDepth 100000 in
theorem zX4_pass (l : Launch) (w : ld_E) (Z : ld_M) (a1 : Int32)  {r : Int32 × ld_M} (hr : kX4_pass Z a1 = some r) (sz : Nat) : Met l yX4_pass wsX4_pass ({ frames := 3, cells := 0, slots := 0, locals := 74 }) (ld_Pc w Z sz [.ref (ld_ad w 67), .int a1]) (ld_Q w r.2 sz (some (.int r.1))) 0 0 (ld_A w sz) := by
  refine ld_ofW (ws := wsX4_pass) (Qc := fun sz9 => ld_Q w r.2 sz9 (some (.int r.1))) RX4 (by decide +kernel) rfl rfl (by simp [Value.category]) (Nat.le_of_ble_eq_true rfl) sz ?_
  intro p e s m args below meth c C
  revert hr
  show ld_T p l e ({ frames := 3, cells := 0, slots := 0, locals := 74 }) s m args below meth c (MQ below (ld_Q w r.2 s.heap.size (some (.int r.1))) args s 0 0 (ld_A w s.heap.size)) w r (kX4_pass Z a1) Z 0 0 0 [some (.ref (ld_ad w 67)), some (.int a1), none, none] []
  unfold kX4_pass
  refine lj_aload_n C rfl rfl dX4_pass_0 ?_
  refine lj_iload_n C rfl rfl dX4_pass_1 ?_
  refine lj_iconst C (v := 1) (by decide) dX4_pass_2 ?_
  refine lj_sipush C (v := 1000) (by decide) dX4_pass_3 ?_
  refine lj_cSa C (As := [.int a1, .int 1, .int 1000]) (rest := [.ref (ld_ad w 67)]) (fun sz x hx => zX4_in l w Z a1 1 1000 hx sz) (va_cwS 3 C.2.2.2.2.1 gX4_pass_X4_in rfl rfl rfl (by decide +kernel) ⟨Nat.le_of_ble_eq_true rfl, Nat.le_of_ble_eq_true rfl⟩) rfl rfl rfl (Nat.le_of_ble_eq_true rfl) ⟨Nat.le_of_ble_eq_true rfl, Nat.le_of_ble_eq_true rfl⟩ dX4_pass_6 (fun x6 hx6 => ?_)
  refine lj_if_eq C (tgt := 16) dX4_pass_9 (by decide) ?_ ?_
  · refine lj_iconst C (v := 1) (by decide) dX4_pass_16 ?_
    exact bX4_pass_17 l w a1 C Z 1
  · refine lj_iconst C (v := 0) (by decide) dX4_pass_12 ?_
    refine lj_goto C (tgt := 17) dX4_pass_13 (by decide) ?_
    exact bX4_pass_17 l w a1 C Z 0
theorem inX4_running_4 : ∀ q ∈ u_ws RX4 TX4 23, q ∈ wsX4_running := fun _ h => List.mem_cons_of_mem _ (List.mem_append_right _ h)
def kX4_running_33 (a1 : Int32) (Z : ld_M) (t0 : Int32) : Option (Int32 × ld_M) := some (t0, Z)
set_option maxHeartbeats 4000000 in
set_option maxRecDepth 100000 in
theorem bX4_running_33 {p : Program} {e : Env} {s : State} {m : MethodId} {args : Array Value} {below : List Frame} {meth : Method} {c : Code} (l : Launch) (w : ld_E) (a1 : Int32) {r : Int32 × ld_M} (C : ld_C p l s m args meth c cX4_running 2 (some .int) wsX4_running RX4 w) (Z : ld_M) (t0 : Int32) : ld_T p l e ({ frames := 2, cells := 0, slots := 0, locals := 42 }) s m args below meth c (MQ below (ld_Q w r.2 s.heap.size (some (.int r.1))) args s 0 0 (ld_A w s.heap.size)) w r (kX4_running_33 a1 Z t0) Z 0 0 33 [some (.ref (ld_ad w 67)), some (.int a1)] [.int t0] := by
  unfold kX4_running_33
  exact lj_rb C (by decide) (by decide) dX4_running_33
def kX4_running_13 (a1 : Int32) (Z : ld_M) (t0 : Int32) : Option (Int32 × ld_M) := if (((ld_up Z 67 22 t0) 67 22) : Int32) = 0 then (ld_ck (ld_g a1 2) (kX4_running_33 a1 (ld_up Z 67 22 t0) ((ld_up Z 67 22 t0) 78 a1.toNatClampNeg))) else (kX4_running_33 a1 (ld_up Z 67 22 t0) 0)
set_option maxHeartbeats 4000000 in
set_option maxRecDepth 100000 in
theorem bX4_running_13 {p : Program} {e : Env} {s : State} {m : MethodId} {args : Array Value} {below : List Frame} {meth : Method} {c : Code} (l : Launch) (w : ld_E) (a1 : Int32) {r : Int32 × ld_M} (C : ld_C p l s m args meth c cX4_running 2 (some .int) wsX4_running RX4 w) (Z : ld_M) (t0 : Int32) : ld_T p l e ({ frames := 2, cells := 0, slots := 0, locals := 42 }) s m args below meth c (MQ below (ld_Q w r.2 s.heap.size (some (.int r.1))) args s 0 0 (ld_A w s.heap.size)) w r (kX4_running_13 a1 Z t0) Z 0 0 13 [some (.ref (ld_ad w 67)), some (.int a1)] [.int t0, .ref (ld_ad w 67)] := by
  unfold kX4_running_13
  refine lj_put C (i := 67) (kk := 22) (G := (ld_f4 w)) (Tb := TX4) (N := 23) (by decide) (fun _ => rfl) rfl inX4_running_4 (by decide) (List.mem_of_getElem? (i := 1) rfl) rfl tyX4 tyX4_ok nmX4 rfl (by decide +kernel) (Nat.le_of_ble_eq_true rfl) rfl dX4_running_13 ?_
  refine lj_aload_n C rfl rfl dX4_running_16 ?_
  refine lj_get C (i := 67) (kk := 22) (G := (ld_f4 w)) (v := .int ((ld_up Z 67 22 t0) 67 22)) (Tb := TX4) (N := 23) (by decide) (fun _ => rfl) rfl inX4_running_4 (by decide) (List.mem_of_getElem? (i := 1) rfl) rfl rfl dX4_running_17 ?_
  refine lj_if_ne C (tgt := 32) dX4_running_20 (by decide) ?_ ?_
  · refine lj_iconst C (v := 0) (by decide) dX4_running_32 ?_
    exact bX4_running_33 l w a1 C (ld_up Z 67 22 t0) 0
  · refine lj_aload_n C rfl rfl dX4_running_23 ?_
    refine lj_get C (i := 67) (kk := 13) (G := (ld_f4 w)) (v := .ref (ld_ad w 78)) (Tb := TX4) (N := 23) (by decide) (fun _ => rfl) rfl inX4_running_4 (by decide) (List.mem_of_getElem? (i := 2) rfl) rfl rfl dX4_running_24 ?_
    refine lj_iload_n C rfl rfl dX4_running_27 ?_
    refine lj_iald C (n := 2) (by decide) (fun _ => rfl) dX4_running_28 ?_
    refine lj_goto C (tgt := 33) dX4_running_29 (by decide) ?_
    exact bX4_running_33 l w a1 C (ld_up Z 67 22 t0) ((ld_up Z 67 22 t0) 78 a1.toNatClampNeg)
def kX4_running (Z : ld_M) (a1 : Int32) : Option (Int32 × ld_M) := ld_bd (kX4_isList Z a1) (fun x2 => if (x2 : Int32) = 0 then (kX4_running_13 a1 Z 1) else (kX4_running_13 a1 Z 0))
set_option maxHeartbeats 4000000 in
set_option maxRecDepth 100000 in
theorem zX4_running (l : Launch) (w : ld_E) (Z : ld_M) (a1 : Int32)  {r : Int32 × ld_M} (hr : kX4_running Z a1 = some r) (sz : Nat) : Met l yX4_running wsX4_running ({ frames := 2, cells := 0, slots := 0, locals := 42 }) (ld_Pc w Z sz [.ref (ld_ad w 67), .int a1]) (ld_Q w r.2 sz (some (.int r.1))) 0 0 (ld_A w sz) := by
  refine ld_ofW (ws := wsX4_running) (Qc := fun sz9 => ld_Q w r.2 sz9 (some (.int r.1))) RX4 (by decide +kernel) rfl rfl (by simp [Value.category]) (Nat.le_of_ble_eq_true rfl) sz ?_
  intro p e s m args below meth c C
  revert hr
  show ld_T p l e ({ frames := 2, cells := 0, slots := 0, locals := 42 }) s m args below meth c (MQ below (ld_Q w r.2 s.heap.size (some (.int r.1))) args s 0 0 (ld_A w s.heap.size)) w r (kX4_running Z a1) Z 0 0 0 [some (.ref (ld_ad w 67)), some (.int a1)] []
  unfold kX4_running
  refine lj_aload_n C rfl rfl dX4_running_0 ?_
  refine lj_iload_n C rfl rfl dX4_running_1 ?_
  refine lj_cSa C (As := [.int a1]) (rest := [.ref (ld_ad w 67)]) (fun sz x hx => zX4_isList l w Z a1 hx sz) (va_cwS 1 C.2.2.2.2.1 gX4_running_X4_isList rfl rfl rfl (by decide +kernel) ⟨Nat.le_of_ble_eq_true rfl, Nat.le_of_ble_eq_true rfl⟩) rfl rfl rfl (Nat.le_of_ble_eq_true rfl) ⟨Nat.le_of_ble_eq_true rfl, Nat.le_of_ble_eq_true rfl⟩ dX4_running_2 (fun x2 hx2 => ?_)
  refine lj_if_eq C (tgt := 12) dX4_running_5 (by decide) ?_ ?_
  · refine lj_iconst C (v := 1) (by decide) dX4_running_12 ?_
    exact bX4_running_13 l w a1 C Z 1
  · refine lj_iconst C (v := 0) (by decide) dX4_running_8 ?_
    refine lj_goto C (tgt := 13) dX4_running_9 (by decide) ?_
    exact bX4_running_13 l w a1 C Z 0
theorem inX4_level_4 : ∀ q ∈ u_ws RX4 TX4 23, q ∈ wsX4_level := fun _ h => List.mem_cons_of_mem _ (List.mem_append_right _ h)
def kX4_level_40 (a1 : Int32) (a2 : Int32) (Z : ld_M) (t0 : Int32) : Option (Int32 × ld_M) := some (t0, Z)
set_option maxHeartbeats 4000000 in
set_option maxRecDepth 100000 in
theorem bX4_level_40 {p : Program} {e : Env} {s : State} {m : MethodId} {args : Array Value} {below : List Frame} {meth : Method} {c : Code} (l : Launch) (w : ld_E) (a1 : Int32) (a2 : Int32) {r : Int32 × ld_M} (C : ld_C p l s m args meth c cX4_level 3 (some .int) wsX4_level RX4 w) (Z : ld_M) (t0 : Int32) : ld_T p l e ({ frames := 2, cells := 0, slots := 0, locals := 42 }) s m args below meth c (MQ below (ld_Q w r.2 s.heap.size (some (.int r.1))) args s 0 0 (ld_A w s.heap.size)) w r (kX4_level_40 a1 a2 Z t0) Z 0 0 40 [some (.ref (ld_ad w 67)), some (.int a1), some (.int a2)] [.int t0] := by
  unfold kX4_level_40
  exact lj_rb C (by decide) (by decide) dX4_level_40
def kX4_level_20 (a1 : Int32) (a2 : Int32) (Z : ld_M) (t0 : Int32) : Option (Int32 × ld_M) := if (((ld_up Z 67 22 t0) 67 22) : Int32) = 0 then (ld_bd (kX4_levelOf (ld_up Z 67 22 t0) a1 a2) (fun x33 => kX4_level_40 a1 a2 (ld_up Z 67 22 t0) x33)) else (kX4_level_40 a1 a2 (ld_up Z 67 22 t0) 0)
set_option maxHeartbeats 4000000 in
set_option maxRecDepth 100000 in
theorem bX4_level_20 {p : Program} {e : Env} {s : State} {m : MethodId} {args : Array Value} {below : List Frame} {meth : Method} {c : Code} (l : Launch) (w : ld_E) (a1 : Int32) (a2 : Int32) {r : Int32 × ld_M} (C : ld_C p l s m args meth c cX4_level 3 (some .int) wsX4_level RX4 w) (Z : ld_M) (t0 : Int32) : ld_T p l e ({ frames := 2, cells := 0, slots := 0, locals := 42 }) s m args below meth c (MQ below (ld_Q w r.2 s.heap.size (some (.int r.1))) args s 0 0 (ld_A w s.heap.size)) w r (kX4_level_20 a1 a2 Z t0) Z 0 0 20 [some (.ref (ld_ad w 67)), some (.int a1), some (.int a2)] [.int t0, .ref (ld_ad w 67)] := by
  unfold kX4_level_20
  refine lj_put C (i := 67) (kk := 22) (G := (ld_f4 w)) (Tb := TX4) (N := 23) (by decide) (fun _ => rfl) rfl inX4_level_4 (by decide) (List.mem_of_getElem? (i := 1) rfl) rfl tyX4 tyX4_ok nmX4 rfl (by decide +kernel) (Nat.le_of_ble_eq_true rfl) rfl dX4_level_20 ?_
  refine lj_aload_n C rfl rfl dX4_level_23 ?_
  refine lj_get C (i := 67) (kk := 22) (G := (ld_f4 w)) (v := .int ((ld_up Z 67 22 t0) 67 22)) (Tb := TX4) (N := 23) (by decide) (fun _ => rfl) rfl inX4_level_4 (by decide) (List.mem_of_getElem? (i := 1) rfl) rfl rfl dX4_level_24 ?_
  refine lj_if_ne C (tgt := 39) dX4_level_27 (by decide) ?_ ?_
  · refine lj_iconst C (v := 0) (by decide) dX4_level_39 ?_
    exact bX4_level_40 l w a1 a2 C (ld_up Z 67 22 t0) 0
  · refine lj_aload_n C rfl rfl dX4_level_30 ?_
    refine lj_iload_n C rfl rfl dX4_level_31 ?_
    refine lj_iload_n C rfl rfl dX4_level_32 ?_
    refine lj_cVa C (As := [.int a1, .int a2]) (rest := []) (i := 67) (ci := 4) (Cn := RX4) (Tb := TX4) (N := 23) (fs := (ld_f4 w) ((ld_up Z 67 22 t0) 67)) (fun sz x hx => zX4_levelOf l w (ld_up Z 67 22 t0) a1 a2 hx sz) (cwV 2 C.2.2.2.2.1 gX4_level_X4_levelOf rfl rfl rfl (by decide +kernel) ⟨Nat.le_of_ble_eq_true rfl, Nat.le_of_ble_eq_true rfl⟩) (by decide) ((fun _ => rfl) _) rfl rfl rfl rfl (Nat.le_of_ble_eq_true rfl) ⟨Nat.le_of_ble_eq_true rfl, Nat.le_of_ble_eq_true rfl⟩ dX4_level_33 (fun x33 hx33 => ?_)
    refine lj_goto C (tgt := 40) dX4_level_36 (by decide) ?_
    exact bX4_level_40 l w a1 a2 C (ld_up Z 67 22 t0) x33
def kX4_level_19 (a1 : Int32) (a2 : Int32) (Z : ld_M)  : Option (Int32 × ld_M) := kX4_level_20 a1 a2 Z 1
set_option maxHeartbeats 4000000 in
set_option maxRecDepth 100000 in
theorem bX4_level_19 {p : Program} {e : Env} {s : State} {m : MethodId} {args : Array Value} {below : List Frame} {meth : Method} {c : Code} (l : Launch) (w : ld_E) (a1 : Int32) (a2 : Int32) {r : Int32 × ld_M} (C : ld_C p l s m args meth c cX4_level 3 (some .int) wsX4_level RX4 w) (Z : ld_M)  : ld_T p l e ({ frames := 2, cells := 0, slots := 0, locals := 42 }) s m args below meth c (MQ below (ld_Q w r.2 s.heap.size (some (.int r.1))) args s 0 0 (ld_A w s.heap.size)) w r (kX4_level_19 a1 a2 Z ) Z 0 0 19 [some (.ref (ld_ad w 67)), some (.int a1), some (.int a2)] [.ref (ld_ad w 67)] := by
  unfold kX4_level_19
  refine lj_iconst C (v := 1) (by decide) dX4_level_19 ?_
  exact bX4_level_20 l w a1 a2 C Z 1
def kX4_level (Z : ld_M) (a1 : Int32) (a2 : Int32) : Option (Int32 × ld_M) := ld_bd (kX4_isList Z a1) (fun x2 => if (x2 : Int32) = 0 then (kX4_level_19 a1 a2 Z) else (ld_bd (kX4_isChannel Z a2) (fun x9 => if (x9 : Int32) = 0 then (kX4_level_19 a1 a2 Z) else (kX4_level_20 a1 a2 Z 0))))
set_option maxHeartbeats 4000000 in
set_option maxRecDepth 100000 in
theorem zX4_level (l : Launch) (w : ld_E) (Z : ld_M) (a1 : Int32) (a2 : Int32)  {r : Int32 × ld_M} (hr : kX4_level Z a1 a2 = some r) (sz : Nat) : Met l yX4_level wsX4_level ({ frames := 2, cells := 0, slots := 0, locals := 42 }) (ld_Pc w Z sz [.ref (ld_ad w 67), .int a1, .int a2]) (ld_Q w r.2 sz (some (.int r.1))) 0 0 (ld_A w sz) := by
  refine ld_ofW (ws := wsX4_level) (Qc := fun sz9 => ld_Q w r.2 sz9 (some (.int r.1))) RX4 (by decide +kernel) rfl rfl (by simp [Value.category]) (Nat.le_of_ble_eq_true rfl) sz ?_
  intro p e s m args below meth c C
  revert hr
  show ld_T p l e ({ frames := 2, cells := 0, slots := 0, locals := 42 }) s m args below meth c (MQ below (ld_Q w r.2 s.heap.size (some (.int r.1))) args s 0 0 (ld_A w s.heap.size)) w r (kX4_level Z a1 a2) Z 0 0 0 [some (.ref (ld_ad w 67)), some (.int a1), some (.int a2)] []
  unfold kX4_level
  refine lj_aload_n C rfl rfl dX4_level_0 ?_
  refine lj_iload_n C rfl rfl dX4_level_1 ?_
  refine lj_cSa C (As := [.int a1]) (rest := [.ref (ld_ad w 67)]) (fun sz x hx => zX4_isList l w Z a1 hx sz) (va_cwS 1 C.2.2.2.2.1 gX4_level_X4_isList rfl rfl rfl (by decide +kernel) ⟨Nat.le_of_ble_eq_true rfl, Nat.le_of_ble_eq_true rfl⟩) rfl rfl rfl (Nat.le_of_ble_eq_true rfl) ⟨Nat.le_of_ble_eq_true rfl, Nat.le_of_ble_eq_true rfl⟩ dX4_level_2 (fun x2 hx2 => ?_)
  refine lj_if_eq C (tgt := 19) dX4_level_5 (by decide) ?_ ?_
  · exact bX4_level_19 l w a1 a2 C Z
  · refine lj_iload_n C rfl rfl dX4_level_8 ?_
    refine lj_cSa C (As := [.int a2]) (rest := [.ref (ld_ad w 67)]) (fun sz x hx => zX4_isChannel l w Z a2 hx sz) (va_cwS 1 C.2.2.2.2.1 gX4_level_X4_isChannel rfl rfl rfl (by decide +kernel) ⟨Nat.le_of_ble_eq_true rfl, Nat.le_of_ble_eq_true rfl⟩) rfl rfl rfl (Nat.le_of_ble_eq_true rfl) ⟨Nat.le_of_ble_eq_true rfl, Nat.le_of_ble_eq_true rfl⟩ dX4_level_9 (fun x9 hx9 => ?_)
    refine lj_if_eq C (tgt := 19) dX4_level_12 (by decide) ?_ ?_
    · exact bX4_level_19 l w a1 a2 C Z
    · refine lj_iconst C (v := 0) (by decide) dX4_level_15 ?_
      refine lj_goto C (tgt := 20) dX4_level_16 (by decide) ?_
      exact bX4_level_20 l w a1 a2 C Z 0
theorem inX4_mergedOf_4 : ∀ q ∈ u_ws RX4 TX4 23, q ∈ wsX4_mergedOf := fun _ h => List.mem_cons_of_mem _ (List.mem_append_right _ h)
def kX4_mergedOf_49 (a1 : Int32) (Z : ld_M) (v2 : Int32) (v3 : Int32) (t0 : Int32) : Option (Int32) := some t0
set_option maxHeartbeats 4000000 in
set_option maxRecDepth 100000 in
theorem bX4_mergedOf_49 {p : Program} {e : Env} {s : State} {m : MethodId} {args : Array Value} {below : List Frame} {meth : Method} {c : Code} (l : Launch) (w : ld_E) (a1 : Int32)   {r : Int32} (C : ld_C p l s m args meth c cX4_mergedOf 4 (some .int) wsX4_mergedOf RX4 w) (Z : ld_M) (v2 : Int32) (v3 : Int32) (t0 : Int32) : ld_T p l e ({ frames := 1, cells := 0, slots := 0, locals := 26 }) s m args below meth c (MQ below (ld_Q w Z s.heap.size (some (.int r))) args s 0 0 (ld_A w s.heap.size)) w r (kX4_mergedOf_49 a1 Z v2 v3 t0) Z 0 0 49 [some (.ref (ld_ad w 67)), some (.int a1), some (.int v2), some (.int v3)] [.int t0] := by
  unfold kX4_mergedOf_49
  exact lj_ra C (by decide) (by decide) dX4_mergedOf_49
def kX4_mergedOf_38 (a1 : Int32) (Z : ld_M) (v2 : Int32) (v3 : Int32) (t0 : Int32) : Option (Int32) := some t0
set_option maxHeartbeats 4000000 in
set_option maxRecDepth 100000 in
theorem bX4_mergedOf_38 {p : Program} {e : Env} {s : State} {m : MethodId} {args : Array Value} {below : List Frame} {meth : Method} {c : Code} (l : Launch) (w : ld_E) (a1 : Int32)   {r : Int32} (C : ld_C p l s m args meth c cX4_mergedOf 4 (some .int) wsX4_mergedOf RX4 w) (Z : ld_M) (v2 : Int32) (v3 : Int32) (t0 : Int32) : ld_T p l e ({ frames := 1, cells := 0, slots := 0, locals := 26 }) s m args below meth c (MQ below (ld_Q w Z s.heap.size (some (.int r))) args s 0 0 (ld_A w s.heap.size)) w r (kX4_mergedOf_38 a1 Z v2 v3 t0) Z 0 0 38 [some (.ref (ld_ad w 67)), some (.int a1), some (.int v2), some (.int v3)] [.int t0] := by
  unfold kX4_mergedOf_38
  exact lj_ra C (by decide) (by decide) dX4_mergedOf_38
def kX4_mergedOf (Z : ld_M) (a1 : Int32) : Option (Int32) := ld_bd (kX4_levelOf Z 0 a1) (fun x3 => ld_bd (kX4_levelOf Z 1 a1) (fun x10 => ld_ck (ld_g a1 12) (if ((Z 71 a1.toNatClampNeg) : Int32) = 1 then (ld_ck (ld_g a1 12) (if ((Z 72 a1.toNatClampNeg) : Int32) = 0 then (kX4_mergedOf_38 a1 Z x3 x10 x3) else (kX4_mergedOf_38 a1 Z x3 x10 x10))) else (if (x3 : Int32) ≤ x10 then (kX4_mergedOf_49 a1 Z x3 x10 x10) else (kX4_mergedOf_49 a1 Z x3 x10 x3)))))
set_option maxHeartbeats 4000000 in
set_option maxRecDepth 100000 in
theorem zX4_mergedOf (l : Launch) (w : ld_E) (Z : ld_M) (a1 : Int32)  {r : Int32} (hr : kX4_mergedOf Z a1 = some r) (sz : Nat) : Met l yX4_mergedOf wsX4_mergedOf ({ frames := 1, cells := 0, slots := 0, locals := 26 }) (ld_Pc w Z sz [.ref (ld_ad w 67), .int a1]) (ld_Q w Z sz (some (.int r))) 0 0 (ld_A w sz) := by
  refine ld_ofW (ws := wsX4_mergedOf) (Qc := fun sz9 => ld_Q w Z sz9 (some (.int r))) RX4 (by decide +kernel) rfl rfl (by simp [Value.category]) (Nat.le_of_ble_eq_true rfl) sz ?_
  intro p e s m args below meth c C
  revert hr
  show ld_T p l e ({ frames := 1, cells := 0, slots := 0, locals := 26 }) s m args below meth c (MQ below (ld_Q w Z s.heap.size (some (.int r))) args s 0 0 (ld_A w s.heap.size)) w r (kX4_mergedOf Z a1) Z 0 0 0 [some (.ref (ld_ad w 67)), some (.int a1), none, none] []
  unfold kX4_mergedOf
  refine lj_aload_n C rfl rfl dX4_mergedOf_0 ?_
  refine lj_iconst C (v := 0) (by decide) dX4_mergedOf_1 ?_
  refine lj_iload_n C rfl rfl dX4_mergedOf_2 ?_
  refine lj_cVa C (As := [.int 0, .int a1]) (rest := []) (i := 67) (ci := 4) (Cn := RX4) (Tb := TX4) (N := 23) (fs := (ld_f4 w) (Z 67)) (fun sz x hx => zX4_levelOf l w Z 0 a1 hx sz) (cwV 2 C.2.2.2.2.1 gX4_mergedOf_X4_levelOf rfl rfl rfl (by decide +kernel) ⟨Nat.le_of_ble_eq_true rfl, Nat.le_of_ble_eq_true rfl⟩) (by decide) ((fun _ => rfl) _) rfl rfl rfl rfl (Nat.le_of_ble_eq_true rfl) ⟨Nat.le_of_ble_eq_true rfl, Nat.le_of_ble_eq_true rfl⟩ dX4_mergedOf_3 (fun x3 hx3 => ?_)
  refine lj_istore_n C rfl (lv2 := [some (.ref (ld_ad w 67)), some (.int a1), some (.int x3), none]) (Nat.le_of_ble_eq_true rfl) rfl dX4_mergedOf_6 ?_
  refine lj_aload_n C rfl rfl dX4_mergedOf_7 ?_
  refine lj_iconst C (v := 1) (by decide) dX4_mergedOf_8 ?_
  refine lj_iload_n C rfl rfl dX4_mergedOf_9 ?_
  refine lj_cVa C (As := [.int 1, .int a1]) (rest := []) (i := 67) (ci := 4) (Cn := RX4) (Tb := TX4) (N := 23) (fs := (ld_f4 w) (Z 67)) (fun sz x hx => zX4_levelOf l w Z 1 a1 hx sz) (cwV 2 C.2.2.2.2.1 gX4_mergedOf_X4_levelOf rfl rfl rfl (by decide +kernel) ⟨Nat.le_of_ble_eq_true rfl, Nat.le_of_ble_eq_true rfl⟩) (by decide) ((fun _ => rfl) _) rfl rfl rfl rfl (Nat.le_of_ble_eq_true rfl) ⟨Nat.le_of_ble_eq_true rfl, Nat.le_of_ble_eq_true rfl⟩ dX4_mergedOf_10 (fun x10 hx10 => ?_)
  refine lj_istore_n C rfl (lv2 := [some (.ref (ld_ad w 67)), some (.int a1), some (.int x3), some (.int x10)]) (Nat.le_of_ble_eq_true rfl) rfl dX4_mergedOf_13 ?_
  refine lj_aload_n C rfl rfl dX4_mergedOf_14 ?_
  refine lj_get C (i := 67) (kk := 5) (G := (ld_f4 w)) (v := .ref (ld_ad w 71)) (Tb := TX4) (N := 23) (by decide) (fun _ => rfl) rfl inX4_mergedOf_4 (by decide) (List.mem_of_getElem? (i := 1) rfl) rfl rfl dX4_mergedOf_15 ?_
  refine lj_iload_n C rfl rfl dX4_mergedOf_18 ?_
  refine lj_iald C (n := 12) (by decide) (fun _ => rfl) dX4_mergedOf_19 ?_
  refine lj_iconst C (v := 1) (by decide) dX4_mergedOf_20 ?_
  refine lj_icmp_ne C (tgt := 39) dX4_mergedOf_21 (by decide) ?_ ?_
  · refine lj_iload_n C rfl rfl dX4_mergedOf_39 ?_
    refine lj_iload_n C rfl rfl dX4_mergedOf_40 ?_
    refine lj_icmp_le C (tgt := 48) dX4_mergedOf_41 (by decide) ?_ ?_
    · refine lj_iload_n C rfl rfl dX4_mergedOf_48 ?_
      exact bX4_mergedOf_49 l w a1 C Z x3 x10 x10
    · refine lj_iload_n C rfl rfl dX4_mergedOf_44 ?_
      refine lj_goto C (tgt := 49) dX4_mergedOf_45 (by decide) ?_
      exact bX4_mergedOf_49 l w a1 C Z x3 x10 x3
  · refine lj_aload_n C rfl rfl dX4_mergedOf_24 ?_
    refine lj_get C (i := 67) (kk := 6) (G := (ld_f4 w)) (v := .ref (ld_ad w 72)) (Tb := TX4) (N := 23) (by decide) (fun _ => rfl) rfl inX4_mergedOf_4 (by decide) (List.mem_of_getElem? (i := 2) rfl) rfl rfl dX4_mergedOf_25 ?_
    refine lj_iload_n C rfl rfl dX4_mergedOf_28 ?_
    refine lj_iald C (n := 12) (by decide) (fun _ => rfl) dX4_mergedOf_29 ?_
    refine lj_if_ne C (tgt := 37) dX4_mergedOf_30 (by decide) ?_ ?_
    · refine lj_iload_n C rfl rfl dX4_mergedOf_37 ?_
      exact bX4_mergedOf_38 l w a1 C Z x3 x10 x10
    · refine lj_iload_n C rfl rfl dX4_mergedOf_33 ?_
      refine lj_goto C (tgt := 38) dX4_mergedOf_34 (by decide) ?_
      exact bX4_mergedOf_38 l w a1 C Z x3 x10 x3
theorem inX4_merged_4 : ∀ q ∈ u_ws RX4 TX4 23, q ∈ wsX4_merged := fun _ h => List.mem_cons_of_mem _ (List.mem_append_right _ h)
def kX4_merged_32 (a1 : Int32) (Z : ld_M) (t0 : Int32) : Option (Int32 × ld_M) := some (t0, Z)
set_option maxHeartbeats 4000000 in
set_option maxRecDepth 100000 in
theorem bX4_merged_32 {p : Program} {e : Env} {s : State} {m : MethodId} {args : Array Value} {below : List Frame} {meth : Method} {c : Code} (l : Launch) (w : ld_E) (a1 : Int32) {r : Int32 × ld_M} (C : ld_C p l s m args meth c cX4_merged 2 (some .int) wsX4_merged RX4 w) (Z : ld_M) (t0 : Int32) : ld_T p l e ({ frames := 2, cells := 0, slots := 0, locals := 49 }) s m args below meth c (MQ below (ld_Q w r.2 s.heap.size (some (.int r.1))) args s 0 0 (ld_A w s.heap.size)) w r (kX4_merged_32 a1 Z t0) Z 0 0 32 [some (.ref (ld_ad w 67)), some (.int a1)] [.int t0] := by
  unfold kX4_merged_32
  exact lj_rb C (by decide) (by decide) dX4_merged_32
def kX4_merged_13 (a1 : Int32) (Z : ld_M) (t0 : Int32) : Option (Int32 × ld_M) := if (((ld_up Z 67 22 t0) 67 22) : Int32) = 0 then (ld_bd (kX4_mergedOf (ld_up Z 67 22 t0) a1) (fun x25 => kX4_merged_32 a1 (ld_up Z 67 22 t0) x25)) else (kX4_merged_32 a1 (ld_up Z 67 22 t0) 0)
set_option maxHeartbeats 4000000 in
set_option maxRecDepth 100000 in
theorem bX4_merged_13 {p : Program} {e : Env} {s : State} {m : MethodId} {args : Array Value} {below : List Frame} {meth : Method} {c : Code} (l : Launch) (w : ld_E) (a1 : Int32) {r : Int32 × ld_M} (C : ld_C p l s m args meth c cX4_merged 2 (some .int) wsX4_merged RX4 w) (Z : ld_M) (t0 : Int32) : ld_T p l e ({ frames := 2, cells := 0, slots := 0, locals := 49 }) s m args below meth c (MQ below (ld_Q w r.2 s.heap.size (some (.int r.1))) args s 0 0 (ld_A w s.heap.size)) w r (kX4_merged_13 a1 Z t0) Z 0 0 13 [some (.ref (ld_ad w 67)), some (.int a1)] [.int t0, .ref (ld_ad w 67)] := by
  unfold kX4_merged_13
  refine lj_put C (i := 67) (kk := 22) (G := (ld_f4 w)) (Tb := TX4) (N := 23) (by decide) (fun _ => rfl) rfl inX4_merged_4 (by decide) (List.mem_of_getElem? (i := 1) rfl) rfl tyX4 tyX4_ok nmX4 rfl (by decide +kernel) (Nat.le_of_ble_eq_true rfl) rfl dX4_merged_13 ?_
  refine lj_aload_n C rfl rfl dX4_merged_16 ?_
  refine lj_get C (i := 67) (kk := 22) (G := (ld_f4 w)) (v := .int ((ld_up Z 67 22 t0) 67 22)) (Tb := TX4) (N := 23) (by decide) (fun _ => rfl) rfl inX4_merged_4 (by decide) (List.mem_of_getElem? (i := 1) rfl) rfl rfl dX4_merged_17 ?_
  refine lj_if_ne C (tgt := 31) dX4_merged_20 (by decide) ?_ ?_
  · refine lj_iconst C (v := 0) (by decide) dX4_merged_31 ?_
    exact bX4_merged_32 l w a1 C (ld_up Z 67 22 t0) 0
  · refine lj_aload_n C rfl rfl dX4_merged_23 ?_
    refine lj_iload_n C rfl rfl dX4_merged_24 ?_
    refine lj_cVa C (As := [.int a1]) (rest := []) (i := 67) (ci := 4) (Cn := RX4) (Tb := TX4) (N := 23) (fs := (ld_f4 w) ((ld_up Z 67 22 t0) 67)) (fun sz x hx => zX4_mergedOf l w (ld_up Z 67 22 t0) a1 hx sz) (cwV 1 C.2.2.2.2.1 gX4_merged_X4_mergedOf rfl rfl rfl (by decide +kernel) ⟨Nat.le_of_ble_eq_true rfl, Nat.le_of_ble_eq_true rfl⟩) (by decide) ((fun _ => rfl) _) rfl rfl rfl rfl (Nat.le_of_ble_eq_true rfl) ⟨Nat.le_of_ble_eq_true rfl, Nat.le_of_ble_eq_true rfl⟩ dX4_merged_25 (fun x25 hx25 => ?_)
    refine lj_goto C (tgt := 32) dX4_merged_28 (by decide) ?_
    exact bX4_merged_32 l w a1 C (ld_up Z 67 22 t0) x25
def kX4_merged (Z : ld_M) (a1 : Int32) : Option (Int32 × ld_M) := ld_bd (kX4_isChannel Z a1) (fun x2 => if (x2 : Int32) = 0 then (kX4_merged_13 a1 Z 1) else (kX4_merged_13 a1 Z 0))
set_option maxHeartbeats 4000000 in
set_option maxRecDepth 100000 in
theorem zX4_merged (l : Launch) (w : ld_E) (Z : ld_M) (a1 : Int32)  {r : Int32 × ld_M} (hr : kX4_merged Z a1 = some r) (sz : Nat) : Met l yX4_merged wsX4_merged ({ frames := 2, cells := 0, slots := 0, locals := 49 }) (ld_Pc w Z sz [.ref (ld_ad w 67), .int a1]) (ld_Q w r.2 sz (some (.int r.1))) 0 0 (ld_A w sz) := by
  refine ld_ofW (ws := wsX4_merged) (Qc := fun sz9 => ld_Q w r.2 sz9 (some (.int r.1))) RX4 (by decide +kernel) rfl rfl (by simp [Value.category]) (Nat.le_of_ble_eq_true rfl) sz ?_
  intro p e s m args below meth c C
  revert hr
  show ld_T p l e ({ frames := 2, cells := 0, slots := 0, locals := 49 }) s m args below meth c (MQ below (ld_Q w r.2 s.heap.size (some (.int r.1))) args s 0 0 (ld_A w s.heap.size)) w r (kX4_merged Z a1) Z 0 0 0 [some (.ref (ld_ad w 67)), some (.int a1)] []
  unfold kX4_merged
  refine lj_aload_n C rfl rfl dX4_merged_0 ?_
  refine lj_iload_n C rfl rfl dX4_merged_1 ?_
  refine lj_cSa C (As := [.int a1]) (rest := [.ref (ld_ad w 67)]) (fun sz x hx => zX4_isChannel l w Z a1 hx sz) (va_cwS 1 C.2.2.2.2.1 gX4_merged_X4_isChannel rfl rfl rfl (by decide +kernel) ⟨Nat.le_of_ble_eq_true rfl, Nat.le_of_ble_eq_true rfl⟩) rfl rfl rfl (Nat.le_of_ble_eq_true rfl) ⟨Nat.le_of_ble_eq_true rfl, Nat.le_of_ble_eq_true rfl⟩ dX4_merged_2 (fun x2 hx2 => ?_)
  refine lj_if_eq C (tgt := 12) dX4_merged_5 (by decide) ?_ ?_
  · refine lj_iconst C (v := 1) (by decide) dX4_merged_12 ?_
    exact bX4_merged_13 l w a1 C Z 1
  · refine lj_iconst C (v := 0) (by decide) dX4_merged_8 ?_
    refine lj_goto C (tgt := 13) dX4_merged_9 (by decide) ?_
    exact bX4_merged_13 l w a1 C Z 0
def kX4_through (Z : ld_M) (a1 : Int32) (a2 : Int32) (a3 : Int32) : Option (Int32) := ld_ck (decide (¬ (100 : Int32) = 0)) (some (((a1 * a3) * (100 - (5 * a2))) / 100))
set_option maxHeartbeats 4000000 in
set_option maxRecDepth 100000 in
theorem zX4_through (l : Launch) (w : ld_E) (Z : ld_M) (a1 : Int32) (a2 : Int32) (a3 : Int32)  {r : Int32} (hr : kX4_through Z a1 a2 a3 = some r) (sz : Nat) : Met l yX4_through wsX4_through ({ frames := 0, cells := 0, slots := 0, locals := 0 }) (ld_Pc w Z sz [.int a1, .int a2, .int a3]) (ld_Q w Z sz (some (.int r))) 0 0 (ld_A w sz) := by
  refine ld_ofW (ws := wsX4_through) (Qc := fun sz9 => ld_Q w Z sz9 (some (.int r))) RX4 (by decide +kernel) rfl rfl (by simp [Value.category]) (Nat.le_of_ble_eq_true rfl) sz ?_
  intro p e s m args below meth c C
  revert hr
  show ld_T p l e ({ frames := 0, cells := 0, slots := 0, locals := 0 }) s m args below meth c (MQ below (ld_Q w Z s.heap.size (some (.int r))) args s 0 0 (ld_A w s.heap.size)) w r (kX4_through Z a1 a2 a3) Z 0 0 0 [some (.int a1), some (.int a2), some (.int a3)] []
  unfold kX4_through
  refine lj_iload_n C rfl rfl dX4_through_0 ?_
  refine lj_iload_n C rfl rfl dX4_through_1 ?_
  refine lj_imul C dX4_through_2 ?_
  refine lj_bipush C (v := 100) (by decide) dX4_through_3 ?_
  refine lj_iconst C (v := 5) (by decide) dX4_through_5 ?_
  refine lj_iload_n C rfl rfl dX4_through_6 ?_
  refine lj_imul C dX4_through_7 ?_
  refine lj_isub C dX4_through_8 ?_
  refine lj_imul C dX4_through_9 ?_
  refine lj_bipush C (v := 100) (by decide) dX4_through_10 ?_
  refine lj_idiv C dX4_through_12 ?_
  exact lj_ra C (by decide) (by decide) dX4_through_13
theorem inX4_lightOf_4 : ∀ q ∈ u_ws RX4 TX4 23, q ∈ wsX4_lightOf := fun _ h => List.mem_cons_of_mem _ (List.mem_append_right _ h)
def kX4_lightOf_57 (a1 : Int32) (a2 : Int32) (a3 : Int32) (k : ld_M → Int32 → Int32 → Option (Int32)) (Z : ld_M) (v4 : Int32) (v5 : Int32) (t0 : Int32) (t1 : Int32) : Option (Int32) := k Z (t1 + t0) (v5 + 1)
set_option maxHeartbeats 4000000 in
set_option maxRecDepth 100000 in
theorem bX4_lightOf_57 {p : Program} {e : Env} {s : State} {m : MethodId} {args : Array Value} {below : List Frame} {meth : Method} {c : Code} (l : Launch) (w : ld_E) (a1 : Int32) (a2 : Int32) (a3 : Int32)   {r : Int32} (C : ld_C p l s m args meth c cX4_lightOf 6 (some .int) wsX4_lightOf RX4 w) (k : ld_M → Int32 → Int32 → Option (Int32)) (hk : ∀ (Z : ld_M) (u0 : Int32) (u1 : Int32), ld_T p l e ({ frames := 1, cells := 0, slots := 0, locals := 22 }) s m args below meth c (MQ below (ld_Q w Z s.heap.size (some (.int r))) args s 0 0 (ld_A w s.heap.size)) w r (k Z u0 u1) Z 0 0 6 [some (.ref (ld_ad w 67)), some (.int a1), some (.int a2), some (.int a3), some (.int u0), some (.int u1)] []) (Z : ld_M) (v4 : Int32) (v5 : Int32) (t0 : Int32) (t1 : Int32) : ld_T p l e ({ frames := 1, cells := 0, slots := 0, locals := 22 }) s m args below meth c (MQ below (ld_Q w Z s.heap.size (some (.int r))) args s 0 0 (ld_A w s.heap.size)) w r (kX4_lightOf_57 a1 a2 a3 k Z v4 v5 t0 t1) Z 0 0 57 [some (.ref (ld_ad w 67)), some (.int a1), some (.int a2), some (.int a3), some (.int v4), some (.int v5)] [.int t0, .int t1] := by
  unfold kX4_lightOf_57
  refine lj_iadd C dX4_lightOf_57 ?_
  refine lj_istore C (lv2 := [some (.ref (ld_ad w 67)), some (.int a1), some (.int a2), some (.int a3), some (.int (t1 + t0)), some (.int v5)]) (Nat.le_of_ble_eq_true rfl) rfl dX4_lightOf_58 ?_
  refine lj_iinc C (i := 5) (v := (v5 + 1)) (lv2 := [some (.ref (ld_ad w 67)), some (.int a1), some (.int a2), some (.int a3), some (.int (t1 + t0)), some (.int (v5 + 1))]) rfl rfl rfl dX4_lightOf_60 ?_
  refine lj_goto C (tgt := 6) dX4_lightOf_63 (by decide) ?_
  exact hk Z (t1 + t0) (v5 + 1)
def kX4_lightOf_6 (a1 : Int32) (a2 : Int32) (a3 : Int32) : Nat → ld_M → Int32 → Int32 → Option (Int32)
  | 0, _, _, _ => none
  | n + 1, Z, v4, v5 => if ((Z 67 0) : Int32) ≤ v5 then (some v4) else (ld_ck (ld_g ((20 * a1) + v5) 80) (if ((Z 70 ((20 * a1) + v5).toNatClampNeg) : Int32) = (a2 + 1) then (ld_ck (ld_g v5 20) (ld_ck (ld_g v5 20) (ld_bd (kX4_through Z (Z 68 v5.toNatClampNeg) (Z 69 v5.toNatClampNeg) a3) (fun x50 => kX4_lightOf_57 a1 a2 a3 (kX4_lightOf_6 a1 a2 a3 n) Z v4 v5 x50 v4)))) else (kX4_lightOf_57 a1 a2 a3 (kX4_lightOf_6 a1 a2 a3 n) Z v4 v5 0 v4)))
set_option maxHeartbeats 4000000 in
set_option maxRecDepth 100000 in
theorem bX4_lightOf_6 {p : Program} {e : Env} {s : State} {m : MethodId} {args : Array Value} {below : List Frame} {meth : Method} {c : Code} (l : Launch) (w : ld_E) (a1 : Int32) (a2 : Int32) (a3 : Int32)   {r : Int32} (C : ld_C p l s m args meth c cX4_lightOf 6 (some .int) wsX4_lightOf RX4 w) : ∀ (n : Nat) (Z : ld_M) (v4 : Int32) (v5 : Int32), ld_T p l e ({ frames := 1, cells := 0, slots := 0, locals := 22 }) s m args below meth c (MQ below (ld_Q w Z s.heap.size (some (.int r))) args s 0 0 (ld_A w s.heap.size)) w r (kX4_lightOf_6 a1 a2 a3 n Z v4 v5) Z 0 0 6 [some (.ref (ld_ad w 67)), some (.int a1), some (.int a2), some (.int a3), some (.int v4), some (.int v5)] [] := by
  intro n
  induction n with
  | zero => exact fun _ _ _ h => nomatch h
  | succ n ih =>
    intro Z v4 v5
    refine lj_iload C rfl dX4_lightOf_6 ?_
    refine lj_aload_n C rfl rfl dX4_lightOf_8 ?_
    refine lj_get C (i := 67) (kk := 0) (G := (ld_f4 w)) (v := .int (Z 67 0)) (Tb := TX4) (N := 23) (by decide) (fun _ => rfl) rfl inX4_lightOf_4 (by decide) (List.mem_of_getElem? (i := 1) rfl) rfl rfl dX4_lightOf_9 ?_
    refine lj_icmp_ge C (tgt := 66) dX4_lightOf_12 (by decide) ?_ ?_
    · refine lj_iload C rfl dX4_lightOf_66 ?_
      exact lj_ra C (by decide) (by decide) dX4_lightOf_68
    · refine lj_iload C rfl dX4_lightOf_15 ?_
      refine lj_aload_n C rfl rfl dX4_lightOf_17 ?_
      refine lj_get C (i := 67) (kk := 3) (G := (ld_f4 w)) (v := .ref (ld_ad w 70)) (Tb := TX4) (N := 23) (by decide) (fun _ => rfl) rfl inX4_lightOf_4 (by decide) (List.mem_of_getElem? (i := 2) rfl) rfl rfl dX4_lightOf_18 ?_
      refine lj_bipush C (v := 20) (by decide) dX4_lightOf_21 ?_
      refine lj_iload_n C rfl rfl dX4_lightOf_23 ?_
      refine lj_imul C dX4_lightOf_24 ?_
      refine lj_iload C rfl dX4_lightOf_25 ?_
      refine lj_iadd C dX4_lightOf_27 ?_
      refine lj_iald C (n := 80) (by decide) (fun _ => rfl) dX4_lightOf_28 ?_
      refine lj_iload_n C rfl rfl dX4_lightOf_29 ?_
      refine lj_iconst C (v := 1) (by decide) dX4_lightOf_30 ?_
      refine lj_iadd C dX4_lightOf_31 ?_
      refine lj_icmp_ne C (tgt := 56) dX4_lightOf_32 (by decide) ?_ ?_
      · refine lj_iconst C (v := 0) (by decide) dX4_lightOf_56 ?_
        exact bX4_lightOf_57 l w a1 a2 a3 C (kX4_lightOf_6 a1 a2 a3 n) (fun Z9 u0 u1 => ih Z9 u0 u1) Z v4 v5 0 v4
      · refine lj_aload_n C rfl rfl dX4_lightOf_35 ?_
        refine lj_get C (i := 67) (kk := 1) (G := (ld_f4 w)) (v := .ref (ld_ad w 68)) (Tb := TX4) (N := 23) (by decide) (fun _ => rfl) rfl inX4_lightOf_4 (by decide) (List.mem_of_getElem? (i := 3) rfl) rfl rfl dX4_lightOf_36 ?_
        refine lj_iload C rfl dX4_lightOf_39 ?_
        refine lj_iald C (n := 20) (by decide) (fun _ => rfl) dX4_lightOf_41 ?_
        refine lj_aload_n C rfl rfl dX4_lightOf_42 ?_
        refine lj_get C (i := 67) (kk := 2) (G := (ld_f4 w)) (v := .ref (ld_ad w 69)) (Tb := TX4) (N := 23) (by decide) (fun _ => rfl) rfl inX4_lightOf_4 (by decide) (List.mem_of_getElem? (i := 4) rfl) rfl rfl dX4_lightOf_43 ?_
        refine lj_iload C rfl dX4_lightOf_46 ?_
        refine lj_iald C (n := 20) (by decide) (fun _ => rfl) dX4_lightOf_48 ?_
        refine lj_iload_n C rfl rfl dX4_lightOf_49 ?_
        refine lj_cSa C (As := [.int (Z 68 v5.toNatClampNeg), .int (Z 69 v5.toNatClampNeg), .int a3]) (rest := [.int v4]) (fun sz x hx => zX4_through l w Z (Z 68 v5.toNatClampNeg) (Z 69 v5.toNatClampNeg) a3 hx sz) (va_cwS 3 C.2.2.2.2.1 gX4_lightOf_X4_through rfl rfl rfl (by decide +kernel) ⟨Nat.le_of_ble_eq_true rfl, Nat.le_of_ble_eq_true rfl⟩) rfl rfl rfl (Nat.le_of_ble_eq_true rfl) ⟨Nat.le_of_ble_eq_true rfl, Nat.le_of_ble_eq_true rfl⟩ dX4_lightOf_50 (fun x50 hx50 => ?_)
        refine lj_goto C (tgt := 57) dX4_lightOf_53 (by decide) ?_
        exact bX4_lightOf_57 l w a1 a2 a3 C (kX4_lightOf_6 a1 a2 a3 n) (fun Z9 u0 u1 => ih Z9 u0 u1) Z v4 v5 x50 v4
def kX4_lightOf (Z : ld_M) (a1 : Int32) (a2 : Int32) (a3 : Int32) : Option (Int32) := kX4_lightOf_6 a1 a2 a3 ld_fu Z 0 0
set_option maxHeartbeats 4000000 in
set_option maxRecDepth 100000 in
theorem zX4_lightOf (l : Launch) (w : ld_E) (Z : ld_M) (a1 : Int32) (a2 : Int32) (a3 : Int32)  {r : Int32} (hr : kX4_lightOf Z a1 a2 a3 = some r) (sz : Nat) : Met l yX4_lightOf wsX4_lightOf ({ frames := 1, cells := 0, slots := 0, locals := 22 }) (ld_Pc w Z sz [.ref (ld_ad w 67), .int a1, .int a2, .int a3]) (ld_Q w Z sz (some (.int r))) 0 0 (ld_A w sz) := by
  refine ld_ofW (ws := wsX4_lightOf) (Qc := fun sz9 => ld_Q w Z sz9 (some (.int r))) RX4 (by decide +kernel) rfl rfl (by simp [Value.category]) (Nat.le_of_ble_eq_true rfl) sz ?_
  intro p e s m args below meth c C
  revert hr
  show ld_T p l e ({ frames := 1, cells := 0, slots := 0, locals := 22 }) s m args below meth c (MQ below (ld_Q w Z s.heap.size (some (.int r))) args s 0 0 (ld_A w s.heap.size)) w r (kX4_lightOf Z a1 a2 a3) Z 0 0 0 [some (.ref (ld_ad w 67)), some (.int a1), some (.int a2), some (.int a3), none, none] []
  unfold kX4_lightOf
  refine lj_iconst C (v := 0) (by decide) dX4_lightOf_0 ?_
  refine lj_istore C (lv2 := [some (.ref (ld_ad w 67)), some (.int a1), some (.int a2), some (.int a3), some (.int 0), none]) (Nat.le_of_ble_eq_true rfl) rfl dX4_lightOf_1 ?_
  refine lj_iconst C (v := 0) (by decide) dX4_lightOf_3 ?_
  refine lj_istore C (lv2 := [some (.ref (ld_ad w 67)), some (.int a1), some (.int a2), some (.int a3), some (.int 0), some (.int 0)]) (Nat.le_of_ble_eq_true rfl) rfl dX4_lightOf_4 ?_
  exact bX4_lightOf_6 l w a1 a2 a3 C ld_fu Z 0 0
theorem inX4_light_4 : ∀ q ∈ u_ws RX4 TX4 23, q ∈ wsX4_light := fun _ h => List.mem_cons_of_mem _ (List.mem_append_right _ h)
def kX4_light_41 (a1 : Int32) (Z : ld_M) (t0 : Int32) : Option (Int32 × ld_M) := some (t0, Z)
set_option maxHeartbeats 4000000 in
set_option maxRecDepth 100000 in
theorem bX4_light_41 {p : Program} {e : Env} {s : State} {m : MethodId} {args : Array Value} {below : List Frame} {meth : Method} {c : Code} (l : Launch) (w : ld_E) (a1 : Int32) {r : Int32 × ld_M} (C : ld_C p l s m args meth c cX4_light 2 (some .int) wsX4_light RX4 w) (Z : ld_M) (t0 : Int32) : ld_T p l e ({ frames := 2, cells := 0, slots := 0, locals := 49 }) s m args below meth c (MQ below (ld_Q w r.2 s.heap.size (some (.int r.1))) args s 0 0 (ld_A w s.heap.size)) w r (kX4_light_41 a1 Z t0) Z 0 0 41 [some (.ref (ld_ad w 67)), some (.int a1)] [.int t0] := by
  unfold kX4_light_41
  exact lj_rb C (by decide) (by decide) dX4_light_41
def kX4_light_13 (a1 : Int32) (Z : ld_M) (t0 : Int32) : Option (Int32 × ld_M) := if (((ld_up Z 67 22 t0) 67 22) : Int32) = 0 then (ld_bd (kX4_mergedOf (ld_up Z 67 22 t0) a1) (fun x31 => ld_bd (kX4_lightOf (ld_up Z 67 22 t0) ((ld_up Z 67 22 t0) 67 4) a1 x31) (fun x34 => kX4_light_41 a1 (ld_up Z 67 22 t0) x34))) else (kX4_light_41 a1 (ld_up Z 67 22 t0) 0)
set_option maxHeartbeats 4000000 in
set_option maxRecDepth 100000 in
theorem bX4_light_13 {p : Program} {e : Env} {s : State} {m : MethodId} {args : Array Value} {below : List Frame} {meth : Method} {c : Code} (l : Launch) (w : ld_E) (a1 : Int32) {r : Int32 × ld_M} (C : ld_C p l s m args meth c cX4_light 2 (some .int) wsX4_light RX4 w) (Z : ld_M) (t0 : Int32) : ld_T p l e ({ frames := 2, cells := 0, slots := 0, locals := 49 }) s m args below meth c (MQ below (ld_Q w r.2 s.heap.size (some (.int r.1))) args s 0 0 (ld_A w s.heap.size)) w r (kX4_light_13 a1 Z t0) Z 0 0 13 [some (.ref (ld_ad w 67)), some (.int a1)] [.int t0, .ref (ld_ad w 67)] := by
  unfold kX4_light_13
  refine lj_put C (i := 67) (kk := 22) (G := (ld_f4 w)) (Tb := TX4) (N := 23) (by decide) (fun _ => rfl) rfl inX4_light_4 (by decide) (List.mem_of_getElem? (i := 1) rfl) rfl tyX4 tyX4_ok nmX4 rfl (by decide +kernel) (Nat.le_of_ble_eq_true rfl) rfl dX4_light_13 ?_
  refine lj_aload_n C rfl rfl dX4_light_16 ?_
  refine lj_get C (i := 67) (kk := 22) (G := (ld_f4 w)) (v := .int ((ld_up Z 67 22 t0) 67 22)) (Tb := TX4) (N := 23) (by decide) (fun _ => rfl) rfl inX4_light_4 (by decide) (List.mem_of_getElem? (i := 1) rfl) rfl rfl dX4_light_17 ?_
  refine lj_if_ne C (tgt := 40) dX4_light_20 (by decide) ?_ ?_
  · refine lj_iconst C (v := 0) (by decide) dX4_light_40 ?_
    exact bX4_light_41 l w a1 C (ld_up Z 67 22 t0) 0
  · refine lj_aload_n C rfl rfl dX4_light_23 ?_
    refine lj_aload_n C rfl rfl dX4_light_24 ?_
    refine lj_get C (i := 67) (kk := 4) (G := (ld_f4 w)) (v := .int ((ld_up Z 67 22 t0) 67 4)) (Tb := TX4) (N := 23) (by decide) (fun _ => rfl) rfl inX4_light_4 (by decide) (List.mem_of_getElem? (i := 2) rfl) rfl rfl dX4_light_25 ?_
    refine lj_iload_n C rfl rfl dX4_light_28 ?_
    refine lj_aload_n C rfl rfl dX4_light_29 ?_
    refine lj_iload_n C rfl rfl dX4_light_30 ?_
    refine lj_cVa C (As := [.int a1]) (rest := [.int a1, .int ((ld_up Z 67 22 t0) 67 4), .ref (ld_ad w 67)]) (i := 67) (ci := 4) (Cn := RX4) (Tb := TX4) (N := 23) (fs := (ld_f4 w) ((ld_up Z 67 22 t0) 67)) (fun sz x hx => zX4_mergedOf l w (ld_up Z 67 22 t0) a1 hx sz) (cwV 1 C.2.2.2.2.1 gX4_light_X4_mergedOf rfl rfl rfl (by decide +kernel) ⟨Nat.le_of_ble_eq_true rfl, Nat.le_of_ble_eq_true rfl⟩) (by decide) ((fun _ => rfl) _) rfl rfl rfl rfl (Nat.le_of_ble_eq_true rfl) ⟨Nat.le_of_ble_eq_true rfl, Nat.le_of_ble_eq_true rfl⟩ dX4_light_31 (fun x31 hx31 => ?_)
    refine lj_cVa C (As := [.int ((ld_up Z 67 22 t0) 67 4), .int a1, .int x31]) (rest := []) (i := 67) (ci := 4) (Cn := RX4) (Tb := TX4) (N := 23) (fs := (ld_f4 w) ((ld_up Z 67 22 t0) 67)) (fun sz x hx => zX4_lightOf l w (ld_up Z 67 22 t0) ((ld_up Z 67 22 t0) 67 4) a1 x31 hx sz) (cwV 3 C.2.2.2.2.1 gX4_light_X4_lightOf rfl rfl rfl (by decide +kernel) ⟨Nat.le_of_ble_eq_true rfl, Nat.le_of_ble_eq_true rfl⟩) (by decide) ((fun _ => rfl) _) rfl rfl rfl rfl (Nat.le_of_ble_eq_true rfl) ⟨Nat.le_of_ble_eq_true rfl, Nat.le_of_ble_eq_true rfl⟩ dX4_light_34 (fun x34 hx34 => ?_)
    refine lj_goto C (tgt := 41) dX4_light_37 (by decide) ?_
    exact bX4_light_41 l w a1 C (ld_up Z 67 22 t0) x34
def kX4_light (Z : ld_M) (a1 : Int32) : Option (Int32 × ld_M) := ld_bd (kX4_isChannel Z a1) (fun x2 => if (x2 : Int32) = 0 then (kX4_light_13 a1 Z 1) else (kX4_light_13 a1 Z 0))
set_option maxHeartbeats 4000000 in
set_option maxRecDepth 100000 in
theorem zX4_light (l : Launch) (w : ld_E) (Z : ld_M) (a1 : Int32)  {r : Int32 × ld_M} (hr : kX4_light Z a1 = some r) (sz : Nat) : Met l yX4_light wsX4_light ({ frames := 2, cells := 0, slots := 0, locals := 49 }) (ld_Pc w Z sz [.ref (ld_ad w 67), .int a1]) (ld_Q w r.2 sz (some (.int r.1))) 0 0 (ld_A w sz) := by
  refine ld_ofW (ws := wsX4_light) (Qc := fun sz9 => ld_Q w r.2 sz9 (some (.int r.1))) RX4 (by decide +kernel) rfl rfl (by simp [Value.category]) (Nat.le_of_ble_eq_true rfl) sz ?_
  intro p e s m args below meth c C
  revert hr
  show ld_T p l e ({ frames := 2, cells := 0, slots := 0, locals := 49 }) s m args below meth c (MQ below (ld_Q w r.2 s.heap.size (some (.int r.1))) args s 0 0 (ld_A w s.heap.size)) w r (kX4_light Z a1) Z 0 0 0 [some (.ref (ld_ad w 67)), some (.int a1)] []
  unfold kX4_light
  refine lj_aload_n C rfl rfl dX4_light_0 ?_
  refine lj_iload_n C rfl rfl dX4_light_1 ?_
  refine lj_cSa C (As := [.int a1]) (rest := [.ref (ld_ad w 67)]) (fun sz x hx => zX4_isChannel l w Z a1 hx sz) (va_cwS 1 C.2.2.2.2.1 gX4_light_X4_isChannel rfl rfl rfl (by decide +kernel) ⟨Nat.le_of_ble_eq_true rfl, Nat.le_of_ble_eq_true rfl⟩) rfl rfl rfl (Nat.le_of_ble_eq_true rfl) ⟨Nat.le_of_ble_eq_true rfl, Nat.le_of_ble_eq_true rfl⟩ dX4_light_2 (fun x2 hx2 => ?_)
  refine lj_if_eq C (tgt := 12) dX4_light_5 (by decide) ?_ ?_
  · refine lj_iconst C (v := 1) (by decide) dX4_light_12 ?_
    exact bX4_light_13 l w a1 C Z 1
  · refine lj_iconst C (v := 0) (by decide) dX4_light_8 ?_
    refine lj_goto C (tgt := 13) dX4_light_9 (by decide) ?_
    exact bX4_light_13 l w a1 C Z 0
theorem inX4_allLight_4 : ∀ q ∈ u_ws RX4 TX4 23, q ∈ wsX4_allLight := fun _ h => List.mem_cons_of_mem _ (List.mem_append_right _ h)
def kX4_allLight_9  : Nat → ld_M → Int32 → Int32 → Option (Int32 × ld_M)
  | 0, _, _, _ => none
  | n + 1, Z, v1, v2 => if (12 : Int32) ≤ v2 then (some (v1, Z)) else (ld_bd (kX4_mergedOf Z v2) (fun x24 => ld_bd (kX4_lightOf Z (Z 67 4) v2 x24) (fun x27 => kX4_allLight_9 n Z (v1 + x27) (v2 + 1))))
set_option maxHeartbeats 4000000 in
set_option maxRecDepth 100000 in
theorem bX4_allLight_9 {p : Program} {e : Env} {s : State} {m : MethodId} {args : Array Value} {below : List Frame} {meth : Method} {c : Code} (l : Launch) (w : ld_E)  {r : Int32 × ld_M} (C : ld_C p l s m args meth c cX4_allLight 3 (some .int) wsX4_allLight RX4 w) : ∀ (n : Nat) (Z : ld_M) (v1 : Int32) (v2 : Int32), ld_T p l e ({ frames := 2, cells := 0, slots := 0, locals := 49 }) s m args below meth c (MQ below (ld_Q w r.2 s.heap.size (some (.int r.1))) args s 0 0 (ld_A w s.heap.size)) w r (kX4_allLight_9  n Z v1 v2) Z 0 0 9 [some (.ref (ld_ad w 67)), some (.int v1), some (.int v2)] [] := by
  intro n
  induction n with
  | zero => exact fun _ _ _ h => nomatch h
  | succ n ih =>
    intro Z v1 v2
    refine lj_iload_n C rfl rfl dX4_allLight_9 ?_
    refine lj_bipush C (v := 12) (by decide) dX4_allLight_10 ?_
    refine lj_icmp_ge C (tgt := 38) dX4_allLight_12 (by decide) ?_ ?_
    · refine lj_iload_n C rfl rfl dX4_allLight_38 ?_
      exact lj_rb C (by decide) (by decide) dX4_allLight_39
    · refine lj_iload_n C rfl rfl dX4_allLight_15 ?_
      refine lj_aload_n C rfl rfl dX4_allLight_16 ?_
      refine lj_aload_n C rfl rfl dX4_allLight_17 ?_
      refine lj_get C (i := 67) (kk := 4) (G := (ld_f4 w)) (v := .int (Z 67 4)) (Tb := TX4) (N := 23) (by decide) (fun _ => rfl) rfl inX4_allLight_4 (by decide) (List.mem_of_getElem? (i := 2) rfl) rfl rfl dX4_allLight_18 ?_
      refine lj_iload_n C rfl rfl dX4_allLight_21 ?_
      refine lj_aload_n C rfl rfl dX4_allLight_22 ?_
      refine lj_iload_n C rfl rfl dX4_allLight_23 ?_
      refine lj_cVa C (As := [.int v2]) (rest := [.int v2, .int (Z 67 4), .ref (ld_ad w 67), .int v1]) (i := 67) (ci := 4) (Cn := RX4) (Tb := TX4) (N := 23) (fs := (ld_f4 w) (Z 67)) (fun sz x hx => zX4_mergedOf l w Z v2 hx sz) (cwV 1 C.2.2.2.2.1 gX4_allLight_X4_mergedOf rfl rfl rfl (by decide +kernel) ⟨Nat.le_of_ble_eq_true rfl, Nat.le_of_ble_eq_true rfl⟩) (by decide) ((fun _ => rfl) _) rfl rfl rfl rfl (Nat.le_of_ble_eq_true rfl) ⟨Nat.le_of_ble_eq_true rfl, Nat.le_of_ble_eq_true rfl⟩ dX4_allLight_24 (fun x24 hx24 => ?_)
      refine lj_cVa C (As := [.int (Z 67 4), .int v2, .int x24]) (rest := [.int v1]) (i := 67) (ci := 4) (Cn := RX4) (Tb := TX4) (N := 23) (fs := (ld_f4 w) (Z 67)) (fun sz x hx => zX4_lightOf l w Z (Z 67 4) v2 x24 hx sz) (cwV 3 C.2.2.2.2.1 gX4_allLight_X4_lightOf rfl rfl rfl (by decide +kernel) ⟨Nat.le_of_ble_eq_true rfl, Nat.le_of_ble_eq_true rfl⟩) (by decide) ((fun _ => rfl) _) rfl rfl rfl rfl (Nat.le_of_ble_eq_true rfl) ⟨Nat.le_of_ble_eq_true rfl, Nat.le_of_ble_eq_true rfl⟩ dX4_allLight_27 (fun x27 hx27 => ?_)
      refine lj_iadd C dX4_allLight_30 ?_
      refine lj_istore_n C rfl (lv2 := [some (.ref (ld_ad w 67)), some (.int (v1 + x27)), some (.int v2)]) (Nat.le_of_ble_eq_true rfl) rfl dX4_allLight_31 ?_
      refine lj_iinc C (i := 2) (v := (v2 + 1)) (lv2 := [some (.ref (ld_ad w 67)), some (.int (v1 + x27)), some (.int (v2 + 1))]) rfl rfl rfl dX4_allLight_32 ?_
      refine lj_goto C (tgt := 9) dX4_allLight_35 (by decide) ?_
      exact ih Z (v1 + x27) (v2 + 1)
def kX4_allLight (Z : ld_M)  : Option (Int32 × ld_M) := kX4_allLight_9 ld_fu (ld_up Z 67 22 0) 0 0
set_option maxHeartbeats 4000000 in
set_option maxRecDepth 100000 in
theorem zX4_allLight (l : Launch) (w : ld_E) (Z : ld_M)   {r : Int32 × ld_M} (hr : kX4_allLight Z  = some r) (sz : Nat) : Met l yX4_allLight wsX4_allLight ({ frames := 2, cells := 0, slots := 0, locals := 49 }) (ld_Pc w Z sz [.ref (ld_ad w 67)]) (ld_Q w r.2 sz (some (.int r.1))) 0 0 (ld_A w sz) := by
  refine ld_ofW (ws := wsX4_allLight) (Qc := fun sz9 => ld_Q w r.2 sz9 (some (.int r.1))) RX4 (by decide +kernel) rfl rfl (by simp [Value.category]) (Nat.le_of_ble_eq_true rfl) sz ?_
  intro p e s m args below meth c C
  revert hr
  show ld_T p l e ({ frames := 2, cells := 0, slots := 0, locals := 49 }) s m args below meth c (MQ below (ld_Q w r.2 s.heap.size (some (.int r.1))) args s 0 0 (ld_A w s.heap.size)) w r (kX4_allLight Z ) Z 0 0 0 [some (.ref (ld_ad w 67)), none, none] []
  unfold kX4_allLight
  refine lj_aload_n C rfl rfl dX4_allLight_0 ?_
  refine lj_iconst C (v := 0) (by decide) dX4_allLight_1 ?_
  refine lj_put C (i := 67) (kk := 22) (G := (ld_f4 w)) (Tb := TX4) (N := 23) (by decide) (fun _ => rfl) rfl inX4_allLight_4 (by decide) (List.mem_of_getElem? (i := 1) rfl) rfl tyX4 tyX4_ok nmX4 rfl (by decide +kernel) (Nat.le_of_ble_eq_true rfl) rfl dX4_allLight_2 ?_
  refine lj_iconst C (v := 0) (by decide) dX4_allLight_5 ?_
  refine lj_istore_n C rfl (lv2 := [some (.ref (ld_ad w 67)), some (.int 0), none]) (Nat.le_of_ble_eq_true rfl) rfl dX4_allLight_6 ?_
  refine lj_iconst C (v := 0) (by decide) dX4_allLight_7 ?_
  refine lj_istore_n C rfl (lv2 := [some (.ref (ld_ad w 67)), some (.int 0), some (.int 0)]) (Nat.le_of_ble_eq_true rfl) rfl dX4_allLight_8 ?_
  exact bX4_allLight_9 l w C ld_fu (ld_up Z 67 22 0) 0 0
theorem inX4_shown_4 : ∀ q ∈ u_ws RX4 TX4 23, q ∈ wsX4_shown := fun _ h => List.mem_cons_of_mem _ (List.mem_append_right _ h)
def kX4_shown_54 (a1 : Int32) (a2 : Int32) (a3 : Int32) (k : ld_M → Int32 → Int32 → Option (Int32)) (Z : ld_M) (v4 : Int32) (v5 : Int32) (v6 : Int32) (t0 : Int32) (t1 : Int32) : Option (Int32) := k Z (t1 + t0) (v5 + 1)
set_option maxHeartbeats 4000000 in
set_option maxRecDepth 100000 in
theorem bX4_shown_54 {p : Program} {e : Env} {s : State} {m : MethodId} {args : Array Value} {below : List Frame} {meth : Method} {c : Code} (l : Launch) (w : ld_E) (a1 : Int32) (a2 : Int32) (a3 : Int32)   {r : Int32} (C : ld_C p l s m args meth c cX4_shown 7 (some .int) wsX4_shown RX4 w) (k : ld_M → Int32 → Int32 → Option (Int32)) (hk : ∀ (Z : ld_M) (u0 : Int32) (u1 : Int32), ld_T p l e ({ frames := 2, cells := 0, slots := 0, locals := 47 }) s m args below meth c (MQ below (ld_Q w Z s.heap.size (some (.int r))) args s 0 0 (ld_A w s.heap.size)) w r (k Z u0 u1) Z 0 0 6 [some (.ref (ld_ad w 67)), some (.int a1), some (.int a2), some (.int a3), some (.int u0), some (.int u1), none] []) (Z : ld_M) (v4 : Int32) (v5 : Int32) (v6 : Int32) (t0 : Int32) (t1 : Int32) : ld_T p l e ({ frames := 2, cells := 0, slots := 0, locals := 47 }) s m args below meth c (MQ below (ld_Q w Z s.heap.size (some (.int r))) args s 0 0 (ld_A w s.heap.size)) w r (kX4_shown_54 a1 a2 a3 k Z v4 v5 v6 t0 t1) Z 0 0 54 [some (.ref (ld_ad w 67)), some (.int a1), some (.int a2), some (.int a3), some (.int v4), some (.int v5), some (.int v6)] [.int t0, .int t1] := by
  unfold kX4_shown_54
  refine lj_iadd C dX4_shown_54 ?_
  refine lj_istore C (lv2 := [some (.ref (ld_ad w 67)), some (.int a1), some (.int a2), some (.int a3), some (.int (t1 + t0)), some (.int v5), some (.int v6)]) (Nat.le_of_ble_eq_true rfl) rfl dX4_shown_55 ?_
  refine lj_iinc C (i := 5) (v := (v5 + 1)) (lv2 := [some (.ref (ld_ad w 67)), some (.int a1), some (.int a2), some (.int a3), some (.int (t1 + t0)), some (.int (v5 + 1)), some (.int v6)]) rfl rfl rfl dX4_shown_57 ?_
  refine lj_goto C (tgt := 6) dX4_shown_60 (by decide) ?_
  refine lj_forget (lv2 := [some (.ref (ld_ad w 67)), some (.int a1), some (.int a2), some (.int a3), some (.int (t1 + t0)), some (.int (v5 + 1)), none]) (by simp [ld_le]) ?_
  exact hk Z (t1 + t0) (v5 + 1)
def kX4_shown_6 (a1 : Int32) (a2 : Int32) (a3 : Int32) : Nat → ld_M → Int32 → Int32 → Option (Int32)
  | 0, _, _, _ => none
  | n + 1, Z, v4, v5 => if (12 : Int32) ≤ v5 then (some v4) else (ld_ck (ld_g ((12 * ((10 * a1) + a2)) + v5) 240) (if ((Z 77 ((12 * ((10 * a1) + a2)) + v5).toNatClampNeg) : Int32) ≤ 0 then (kX4_shown_54 a1 a2 a3 (kX4_shown_6 a1 a2 a3 n) Z v4 v5 (Z 77 ((12 * ((10 * a1) + a2)) + v5).toNatClampNeg) 0 v4) else (ld_bd (kX4_lightOf Z a3 v5 ((Z 77 ((12 * ((10 * a1) + a2)) + v5).toNatClampNeg) - 1)) (fun x47 => kX4_shown_54 a1 a2 a3 (kX4_shown_6 a1 a2 a3 n) Z v4 v5 (Z 77 ((12 * ((10 * a1) + a2)) + v5).toNatClampNeg) x47 v4))))
set_option maxHeartbeats 4000000 in
set_option maxRecDepth 100000 in
theorem bX4_shown_6 {p : Program} {e : Env} {s : State} {m : MethodId} {args : Array Value} {below : List Frame} {meth : Method} {c : Code} (l : Launch) (w : ld_E) (a1 : Int32) (a2 : Int32) (a3 : Int32)   {r : Int32} (C : ld_C p l s m args meth c cX4_shown 7 (some .int) wsX4_shown RX4 w) : ∀ (n : Nat) (Z : ld_M) (v4 : Int32) (v5 : Int32), ld_T p l e ({ frames := 2, cells := 0, slots := 0, locals := 47 }) s m args below meth c (MQ below (ld_Q w Z s.heap.size (some (.int r))) args s 0 0 (ld_A w s.heap.size)) w r (kX4_shown_6 a1 a2 a3 n Z v4 v5) Z 0 0 6 [some (.ref (ld_ad w 67)), some (.int a1), some (.int a2), some (.int a3), some (.int v4), some (.int v5), none] [] := by
  intro n
  induction n with
  | zero => exact fun _ _ _ h => nomatch h
  | succ n ih =>
    intro Z v4 v5
    refine lj_iload C rfl dX4_shown_6 ?_
    refine lj_bipush C (v := 12) (by decide) dX4_shown_8 ?_
    refine lj_icmp_ge C (tgt := 63) dX4_shown_10 (by decide) ?_ ?_
    · refine lj_iload C rfl dX4_shown_63 ?_
      exact lj_ra C (by decide) (by decide) dX4_shown_65
    · refine lj_aload_n C rfl rfl dX4_shown_13 ?_
      refine lj_get C (i := 67) (kk := 11) (G := (ld_f4 w)) (v := .ref (ld_ad w 77)) (Tb := TX4) (N := 23) (by decide) (fun _ => rfl) rfl inX4_shown_4 (by decide) (List.mem_of_getElem? (i := 1) rfl) rfl rfl dX4_shown_14 ?_
      refine lj_bipush C (v := 12) (by decide) dX4_shown_17 ?_
      refine lj_bipush C (v := 10) (by decide) dX4_shown_19 ?_
      refine lj_iload_n C rfl rfl dX4_shown_21 ?_
      refine lj_imul C dX4_shown_22 ?_
      refine lj_iload_n C rfl rfl dX4_shown_23 ?_
      refine lj_iadd C dX4_shown_24 ?_
      refine lj_imul C dX4_shown_25 ?_
      refine lj_iload C rfl dX4_shown_26 ?_
      refine lj_iadd C dX4_shown_28 ?_
      refine lj_iald C (n := 240) (by decide) (fun _ => rfl) dX4_shown_29 ?_
      refine lj_istore C (lv2 := [some (.ref (ld_ad w 67)), some (.int a1), some (.int a2), some (.int a3), some (.int v4), some (.int v5), some (.int (Z 77 ((12 * ((10 * a1) + a2)) + v5).toNatClampNeg))]) (Nat.le_of_ble_eq_true rfl) rfl dX4_shown_30 ?_
      refine lj_iload C rfl dX4_shown_32 ?_
      refine lj_iload C rfl dX4_shown_34 ?_
      refine lj_if_le C (tgt := 53) dX4_shown_36 (by decide) ?_ ?_
      · refine lj_iconst C (v := 0) (by decide) dX4_shown_53 ?_
        exact bX4_shown_54 l w a1 a2 a3 C (kX4_shown_6 a1 a2 a3 n) (fun Z9 u0 u1 => ih Z9 u0 u1) Z v4 v5 (Z 77 ((12 * ((10 * a1) + a2)) + v5).toNatClampNeg) 0 v4
      · refine lj_aload_n C rfl rfl dX4_shown_39 ?_
        refine lj_iload_n C rfl rfl dX4_shown_40 ?_
        refine lj_iload C rfl dX4_shown_41 ?_
        refine lj_iload C rfl dX4_shown_43 ?_
        refine lj_iconst C (v := 1) (by decide) dX4_shown_45 ?_
        refine lj_isub C dX4_shown_46 ?_
        refine lj_cVa C (As := [.int a3, .int v5, .int ((Z 77 ((12 * ((10 * a1) + a2)) + v5).toNatClampNeg) - 1)]) (rest := [.int v4]) (i := 67) (ci := 4) (Cn := RX4) (Tb := TX4) (N := 23) (fs := (ld_f4 w) (Z 67)) (fun sz x hx => zX4_lightOf l w Z a3 v5 ((Z 77 ((12 * ((10 * a1) + a2)) + v5).toNatClampNeg) - 1) hx sz) (cwV 3 C.2.2.2.2.1 gX4_shown_X4_lightOf rfl rfl rfl (by decide +kernel) ⟨Nat.le_of_ble_eq_true rfl, Nat.le_of_ble_eq_true rfl⟩) (by decide) ((fun _ => rfl) _) rfl rfl rfl rfl (Nat.le_of_ble_eq_true rfl) ⟨Nat.le_of_ble_eq_true rfl, Nat.le_of_ble_eq_true rfl⟩ dX4_shown_47 (fun x47 hx47 => ?_)
        refine lj_goto C (tgt := 54) dX4_shown_50 (by decide) ?_
        exact bX4_shown_54 l w a1 a2 a3 C (kX4_shown_6 a1 a2 a3 n) (fun Z9 u0 u1 => ih Z9 u0 u1) Z v4 v5 (Z 77 ((12 * ((10 * a1) + a2)) + v5).toNatClampNeg) x47 v4
def kX4_shown (Z : ld_M) (a1 : Int32) (a2 : Int32) (a3 : Int32) : Option (Int32) := kX4_shown_6 a1 a2 a3 ld_fu Z 0 0
set_option maxHeartbeats 4000000 in
set_option maxRecDepth 100000 in
theorem zX4_shown (l : Launch) (w : ld_E) (Z : ld_M) (a1 : Int32) (a2 : Int32) (a3 : Int32)  {r : Int32} (hr : kX4_shown Z a1 a2 a3 = some r) (sz : Nat) : Met l yX4_shown wsX4_shown ({ frames := 2, cells := 0, slots := 0, locals := 47 }) (ld_Pc w Z sz [.ref (ld_ad w 67), .int a1, .int a2, .int a3]) (ld_Q w Z sz (some (.int r))) 0 0 (ld_A w sz) := by
  refine ld_ofW (ws := wsX4_shown) (Qc := fun sz9 => ld_Q w Z sz9 (some (.int r))) RX4 (by decide +kernel) rfl rfl (by simp [Value.category]) (Nat.le_of_ble_eq_true rfl) sz ?_
  intro p e s m args below meth c C
  revert hr
  show ld_T p l e ({ frames := 2, cells := 0, slots := 0, locals := 47 }) s m args below meth c (MQ below (ld_Q w Z s.heap.size (some (.int r))) args s 0 0 (ld_A w s.heap.size)) w r (kX4_shown Z a1 a2 a3) Z 0 0 0 [some (.ref (ld_ad w 67)), some (.int a1), some (.int a2), some (.int a3), none, none, none] []
  unfold kX4_shown
  refine lj_iconst C (v := 0) (by decide) dX4_shown_0 ?_
  refine lj_istore C (lv2 := [some (.ref (ld_ad w 67)), some (.int a1), some (.int a2), some (.int a3), some (.int 0), none, none]) (Nat.le_of_ble_eq_true rfl) rfl dX4_shown_1 ?_
  refine lj_iconst C (v := 0) (by decide) dX4_shown_3 ?_
  refine lj_istore C (lv2 := [some (.ref (ld_ad w 67)), some (.int a1), some (.int a2), some (.int a3), some (.int 0), some (.int 0), none]) (Nat.le_of_ble_eq_true rfl) rfl dX4_shown_4 ?_
  exact bX4_shown_6 l w a1 a2 a3 C ld_fu Z 0 0
theorem inX4_preview_4 : ∀ q ∈ u_ws RX4 TX4 23, q ∈ wsX4_preview := fun _ h => List.mem_cons_of_mem _ (List.mem_append_right _ h)
def kX4_preview_61 (a1 : Int32) (a2 : Int32) (a3 : Int32) (Z : ld_M) (t0 : Int32) : Option (Int32 × ld_M) := some (t0, Z)
set_option maxHeartbeats 4000000 in
set_option maxRecDepth 100000 in
theorem bX4_preview_61 {p : Program} {e : Env} {s : State} {m : MethodId} {args : Array Value} {below : List Frame} {meth : Method} {c : Code} (l : Launch) (w : ld_E) (a1 : Int32) (a2 : Int32) (a3 : Int32) {r : Int32 × ld_M} (C : ld_C p l s m args meth c cX4_preview 4 (some .int) wsX4_preview RX4 w) (Z : ld_M) (t0 : Int32) : ld_T p l e ({ frames := 3, cells := 0, slots := 0, locals := 73 }) s m args below meth c (MQ below (ld_Q w r.2 s.heap.size (some (.int r.1))) args s 0 0 (ld_A w s.heap.size)) w r (kX4_preview_61 a1 a2 a3 Z t0) Z 0 0 61 [some (.ref (ld_ad w 67)), some (.int a1), some (.int a2), some (.int a3)] [.int t0] := by
  unfold kX4_preview_61
  exact lj_rb C (by decide) (by decide) dX4_preview_61
def kX4_preview_40 (a1 : Int32) (a2 : Int32) (a3 : Int32) (Z : ld_M) (t0 : Int32) : Option (Int32 × ld_M) := if (((ld_up Z 67 22 t0) 67 22) : Int32) = 0 then (ld_bd (kX4_shown (ld_up Z 67 22 t0) a1 a2 a3) (fun x54 => kX4_preview_61 a1 a2 a3 (ld_up Z 67 22 t0) x54)) else (kX4_preview_61 a1 a2 a3 (ld_up Z 67 22 t0) 0)
set_option maxHeartbeats 4000000 in
set_option maxRecDepth 100000 in
theorem bX4_preview_40 {p : Program} {e : Env} {s : State} {m : MethodId} {args : Array Value} {below : List Frame} {meth : Method} {c : Code} (l : Launch) (w : ld_E) (a1 : Int32) (a2 : Int32) (a3 : Int32) {r : Int32 × ld_M} (C : ld_C p l s m args meth c cX4_preview 4 (some .int) wsX4_preview RX4 w) (Z : ld_M) (t0 : Int32) : ld_T p l e ({ frames := 3, cells := 0, slots := 0, locals := 73 }) s m args below meth c (MQ below (ld_Q w r.2 s.heap.size (some (.int r.1))) args s 0 0 (ld_A w s.heap.size)) w r (kX4_preview_40 a1 a2 a3 Z t0) Z 0 0 40 [some (.ref (ld_ad w 67)), some (.int a1), some (.int a2), some (.int a3)] [.int t0, .ref (ld_ad w 67)] := by
  unfold kX4_preview_40
  refine lj_put C (i := 67) (kk := 22) (G := (ld_f4 w)) (Tb := TX4) (N := 23) (by decide) (fun _ => rfl) rfl inX4_preview_4 (by decide) (List.mem_of_getElem? (i := 2) rfl) rfl tyX4 tyX4_ok nmX4 rfl (by decide +kernel) (Nat.le_of_ble_eq_true rfl) rfl dX4_preview_40 ?_
  refine lj_aload_n C rfl rfl dX4_preview_43 ?_
  refine lj_get C (i := 67) (kk := 22) (G := (ld_f4 w)) (v := .int ((ld_up Z 67 22 t0) 67 22)) (Tb := TX4) (N := 23) (by decide) (fun _ => rfl) rfl inX4_preview_4 (by decide) (List.mem_of_getElem? (i := 2) rfl) rfl rfl dX4_preview_44 ?_
  refine lj_if_ne C (tgt := 60) dX4_preview_47 (by decide) ?_ ?_
  · refine lj_iconst C (v := 0) (by decide) dX4_preview_60 ?_
    exact bX4_preview_61 l w a1 a2 a3 C (ld_up Z 67 22 t0) 0
  · refine lj_aload_n C rfl rfl dX4_preview_50 ?_
    refine lj_iload_n C rfl rfl dX4_preview_51 ?_
    refine lj_iload_n C rfl rfl dX4_preview_52 ?_
    refine lj_iload_n C rfl rfl dX4_preview_53 ?_
    refine lj_cVa C (As := [.int a1, .int a2, .int a3]) (rest := []) (i := 67) (ci := 4) (Cn := RX4) (Tb := TX4) (N := 23) (fs := (ld_f4 w) ((ld_up Z 67 22 t0) 67)) (fun sz x hx => zX4_shown l w (ld_up Z 67 22 t0) a1 a2 a3 hx sz) (cwV 3 C.2.2.2.2.1 gX4_preview_X4_shown rfl rfl rfl (by decide +kernel) ⟨Nat.le_of_ble_eq_true rfl, Nat.le_of_ble_eq_true rfl⟩) (by decide) ((fun _ => rfl) _) rfl rfl rfl rfl (Nat.le_of_ble_eq_true rfl) ⟨Nat.le_of_ble_eq_true rfl, Nat.le_of_ble_eq_true rfl⟩ dX4_preview_54 (fun x54 hx54 => ?_)
    refine lj_goto C (tgt := 61) dX4_preview_57 (by decide) ?_
    exact bX4_preview_61 l w a1 a2 a3 C (ld_up Z 67 22 t0) x54
def kX4_preview_15 (a1 : Int32) (a2 : Int32) (a3 : Int32) (Z : ld_M)  : Option (Int32 × ld_M) := kX4_preview_40 a1 a2 a3 Z 1
set_option maxHeartbeats 4000000 in
set_option maxRecDepth 100000 in
theorem bX4_preview_15 {p : Program} {e : Env} {s : State} {m : MethodId} {args : Array Value} {below : List Frame} {meth : Method} {c : Code} (l : Launch) (w : ld_E) (a1 : Int32) (a2 : Int32) (a3 : Int32) {r : Int32 × ld_M} (C : ld_C p l s m args meth c cX4_preview 4 (some .int) wsX4_preview RX4 w) (Z : ld_M)  : ld_T p l e ({ frames := 3, cells := 0, slots := 0, locals := 73 }) s m args below meth c (MQ below (ld_Q w r.2 s.heap.size (some (.int r.1))) args s 0 0 (ld_A w s.heap.size)) w r (kX4_preview_15 a1 a2 a3 Z ) Z 0 0 15 [some (.ref (ld_ad w 67)), some (.int a1), some (.int a2), some (.int a3)] [.ref (ld_ad w 67)] := by
  unfold kX4_preview_15
  refine lj_iconst C (v := 1) (by decide) dX4_preview_15 ?_
  refine lj_goto C (tgt := 40) dX4_preview_16 (by decide) ?_
  exact bX4_preview_40 l w a1 a2 a3 C Z 1
def kX4_preview (Z : ld_M) (a1 : Int32) (a2 : Int32) (a3 : Int32) : Option (Int32 × ld_M) := ld_bd (kX4_isList Z a1) (fun x2 => if (x2 : Int32) = 0 then (kX4_preview_15 a1 a2 a3 Z) else (ld_bd (kX4_isNight Z a3) (fun x9 => if (x9 : Int32) = 0 then (kX4_preview_15 a1 a2 a3 Z) else (ld_ck (ld_g a1 2) (ld_bd (kX4_in Z a2 0 ((Z 73 a1.toNatClampNeg) - 1)) (fun x29 => if (x29 : Int32) = 0 then (kX4_preview_40 a1 a2 a3 Z 2) else (kX4_preview_40 a1 a2 a3 Z 0)))))))
set_option maxHeartbeats 4000000 in
set_option maxRecDepth 100000 in
theorem zX4_preview (l : Launch) (w : ld_E) (Z : ld_M) (a1 : Int32) (a2 : Int32) (a3 : Int32)  {r : Int32 × ld_M} (hr : kX4_preview Z a1 a2 a3 = some r) (sz : Nat) : Met l yX4_preview wsX4_preview ({ frames := 3, cells := 0, slots := 0, locals := 73 }) (ld_Pc w Z sz [.ref (ld_ad w 67), .int a1, .int a2, .int a3]) (ld_Q w r.2 sz (some (.int r.1))) 0 0 (ld_A w sz) := by
  refine ld_ofW (ws := wsX4_preview) (Qc := fun sz9 => ld_Q w r.2 sz9 (some (.int r.1))) RX4 (by decide +kernel) rfl rfl (by simp [Value.category]) (Nat.le_of_ble_eq_true rfl) sz ?_
  intro p e s m args below meth c C
  revert hr
  show ld_T p l e ({ frames := 3, cells := 0, slots := 0, locals := 73 }) s m args below meth c (MQ below (ld_Q w r.2 s.heap.size (some (.int r.1))) args s 0 0 (ld_A w s.heap.size)) w r (kX4_preview Z a1 a2 a3) Z 0 0 0 [some (.ref (ld_ad w 67)), some (.int a1), some (.int a2), some (.int a3)] []
  unfold kX4_preview
  refine lj_aload_n C rfl rfl dX4_preview_0 ?_
  refine lj_iload_n C rfl rfl dX4_preview_1 ?_
  refine lj_cSa C (As := [.int a1]) (rest := [.ref (ld_ad w 67)]) (fun sz x hx => zX4_isList l w Z a1 hx sz) (va_cwS 1 C.2.2.2.2.1 gX4_preview_X4_isList rfl rfl rfl (by decide +kernel) ⟨Nat.le_of_ble_eq_true rfl, Nat.le_of_ble_eq_true rfl⟩) rfl rfl rfl (Nat.le_of_ble_eq_true rfl) ⟨Nat.le_of_ble_eq_true rfl, Nat.le_of_ble_eq_true rfl⟩ dX4_preview_2 (fun x2 hx2 => ?_)
  refine lj_if_eq C (tgt := 15) dX4_preview_5 (by decide) ?_ ?_
  · exact bX4_preview_15 l w a1 a2 a3 C Z
  · refine lj_iload_n C rfl rfl dX4_preview_8 ?_
    refine lj_cSa C (As := [.int a3]) (rest := [.ref (ld_ad w 67)]) (fun sz x hx => zX4_isNight l w Z a3 hx sz) (va_cwS 1 C.2.2.2.2.1 gX4_preview_X4_isNight rfl rfl rfl (by decide +kernel) ⟨Nat.le_of_ble_eq_true rfl, Nat.le_of_ble_eq_true rfl⟩) rfl rfl rfl (Nat.le_of_ble_eq_true rfl) ⟨Nat.le_of_ble_eq_true rfl, Nat.le_of_ble_eq_true rfl⟩ dX4_preview_9 (fun x9 hx9 => ?_)
    refine lj_if_ne C (tgt := 19) dX4_preview_12 (by decide) ?_ ?_
    · refine lj_iload_n C rfl rfl dX4_preview_19 ?_
      refine lj_iconst C (v := 0) (by decide) dX4_preview_20 ?_
      refine lj_aload_n C rfl rfl dX4_preview_21 ?_
      refine lj_get C (i := 67) (kk := 7) (G := (ld_f4 w)) (v := .ref (ld_ad w 73)) (Tb := TX4) (N := 23) (by decide) (fun _ => rfl) rfl inX4_preview_4 (by decide) (List.mem_of_getElem? (i := 1) rfl) rfl rfl dX4_preview_22 ?_
      refine lj_iload_n C rfl rfl dX4_preview_25 ?_
      refine lj_iald C (n := 2) (by decide) (fun _ => rfl) dX4_preview_26 ?_
      refine lj_iconst C (v := 1) (by decide) dX4_preview_27 ?_
      refine lj_isub C dX4_preview_28 ?_
      refine lj_cSa C (As := [.int a2, .int 0, .int ((Z 73 a1.toNatClampNeg) - 1)]) (rest := [.ref (ld_ad w 67)]) (fun sz x hx => zX4_in l w Z a2 0 ((Z 73 a1.toNatClampNeg) - 1) hx sz) (va_cwS 3 C.2.2.2.2.1 gX4_preview_X4_in rfl rfl rfl (by decide +kernel) ⟨Nat.le_of_ble_eq_true rfl, Nat.le_of_ble_eq_true rfl⟩) rfl rfl rfl (Nat.le_of_ble_eq_true rfl) ⟨Nat.le_of_ble_eq_true rfl, Nat.le_of_ble_eq_true rfl⟩ dX4_preview_29 (fun x29 hx29 => ?_)
      refine lj_if_ne C (tgt := 39) dX4_preview_32 (by decide) ?_ ?_
      · refine lj_iconst C (v := 0) (by decide) dX4_preview_39 ?_
        exact bX4_preview_40 l w a1 a2 a3 C Z 0
      · refine lj_iconst C (v := 2) (by decide) dX4_preview_35 ?_
        refine lj_goto C (tgt := 40) dX4_preview_36 (by decide) ?_
        exact bX4_preview_40 l w a1 a2 a3 C Z 2
    · exact bX4_preview_15 l w a1 a2 a3 C Z
theorem inX4_touched_4 : ∀ q ∈ u_ws RX4 TX4 23, q ∈ wsX4_touched := fun _ h => List.mem_cons_of_mem _ (List.mem_append_right _ h)
def kX4_touched_179 (a1 : Int32) (a2 : Int32) (a3 : Int32) (a4 : Int32) (Z : ld_M) (v5 : Int32) (v6 : Int32) : Option (Int32 × ld_M) := some (v5, Z)
set_option maxHeartbeats 4000000 in
set_option maxRecDepth 100000 in
theorem bX4_touched_179 {p : Program} {e : Env} {s : State} {m : MethodId} {args : Array Value} {below : List Frame} {meth : Method} {c : Code} (l : Launch) (w : ld_E) (a1 : Int32) (a2 : Int32) (a3 : Int32) (a4 : Int32) {r : Int32 × ld_M} (C : ld_C p l s m args meth c cX4_touched 10 (some .int) wsX4_touched RX4 w) (Z : ld_M) (v5 : Int32) (v6 : Int32) : ld_T p l e ({ frames := 2, cells := 0, slots := 0, locals := 43 }) s m args below meth c (MQ below (ld_Q w r.2 s.heap.size (some (.int r.1))) args s 0 0 (ld_A w s.heap.size)) w r (kX4_touched_179 a1 a2 a3 a4 Z v5 v6) Z 0 0 179 [some (.ref (ld_ad w 67)), some (.int a1), some (.int a2), some (.int a3), some (.int a4), some (.int v5), some (.int v6), none, none, none] [] := by
  unfold kX4_touched_179
  refine lj_iload C rfl dX4_touched_179 ?_
  exact lj_rb C (by decide) (by decide) dX4_touched_181
def kX4_touched_170 (a1 : Int32) (a2 : Int32) (a3 : Int32) (a4 : Int32) (k : ld_M → Int32 → Int32 → Option (Int32 × ld_M)) (Z : ld_M) (v5 : Int32) (v6 : Int32) (v7 : Int32) (v8 : Int32) (v9 : Int32) (t0 : Int32) (t1 : Int32) : Option (Int32 × ld_M) := k Z (t1 + t0) (v6 + 1)
set_option maxHeartbeats 4000000 in
set_option maxRecDepth 100000 in
theorem bX4_touched_170 {p : Program} {e : Env} {s : State} {m : MethodId} {args : Array Value} {below : List Frame} {meth : Method} {c : Code} (l : Launch) (w : ld_E) (a1 : Int32) (a2 : Int32) (a3 : Int32) (a4 : Int32) {r : Int32 × ld_M} (C : ld_C p l s m args meth c cX4_touched 10 (some .int) wsX4_touched RX4 w) (k : ld_M → Int32 → Int32 → Option (Int32 × ld_M)) (hk : ∀ (Z : ld_M) (u0 : Int32) (u1 : Int32), ld_T p l e ({ frames := 2, cells := 0, slots := 0, locals := 43 }) s m args below meth c (MQ below (ld_Q w r.2 s.heap.size (some (.int r.1))) args s 0 0 (ld_A w s.heap.size)) w r (k Z u0 u1) Z 0 0 43 [some (.ref (ld_ad w 67)), some (.int a1), some (.int a2), some (.int a3), some (.int a4), some (.int u0), some (.int u1), none, none, none] []) (Z : ld_M) (v5 : Int32) (v6 : Int32) (v7 : Int32) (v8 : Int32) (v9 : Int32) (t0 : Int32) (t1 : Int32) : ld_T p l e ({ frames := 2, cells := 0, slots := 0, locals := 43 }) s m args below meth c (MQ below (ld_Q w r.2 s.heap.size (some (.int r.1))) args s 0 0 (ld_A w s.heap.size)) w r (kX4_touched_170 a1 a2 a3 a4 k Z v5 v6 v7 v8 v9 t0 t1) Z 0 0 170 [some (.ref (ld_ad w 67)), some (.int a1), some (.int a2), some (.int a3), some (.int a4), some (.int v5), some (.int v6), some (.int v7), some (.int v8), some (.int v9)] [.int t0, .int t1] := by
  unfold kX4_touched_170
  refine lj_iadd C dX4_touched_170 ?_
  refine lj_istore C (lv2 := [some (.ref (ld_ad w 67)), some (.int a1), some (.int a2), some (.int a3), some (.int a4), some (.int (t1 + t0)), some (.int v6), some (.int v7), some (.int v8), some (.int v9)]) (Nat.le_of_ble_eq_true rfl) rfl dX4_touched_171 ?_
  refine lj_iinc C (i := 6) (v := (v6 + 1)) (lv2 := [some (.ref (ld_ad w 67)), some (.int a1), some (.int a2), some (.int a3), some (.int a4), some (.int (t1 + t0)), some (.int (v6 + 1)), some (.int v7), some (.int v8), some (.int v9)]) rfl rfl rfl dX4_touched_173 ?_
  refine lj_goto C (tgt := 43) dX4_touched_176 (by decide) ?_
  refine lj_forget (lv2 := [some (.ref (ld_ad w 67)), some (.int a1), some (.int a2), some (.int a3), some (.int a4), some (.int (t1 + t0)), some (.int (v6 + 1)), none, none, none]) (by simp [ld_le]) ?_
  exact hk Z (t1 + t0) (v6 + 1)
def kX4_touched_169 (a1 : Int32) (a2 : Int32) (a3 : Int32) (a4 : Int32) (k : ld_M → Int32 → Int32 → Option (Int32 × ld_M)) (Z : ld_M) (v5 : Int32) (v6 : Int32) (v7 : Int32) (v8 : Int32) (v9 : Int32) (t0 : Int32) : Option (Int32 × ld_M) := kX4_touched_170 a1 a2 a3 a4 (k) Z v5 v6 v7 v8 v9 0 t0
set_option maxHeartbeats 4000000 in
set_option maxRecDepth 100000 in
theorem bX4_touched_169 {p : Program} {e : Env} {s : State} {m : MethodId} {args : Array Value} {below : List Frame} {meth : Method} {c : Code} (l : Launch) (w : ld_E) (a1 : Int32) (a2 : Int32) (a3 : Int32) (a4 : Int32) {r : Int32 × ld_M} (C : ld_C p l s m args meth c cX4_touched 10 (some .int) wsX4_touched RX4 w) (k : ld_M → Int32 → Int32 → Option (Int32 × ld_M)) (hk : ∀ (Z : ld_M) (u0 : Int32) (u1 : Int32), ld_T p l e ({ frames := 2, cells := 0, slots := 0, locals := 43 }) s m args below meth c (MQ below (ld_Q w r.2 s.heap.size (some (.int r.1))) args s 0 0 (ld_A w s.heap.size)) w r (k Z u0 u1) Z 0 0 43 [some (.ref (ld_ad w 67)), some (.int a1), some (.int a2), some (.int a3), some (.int a4), some (.int u0), some (.int u1), none, none, none] []) (Z : ld_M) (v5 : Int32) (v6 : Int32) (v7 : Int32) (v8 : Int32) (v9 : Int32) (t0 : Int32) : ld_T p l e ({ frames := 2, cells := 0, slots := 0, locals := 43 }) s m args below meth c (MQ below (ld_Q w r.2 s.heap.size (some (.int r.1))) args s 0 0 (ld_A w s.heap.size)) w r (kX4_touched_169 a1 a2 a3 a4 k Z v5 v6 v7 v8 v9 t0) Z 0 0 169 [some (.ref (ld_ad w 67)), some (.int a1), some (.int a2), some (.int a3), some (.int a4), some (.int v5), some (.int v6), some (.int v7), some (.int v8), some (.int v9)] [.int t0] := by
  unfold kX4_touched_169
  refine lj_iconst C (v := 0) (by decide) dX4_touched_169 ?_
  exact bX4_touched_170 l w a1 a2 a3 a4 C (k) (fun Z9 u0 u1 => hk Z9 u0 u1) Z v5 v6 v7 v8 v9 0 t0
def kX4_touched_128 (a1 : Int32) (a2 : Int32) (a3 : Int32) (a4 : Int32) (k : ld_M → Int32 → Int32 → Option (Int32 × ld_M)) (Z : ld_M) (v5 : Int32) (v6 : Int32) (v7 : Int32) (v8 : Int32) (t0 : Int32) : Option (Int32 × ld_M) := if (t0 : Int32) = (-1) then (kX4_touched_169 a1 a2 a3 a4 (k) Z v5 v6 v7 v8 t0 v5) else (ld_bd (kX4_through Z a2 a3 t0) (fun x142 => ld_ck (ld_g a1 20) (ld_ck (ld_g a1 20) (ld_bd (kX4_through Z (Z 68 a1.toNatClampNeg) (Z 69 a1.toNatClampNeg) t0) (fun x159 => if (x142 : Int32) = x159 then (kX4_touched_169 a1 a2 a3 a4 (k) Z v5 v6 v7 v8 t0 v5) else (kX4_touched_170 a1 a2 a3 a4 (k) Z v5 v6 v7 v8 t0 1 v5))))))
set_option maxHeartbeats 4000000 in
set_option maxRecDepth 100000 in
theorem bX4_touched_128 {p : Program} {e : Env} {s : State} {m : MethodId} {args : Array Value} {below : List Frame} {meth : Method} {c : Code} (l : Launch) (w : ld_E) (a1 : Int32) (a2 : Int32) (a3 : Int32) (a4 : Int32) {r : Int32 × ld_M} (C : ld_C p l s m args meth c cX4_touched 10 (some .int) wsX4_touched RX4 w) (k : ld_M → Int32 → Int32 → Option (Int32 × ld_M)) (hk : ∀ (Z : ld_M) (u0 : Int32) (u1 : Int32), ld_T p l e ({ frames := 2, cells := 0, slots := 0, locals := 43 }) s m args below meth c (MQ below (ld_Q w r.2 s.heap.size (some (.int r.1))) args s 0 0 (ld_A w s.heap.size)) w r (k Z u0 u1) Z 0 0 43 [some (.ref (ld_ad w 67)), some (.int a1), some (.int a2), some (.int a3), some (.int a4), some (.int u0), some (.int u1), none, none, none] []) (Z : ld_M) (v5 : Int32) (v6 : Int32) (v7 : Int32) (v8 : Int32) (t0 : Int32) : ld_T p l e ({ frames := 2, cells := 0, slots := 0, locals := 43 }) s m args below meth c (MQ below (ld_Q w r.2 s.heap.size (some (.int r.1))) args s 0 0 (ld_A w s.heap.size)) w r (kX4_touched_128 a1 a2 a3 a4 k Z v5 v6 v7 v8 t0) Z 0 0 128 [some (.ref (ld_ad w 67)), some (.int a1), some (.int a2), some (.int a3), some (.int a4), some (.int v5), some (.int v6), some (.int v7), some (.int v8), none] [.int t0] := by
  unfold kX4_touched_128
  refine lj_istore C (lv2 := [some (.ref (ld_ad w 67)), some (.int a1), some (.int a2), some (.int a3), some (.int a4), some (.int v5), some (.int v6), some (.int v7), some (.int v8), some (.int t0)]) (Nat.le_of_ble_eq_true rfl) rfl dX4_touched_128 ?_
  refine lj_iload C rfl dX4_touched_130 ?_
  refine lj_iload C rfl dX4_touched_132 ?_
  refine lj_iconst C (v := (-1)) (by decide) dX4_touched_134 ?_
  refine lj_icmp_eq C (tgt := 169) dX4_touched_135 (by decide) ?_ ?_
  · exact bX4_touched_169 l w a1 a2 a3 a4 C (k) (fun Z9 u0 u1 => hk Z9 u0 u1) Z v5 v6 v7 v8 t0 v5
  · refine lj_iload_n C rfl rfl dX4_touched_138 ?_
    refine lj_iload_n C rfl rfl dX4_touched_139 ?_
    refine lj_iload C rfl dX4_touched_140 ?_
    refine lj_cSa C (As := [.int a2, .int a3, .int t0]) (rest := [.int v5]) (fun sz x hx => zX4_through l w Z a2 a3 t0 hx sz) (va_cwS 3 C.2.2.2.2.1 gX4_touched_X4_through rfl rfl rfl (by decide +kernel) ⟨Nat.le_of_ble_eq_true rfl, Nat.le_of_ble_eq_true rfl⟩) rfl rfl rfl (Nat.le_of_ble_eq_true rfl) ⟨Nat.le_of_ble_eq_true rfl, Nat.le_of_ble_eq_true rfl⟩ dX4_touched_142 (fun x142 hx142 => ?_)
    refine lj_aload_n C rfl rfl dX4_touched_145 ?_
    refine lj_get C (i := 67) (kk := 1) (G := (ld_f4 w)) (v := .ref (ld_ad w 68)) (Tb := TX4) (N := 23) (by decide) (fun _ => rfl) rfl inX4_touched_4 (by decide) (List.mem_of_getElem? (i := 5) rfl) rfl rfl dX4_touched_146 ?_
    refine lj_iload_n C rfl rfl dX4_touched_149 ?_
    refine lj_iald C (n := 20) (by decide) (fun _ => rfl) dX4_touched_150 ?_
    refine lj_aload_n C rfl rfl dX4_touched_151 ?_
    refine lj_get C (i := 67) (kk := 2) (G := (ld_f4 w)) (v := .ref (ld_ad w 69)) (Tb := TX4) (N := 23) (by decide) (fun _ => rfl) rfl inX4_touched_4 (by decide) (List.mem_of_getElem? (i := 6) rfl) rfl rfl dX4_touched_152 ?_
    refine lj_iload_n C rfl rfl dX4_touched_155 ?_
    refine lj_iald C (n := 20) (by decide) (fun _ => rfl) dX4_touched_156 ?_
    refine lj_iload C rfl dX4_touched_157 ?_
    refine lj_cSa C (As := [.int (Z 68 a1.toNatClampNeg), .int (Z 69 a1.toNatClampNeg), .int t0]) (rest := [.int x142, .int v5]) (fun sz x hx => zX4_through l w Z (Z 68 a1.toNatClampNeg) (Z 69 a1.toNatClampNeg) t0 hx sz) (va_cwS 3 C.2.2.2.2.1 gX4_touched_X4_through rfl rfl rfl (by decide +kernel) ⟨Nat.le_of_ble_eq_true rfl, Nat.le_of_ble_eq_true rfl⟩) rfl rfl rfl (Nat.le_of_ble_eq_true rfl) ⟨Nat.le_of_ble_eq_true rfl, Nat.le_of_ble_eq_true rfl⟩ dX4_touched_159 (fun x159 hx159 => ?_)
    refine lj_icmp_eq C (tgt := 169) dX4_touched_162 (by decide) ?_ ?_
    · exact bX4_touched_169 l w a1 a2 a3 a4 C (k) (fun Z9 u0 u1 => hk Z9 u0 u1) Z v5 v6 v7 v8 t0 v5
    · refine lj_iconst C (v := 1) (by decide) dX4_touched_165 ?_
      refine lj_goto C (tgt := 170) dX4_touched_166 (by decide) ?_
      exact bX4_touched_170 l w a1 a2 a3 a4 C (k) (fun Z9 u0 u1 => hk Z9 u0 u1) Z v5 v6 v7 v8 t0 1 v5
def kX4_touched_102 (a1 : Int32) (a2 : Int32) (a3 : Int32) (a4 : Int32) (k : ld_M → Int32 → Int32 → Option (Int32 × ld_M)) (Z : ld_M) (v5 : Int32) (v6 : Int32) (v7 : Int32) (t0 : Int32) : Option (Int32 × ld_M) := if (t0 : Int32) = 0 then (kX4_touched_128 a1 a2 a3 a4 (k) Z v5 v6 v7 t0 (-1)) else (ld_ck (ld_g ((12 * v6) + v7) 240) (kX4_touched_128 a1 a2 a3 a4 (k) Z v5 v6 v7 t0 ((Z 77 ((12 * v6) + v7).toNatClampNeg) - 1)))
set_option maxHeartbeats 4000000 in
set_option maxRecDepth 100000 in
theorem bX4_touched_102 {p : Program} {e : Env} {s : State} {m : MethodId} {args : Array Value} {below : List Frame} {meth : Method} {c : Code} (l : Launch) (w : ld_E) (a1 : Int32) (a2 : Int32) (a3 : Int32) (a4 : Int32) {r : Int32 × ld_M} (C : ld_C p l s m args meth c cX4_touched 10 (some .int) wsX4_touched RX4 w) (k : ld_M → Int32 → Int32 → Option (Int32 × ld_M)) (hk : ∀ (Z : ld_M) (u0 : Int32) (u1 : Int32), ld_T p l e ({ frames := 2, cells := 0, slots := 0, locals := 43 }) s m args below meth c (MQ below (ld_Q w r.2 s.heap.size (some (.int r.1))) args s 0 0 (ld_A w s.heap.size)) w r (k Z u0 u1) Z 0 0 43 [some (.ref (ld_ad w 67)), some (.int a1), some (.int a2), some (.int a3), some (.int a4), some (.int u0), some (.int u1), none, none, none] []) (Z : ld_M) (v5 : Int32) (v6 : Int32) (v7 : Int32) (t0 : Int32) : ld_T p l e ({ frames := 2, cells := 0, slots := 0, locals := 43 }) s m args below meth c (MQ below (ld_Q w r.2 s.heap.size (some (.int r.1))) args s 0 0 (ld_A w s.heap.size)) w r (kX4_touched_102 a1 a2 a3 a4 k Z v5 v6 v7 t0) Z 0 0 102 [some (.ref (ld_ad w 67)), some (.int a1), some (.int a2), some (.int a3), some (.int a4), some (.int v5), some (.int v6), some (.int v7), none, none] [.int t0] := by
  unfold kX4_touched_102
  refine lj_istore C (lv2 := [some (.ref (ld_ad w 67)), some (.int a1), some (.int a2), some (.int a3), some (.int a4), some (.int v5), some (.int v6), some (.int v7), some (.int t0), none]) (Nat.le_of_ble_eq_true rfl) rfl dX4_touched_102 ?_
  refine lj_iload C rfl dX4_touched_104 ?_
  refine lj_if_eq C (tgt := 127) dX4_touched_106 (by decide) ?_ ?_
  · refine lj_iconst C (v := (-1)) (by decide) dX4_touched_127 ?_
    exact bX4_touched_128 l w a1 a2 a3 a4 C (k) (fun Z9 u0 u1 => hk Z9 u0 u1) Z v5 v6 v7 t0 (-1)
  · refine lj_aload_n C rfl rfl dX4_touched_109 ?_
    refine lj_get C (i := 67) (kk := 11) (G := (ld_f4 w)) (v := .ref (ld_ad w 77)) (Tb := TX4) (N := 23) (by decide) (fun _ => rfl) rfl inX4_touched_4 (by decide) (List.mem_of_getElem? (i := 4) rfl) rfl rfl dX4_touched_110 ?_
    refine lj_bipush C (v := 12) (by decide) dX4_touched_113 ?_
    refine lj_iload C rfl dX4_touched_115 ?_
    refine lj_imul C dX4_touched_117 ?_
    refine lj_iload C rfl dX4_touched_118 ?_
    refine lj_iadd C dX4_touched_120 ?_
    refine lj_iald C (n := 240) (by decide) (fun _ => rfl) dX4_touched_121 ?_
    refine lj_iconst C (v := 1) (by decide) dX4_touched_122 ?_
    refine lj_isub C dX4_touched_123 ?_
    refine lj_goto C (tgt := 128) dX4_touched_124 (by decide) ?_
    exact bX4_touched_128 l w a1 a2 a3 a4 C (k) (fun Z9 u0 u1 => hk Z9 u0 u1) Z v5 v6 v7 t0 ((Z 77 ((12 * v6) + v7).toNatClampNeg) - 1)
def kX4_touched_101 (a1 : Int32) (a2 : Int32) (a3 : Int32) (a4 : Int32) (k : ld_M → Int32 → Int32 → Option (Int32 × ld_M)) (Z : ld_M) (v5 : Int32) (v6 : Int32) (v7 : Int32) : Option (Int32 × ld_M) := kX4_touched_102 a1 a2 a3 a4 (k) Z v5 v6 v7 0
set_option maxHeartbeats 4000000 in
set_option maxRecDepth 100000 in
theorem bX4_touched_101 {p : Program} {e : Env} {s : State} {m : MethodId} {args : Array Value} {below : List Frame} {meth : Method} {c : Code} (l : Launch) (w : ld_E) (a1 : Int32) (a2 : Int32) (a3 : Int32) (a4 : Int32) {r : Int32 × ld_M} (C : ld_C p l s m args meth c cX4_touched 10 (some .int) wsX4_touched RX4 w) (k : ld_M → Int32 → Int32 → Option (Int32 × ld_M)) (hk : ∀ (Z : ld_M) (u0 : Int32) (u1 : Int32), ld_T p l e ({ frames := 2, cells := 0, slots := 0, locals := 43 }) s m args below meth c (MQ below (ld_Q w r.2 s.heap.size (some (.int r.1))) args s 0 0 (ld_A w s.heap.size)) w r (k Z u0 u1) Z 0 0 43 [some (.ref (ld_ad w 67)), some (.int a1), some (.int a2), some (.int a3), some (.int a4), some (.int u0), some (.int u1), none, none, none] []) (Z : ld_M) (v5 : Int32) (v6 : Int32) (v7 : Int32) : ld_T p l e ({ frames := 2, cells := 0, slots := 0, locals := 43 }) s m args below meth c (MQ below (ld_Q w r.2 s.heap.size (some (.int r.1))) args s 0 0 (ld_A w s.heap.size)) w r (kX4_touched_101 a1 a2 a3 a4 k Z v5 v6 v7) Z 0 0 101 [some (.ref (ld_ad w 67)), some (.int a1), some (.int a2), some (.int a3), some (.int a4), some (.int v5), some (.int v6), some (.int v7), none, none] [] := by
  unfold kX4_touched_101
  refine lj_iconst C (v := 0) (by decide) dX4_touched_101 ?_
  exact bX4_touched_102 l w a1 a2 a3 a4 C (k) (fun Z9 u0 u1 => hk Z9 u0 u1) Z v5 v6 v7 0
def kX4_touched_43 (a1 : Int32) (a2 : Int32) (a3 : Int32) (a4 : Int32) : Nat → ld_M → Int32 → Int32 → Option (Int32 × ld_M)
  | 0, _, _, _ => none
  | n + 1, Z, v5, v6 => if (20 : Int32) ≤ v6 then (kX4_touched_179 a1 a2 a3 a4 Z v5 v6) else (if ((Z 67 22) : Int32) = 0 then (ld_ck (ld_g ((20 * a4) + a1) 80) (ld_ck (decide (¬ (10 : Int32) = 0)) (ld_ck (decide (¬ (10 : Int32) = 0)) (ld_ck (ld_g (v6 / 10) 2) (if ((Z 73 (v6 / 10).toNatClampNeg) : Int32) ≤ (v6 - v6 / 10 * 10) then (kX4_touched_101 a1 a2 a3 a4 (kX4_touched_43 a1 a2 a3 a4 n) Z v5 v6 ((Z 70 ((20 * a4) + a1).toNatClampNeg) - 1)) else (if (((Z 70 ((20 * a4) + a1).toNatClampNeg) - 1) : Int32) = (-1) then (kX4_touched_101 a1 a2 a3 a4 (kX4_touched_43 a1 a2 a3 a4 n) Z v5 v6 ((Z 70 ((20 * a4) + a1).toNatClampNeg) - 1)) else (kX4_touched_102 a1 a2 a3 a4 (kX4_touched_43 a1 a2 a3 a4 n) Z v5 v6 ((Z 70 ((20 * a4) + a1).toNatClampNeg) - 1) 1))))))) else (kX4_touched_179 a1 a2 a3 a4 Z v5 v6))
set_option maxHeartbeats 4000000 in
set_option maxRecDepth 100000 in
theorem bX4_touched_43 {p : Program} {e : Env} {s : State} {m : MethodId} {args : Array Value} {below : List Frame} {meth : Method} {c : Code} (l : Launch) (w : ld_E) (a1 : Int32) (a2 : Int32) (a3 : Int32) (a4 : Int32) {r : Int32 × ld_M} (C : ld_C p l s m args meth c cX4_touched 10 (some .int) wsX4_touched RX4 w) : ∀ (n : Nat) (Z : ld_M) (v5 : Int32) (v6 : Int32), ld_T p l e ({ frames := 2, cells := 0, slots := 0, locals := 43 }) s m args below meth c (MQ below (ld_Q w r.2 s.heap.size (some (.int r.1))) args s 0 0 (ld_A w s.heap.size)) w r (kX4_touched_43 a1 a2 a3 a4 n Z v5 v6) Z 0 0 43 [some (.ref (ld_ad w 67)), some (.int a1), some (.int a2), some (.int a3), some (.int a4), some (.int v5), some (.int v6), none, none, none] [] := by
  intro n
  induction n with
  | zero => exact fun _ _ _ h => nomatch h
  | succ n ih =>
    intro Z v5 v6
    refine lj_iload C rfl dX4_touched_43 ?_
    refine lj_bipush C (v := 20) (by decide) dX4_touched_45 ?_
    refine lj_icmp_ge C (tgt := 179) dX4_touched_47 (by decide) ?_ ?_
    · exact bX4_touched_179 l w a1 a2 a3 a4 C Z v5 v6
    · refine lj_aload_n C rfl rfl dX4_touched_50 ?_
      refine lj_get C (i := 67) (kk := 22) (G := (ld_f4 w)) (v := .int (Z 67 22)) (Tb := TX4) (N := 23) (by decide) (fun _ => rfl) rfl inX4_touched_4 (by decide) (List.mem_of_getElem? (i := 1) rfl) rfl rfl dX4_touched_51 ?_
      refine lj_if_ne C (tgt := 179) dX4_touched_54 (by decide) ?_ ?_
      · exact bX4_touched_179 l w a1 a2 a3 a4 C Z v5 v6
      · refine lj_aload_n C rfl rfl dX4_touched_57 ?_
        refine lj_get C (i := 67) (kk := 3) (G := (ld_f4 w)) (v := .ref (ld_ad w 70)) (Tb := TX4) (N := 23) (by decide) (fun _ => rfl) rfl inX4_touched_4 (by decide) (List.mem_of_getElem? (i := 2) rfl) rfl rfl dX4_touched_58 ?_
        refine lj_bipush C (v := 20) (by decide) dX4_touched_61 ?_
        refine lj_iload C rfl dX4_touched_63 ?_
        refine lj_imul C dX4_touched_65 ?_
        refine lj_iload_n C rfl rfl dX4_touched_66 ?_
        refine lj_iadd C dX4_touched_67 ?_
        refine lj_iald C (n := 80) (by decide) (fun _ => rfl) dX4_touched_68 ?_
        refine lj_iconst C (v := 1) (by decide) dX4_touched_69 ?_
        refine lj_isub C dX4_touched_70 ?_
        refine lj_istore C (lv2 := [some (.ref (ld_ad w 67)), some (.int a1), some (.int a2), some (.int a3), some (.int a4), some (.int v5), some (.int v6), some (.int ((Z 70 ((20 * a4) + a1).toNatClampNeg) - 1)), none, none]) (Nat.le_of_ble_eq_true rfl) rfl dX4_touched_71 ?_
        refine lj_iload C rfl dX4_touched_73 ?_
        refine lj_bipush C (v := 10) (by decide) dX4_touched_75 ?_
        refine lj_irem C dX4_touched_77 ?_
        refine lj_aload_n C rfl rfl dX4_touched_78 ?_
        refine lj_get C (i := 67) (kk := 7) (G := (ld_f4 w)) (v := .ref (ld_ad w 73)) (Tb := TX4) (N := 23) (by decide) (fun _ => rfl) rfl inX4_touched_4 (by decide) (List.mem_of_getElem? (i := 3) rfl) rfl rfl dX4_touched_79 ?_
        refine lj_iload C rfl dX4_touched_82 ?_
        refine lj_bipush C (v := 10) (by decide) dX4_touched_84 ?_
        refine lj_idiv C dX4_touched_86 ?_
        refine lj_iald C (n := 2) (by decide) (fun _ => rfl) dX4_touched_87 ?_
        refine lj_icmp_ge C (tgt := 101) dX4_touched_88 (by decide) ?_ ?_
        · exact bX4_touched_101 l w a1 a2 a3 a4 C (kX4_touched_43 a1 a2 a3 a4 n) (fun Z9 u0 u1 => ih Z9 u0 u1) Z v5 v6 ((Z 70 ((20 * a4) + a1).toNatClampNeg) - 1)
        · refine lj_iload C rfl dX4_touched_91 ?_
          refine lj_iconst C (v := (-1)) (by decide) dX4_touched_93 ?_
          refine lj_icmp_eq C (tgt := 101) dX4_touched_94 (by decide) ?_ ?_
          · exact bX4_touched_101 l w a1 a2 a3 a4 C (kX4_touched_43 a1 a2 a3 a4 n) (fun Z9 u0 u1 => ih Z9 u0 u1) Z v5 v6 ((Z 70 ((20 * a4) + a1).toNatClampNeg) - 1)
          · refine lj_iconst C (v := 1) (by decide) dX4_touched_97 ?_
            refine lj_goto C (tgt := 102) dX4_touched_98 (by decide) ?_
            exact bX4_touched_102 l w a1 a2 a3 a4 C (kX4_touched_43 a1 a2 a3 a4 n) (fun Z9 u0 u1 => ih Z9 u0 u1) Z v5 v6 ((Z 70 ((20 * a4) + a1).toNatClampNeg) - 1) 1
def kX4_touched_34 (a1 : Int32) (a2 : Int32) (a3 : Int32) (a4 : Int32) (Z : ld_M) (t0 : Int32) : Option (Int32 × ld_M) := kX4_touched_43 a1 a2 a3 a4 ld_fu (ld_up Z 67 22 t0) 0 0
set_option maxHeartbeats 4000000 in
set_option maxRecDepth 100000 in
theorem bX4_touched_34 {p : Program} {e : Env} {s : State} {m : MethodId} {args : Array Value} {below : List Frame} {meth : Method} {c : Code} (l : Launch) (w : ld_E) (a1 : Int32) (a2 : Int32) (a3 : Int32) (a4 : Int32) {r : Int32 × ld_M} (C : ld_C p l s m args meth c cX4_touched 10 (some .int) wsX4_touched RX4 w) (Z : ld_M) (t0 : Int32) : ld_T p l e ({ frames := 2, cells := 0, slots := 0, locals := 43 }) s m args below meth c (MQ below (ld_Q w r.2 s.heap.size (some (.int r.1))) args s 0 0 (ld_A w s.heap.size)) w r (kX4_touched_34 a1 a2 a3 a4 Z t0) Z 0 0 34 [some (.ref (ld_ad w 67)), some (.int a1), some (.int a2), some (.int a3), some (.int a4), none, none, none, none, none] [.int t0, .ref (ld_ad w 67)] := by
  unfold kX4_touched_34
  refine lj_put C (i := 67) (kk := 22) (G := (ld_f4 w)) (Tb := TX4) (N := 23) (by decide) (fun _ => rfl) rfl inX4_touched_4 (by decide) (List.mem_of_getElem? (i := 1) rfl) rfl tyX4 tyX4_ok nmX4 rfl (by decide +kernel) (Nat.le_of_ble_eq_true rfl) rfl dX4_touched_34 ?_
  refine lj_iconst C (v := 0) (by decide) dX4_touched_37 ?_
  refine lj_istore C (lv2 := [some (.ref (ld_ad w 67)), some (.int a1), some (.int a2), some (.int a3), some (.int a4), some (.int 0), none, none, none, none]) (Nat.le_of_ble_eq_true rfl) rfl dX4_touched_38 ?_
  refine lj_iconst C (v := 0) (by decide) dX4_touched_40 ?_
  refine lj_istore C (lv2 := [some (.ref (ld_ad w 67)), some (.int a1), some (.int a2), some (.int a3), some (.int a4), some (.int 0), some (.int 0), none, none, none]) (Nat.le_of_ble_eq_true rfl) rfl dX4_touched_41 ?_
  exact bX4_touched_43 l w a1 a2 a3 a4 C ld_fu (ld_up Z 67 22 t0) 0 0
def kX4_touched_29 (a1 : Int32) (a2 : Int32) (a3 : Int32) (a4 : Int32) (Z : ld_M)  : Option (Int32 × ld_M) := kX4_touched_34 a1 a2 a3 a4 Z 2
set_option maxHeartbeats 4000000 in
set_option maxRecDepth 100000 in
theorem bX4_touched_29 {p : Program} {e : Env} {s : State} {m : MethodId} {args : Array Value} {below : List Frame} {meth : Method} {c : Code} (l : Launch) (w : ld_E) (a1 : Int32) (a2 : Int32) (a3 : Int32) (a4 : Int32) {r : Int32 × ld_M} (C : ld_C p l s m args meth c cX4_touched 10 (some .int) wsX4_touched RX4 w) (Z : ld_M)  : ld_T p l e ({ frames := 2, cells := 0, slots := 0, locals := 43 }) s m args below meth c (MQ below (ld_Q w r.2 s.heap.size (some (.int r.1))) args s 0 0 (ld_A w s.heap.size)) w r (kX4_touched_29 a1 a2 a3 a4 Z ) Z 0 0 29 [some (.ref (ld_ad w 67)), some (.int a1), some (.int a2), some (.int a3), some (.int a4), none, none, none, none, none] [.ref (ld_ad w 67)] := by
  unfold kX4_touched_29
  refine lj_iconst C (v := 2) (by decide) dX4_touched_29 ?_
  refine lj_goto C (tgt := 34) dX4_touched_30 (by decide) ?_
  exact bX4_touched_34 l w a1 a2 a3 a4 C Z 2
def kX4_touched (Z : ld_M) (a1 : Int32) (a2 : Int32) (a3 : Int32) (a4 : Int32) : Option (Int32 × ld_M) := ld_bd (kX4_isLamp Z a1) (fun x3 => if (x3 : Int32) = 0 then (kX4_touched_34 a1 a2 a3 a4 Z 1) else (ld_bd (kX4_isMade Z a2 a3) (fun x15 => if (x15 : Int32) = 0 then (kX4_touched_29 a1 a2 a3 a4 Z) else (ld_bd (kX4_isNight Z a4) (fun x23 => if (x23 : Int32) = 0 then (kX4_touched_29 a1 a2 a3 a4 Z) else (kX4_touched_34 a1 a2 a3 a4 Z 0))))))
set_option maxHeartbeats 4000000 in
set_option maxRecDepth 100000 in
theorem zX4_touched (l : Launch) (w : ld_E) (Z : ld_M) (a1 : Int32) (a2 : Int32) (a3 : Int32) (a4 : Int32)  {r : Int32 × ld_M} (hr : kX4_touched Z a1 a2 a3 a4 = some r) (sz : Nat) : Met l yX4_touched wsX4_touched ({ frames := 2, cells := 0, slots := 0, locals := 43 }) (ld_Pc w Z sz [.ref (ld_ad w 67), .int a1, .int a2, .int a3, .int a4]) (ld_Q w r.2 sz (some (.int r.1))) 0 0 (ld_A w sz) := by
  refine ld_ofW (ws := wsX4_touched) (Qc := fun sz9 => ld_Q w r.2 sz9 (some (.int r.1))) RX4 (by decide +kernel) rfl rfl (by simp [Value.category]) (Nat.le_of_ble_eq_true rfl) sz ?_
  intro p e s m args below meth c C
  revert hr
  show ld_T p l e ({ frames := 2, cells := 0, slots := 0, locals := 43 }) s m args below meth c (MQ below (ld_Q w r.2 s.heap.size (some (.int r.1))) args s 0 0 (ld_A w s.heap.size)) w r (kX4_touched Z a1 a2 a3 a4) Z 0 0 0 [some (.ref (ld_ad w 67)), some (.int a1), some (.int a2), some (.int a3), some (.int a4), none, none, none, none, none] []
  unfold kX4_touched
  refine lj_aload_n C rfl rfl dX4_touched_0 ?_
  refine lj_aload_n C rfl rfl dX4_touched_1 ?_
  refine lj_iload_n C rfl rfl dX4_touched_2 ?_
  refine lj_cVa C (As := [.int a1]) (rest := [.ref (ld_ad w 67)]) (i := 67) (ci := 4) (Cn := RX4) (Tb := TX4) (N := 23) (fs := (ld_f4 w) (Z 67)) (fun sz x hx => zX4_isLamp l w Z a1 hx sz) (cwV 1 C.2.2.2.2.1 gX4_touched_X4_isLamp rfl rfl rfl (by decide +kernel) ⟨Nat.le_of_ble_eq_true rfl, Nat.le_of_ble_eq_true rfl⟩) (by decide) ((fun _ => rfl) _) rfl rfl rfl rfl (Nat.le_of_ble_eq_true rfl) ⟨Nat.le_of_ble_eq_true rfl, Nat.le_of_ble_eq_true rfl⟩ dX4_touched_3 (fun x3 hx3 => ?_)
  refine lj_if_ne C (tgt := 13) dX4_touched_6 (by decide) ?_ ?_
  · refine lj_iload_n C rfl rfl dX4_touched_13 ?_
    refine lj_iload_n C rfl rfl dX4_touched_14 ?_
    refine lj_cSa C (As := [.int a2, .int a3]) (rest := [.ref (ld_ad w 67)]) (fun sz x hx => zX4_isMade l w Z a2 a3 hx sz) (va_cwS 2 C.2.2.2.2.1 gX4_touched_X4_isMade rfl rfl rfl (by decide +kernel) ⟨Nat.le_of_ble_eq_true rfl, Nat.le_of_ble_eq_true rfl⟩) rfl rfl rfl (Nat.le_of_ble_eq_true rfl) ⟨Nat.le_of_ble_eq_true rfl, Nat.le_of_ble_eq_true rfl⟩ dX4_touched_15 (fun x15 hx15 => ?_)
    refine lj_if_eq C (tgt := 29) dX4_touched_18 (by decide) ?_ ?_
    · exact bX4_touched_29 l w a1 a2 a3 a4 C Z
    · refine lj_iload C rfl dX4_touched_21 ?_
      refine lj_cSa C (As := [.int a4]) (rest := [.ref (ld_ad w 67)]) (fun sz x hx => zX4_isNight l w Z a4 hx sz) (va_cwS 1 C.2.2.2.2.1 gX4_touched_X4_isNight rfl rfl rfl (by decide +kernel) ⟨Nat.le_of_ble_eq_true rfl, Nat.le_of_ble_eq_true rfl⟩) rfl rfl rfl (Nat.le_of_ble_eq_true rfl) ⟨Nat.le_of_ble_eq_true rfl, Nat.le_of_ble_eq_true rfl⟩ dX4_touched_23 (fun x23 hx23 => ?_)
      refine lj_if_ne C (tgt := 33) dX4_touched_26 (by decide) ?_ ?_
      · refine lj_iconst C (v := 0) (by decide) dX4_touched_33 ?_
        exact bX4_touched_34 l w a1 a2 a3 a4 C Z 0
      · exact bX4_touched_29 l w a1 a2 a3 a4 C Z
  · refine lj_iconst C (v := 1) (by decide) dX4_touched_9 ?_
    refine lj_goto C (tgt := 34) dX4_touched_10 (by decide) ?_
    exact bX4_touched_34 l w a1 a2 a3 a4 C Z 1
