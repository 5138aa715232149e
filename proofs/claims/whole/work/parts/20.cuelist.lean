def kX3_isChannel_15 (a1 : Int32) (Z : ld_M) (t0 : Int32) : Option (Int32) := ld_ck (ld_b t0) (some t0)
set_option maxHeartbeats 4000000 in
set_option maxRecDepth 100000 in
theorem bX3_isChannel_15 {p : Program} {e : Env} {s : State} {m : MethodId} {args : Array Value} {below : List Frame} {meth : Method} {c : Code} (l : Launch) (w : ld_E) (a1 : Int32)   {r : Int32} (C : ld_C p l s m args meth c cX3_isChannel 1 (some .boolean) wsX3_isChannel RX3 w) (Z : ld_M) (t0 : Int32) : ld_T p l e ({ frames := 0, cells := 0, slots := 0, locals := 0 }) s m args below meth c (MQ below (ld_Q w Z s.heap.size (some (.int r))) args s 0 0 (ld_A w s.heap.size)) w r (kX3_isChannel_15 a1 Z t0) Z 0 0 15 [some (.int a1)] [.int t0] := by
  unfold kX3_isChannel_15
  exact lj_ra_z C (by decide) (by decide) dX3_isChannel_15
def kX3_isChannel_14 (a1 : Int32) (Z : ld_M)  : Option (Int32) := kX3_isChannel_15 a1 Z 0
set_option maxHeartbeats 4000000 in
set_option maxRecDepth 100000 in
theorem bX3_isChannel_14 {p : Program} {e : Env} {s : State} {m : MethodId} {args : Array Value} {below : List Frame} {meth : Method} {c : Code} (l : Launch) (w : ld_E) (a1 : Int32)   {r : Int32} (C : ld_C p l s m args meth c cX3_isChannel 1 (some .boolean) wsX3_isChannel RX3 w) (Z : ld_M)  : ld_T p l e ({ frames := 0, cells := 0, slots := 0, locals := 0 }) s m args below meth c (MQ below (ld_Q w Z s.heap.size (some (.int r))) args s 0 0 (ld_A w s.heap.size)) w r (kX3_isChannel_14 a1 Z ) Z 0 0 14 [some (.int a1)] [] := by
  unfold kX3_isChannel_14
  refine lj_iconst C (v := 0) (by decide) dX3_isChannel_14 ?_
  exact bX3_isChannel_15 l w a1 C Z 0
def kX3_isChannel (Z : ld_M) (a1 : Int32) : Option (Int32) := if (a1 : Int32) < 0 then (kX3_isChannel_14 a1 Z) else (if (12 : Int32) ≤ a1 then (kX3_isChannel_14 a1 Z) else (kX3_isChannel_15 a1 Z 1))
set_option maxHeartbeats 4000000 in
set_option maxRecDepth 100000 in
theorem zX3_isChannel (l : Launch) (w : ld_E) (Z : ld_M) (a1 : Int32)  {r : Int32} (hr : kX3_isChannel Z a1 = some r) (sz : Nat) : Met l yX3_isChannel wsX3_isChannel ({ frames := 0, cells := 0, slots := 0, locals := 0 }) (ld_Pc w Z sz [.int a1]) (ld_Q w Z sz (some (.int r))) 0 0 (ld_A w sz) := by
  refine ld_ofW (ws := wsX3_isChannel) (Qc := fun sz9 => ld_Q w Z sz9 (some (.int r))) RX3 (by decide +kernel) rfl rfl (by simp [Value.category]) (Nat.le_of_ble_eq_true rfl) sz ?_
  intro p e s m args below meth c C
  revert hr
  show ld_T p l e ({ frames := 0, cells := 0, slots := 0, locals := 0 }) s m args below meth c (MQ below (ld_Q w Z s.heap.size (some (.int r))) args s 0 0 (ld_A w s.heap.size)) w r (kX3_isChannel Z a1) Z 0 0 0 [some (.int a1)] []
  unfold kX3_isChannel
  refine lj_iload_n C rfl rfl dX3_isChannel_0 ?_
  refine lj_if_lt C (tgt := 14) dX3_isChannel_1 (by decide) ?_ ?_
  · exact bX3_isChannel_14 l w a1 C Z
  · refine lj_iload_n C rfl rfl dX3_isChannel_4 ?_
    refine lj_bipush C (v := 12) (by decide) dX3_isChannel_5 ?_
    refine lj_icmp_ge C (tgt := 14) dX3_isChannel_7 (by decide) ?_ ?_
    · exact bX3_isChannel_14 l w a1 C Z
    · refine lj_iconst C (v := 1) (by decide) dX3_isChannel_10 ?_
      refine lj_goto C (tgt := 15) dX3_isChannel_11 (by decide) ?_
      exact bX3_isChannel_15 l w a1 C Z 1
def kX3_isNight_14 (a1 : Int32) (Z : ld_M) (t0 : Int32) : Option (Int32) := ld_ck (ld_b t0) (some t0)
set_option maxHeartbeats 4000000 in
set_option maxRecDepth 100000 in
theorem bX3_isNight_14 {p : Program} {e : Env} {s : State} {m : MethodId} {args : Array Value} {below : List Frame} {meth : Method} {c : Code} (l : Launch) (w : ld_E) (a1 : Int32)   {r : Int32} (C : ld_C p l s m args meth c cX3_isNight 1 (some .boolean) wsX3_isNight RX3 w) (Z : ld_M) (t0 : Int32) : ld_T p l e ({ frames := 0, cells := 0, slots := 0, locals := 0 }) s m args below meth c (MQ below (ld_Q w Z s.heap.size (some (.int r))) args s 0 0 (ld_A w s.heap.size)) w r (kX3_isNight_14 a1 Z t0) Z 0 0 14 [some (.int a1)] [.int t0] := by
  unfold kX3_isNight_14
  exact lj_ra_z C (by decide) (by decide) dX3_isNight_14
def kX3_isNight_13 (a1 : Int32) (Z : ld_M)  : Option (Int32) := kX3_isNight_14 a1 Z 0
set_option maxHeartbeats 4000000 in
set_option maxRecDepth 100000 in
theorem bX3_isNight_13 {p : Program} {e : Env} {s : State} {m : MethodId} {args : Array Value} {below : List Frame} {meth : Method} {c : Code} (l : Launch) (w : ld_E) (a1 : Int32)   {r : Int32} (C : ld_C p l s m args meth c cX3_isNight 1 (some .boolean) wsX3_isNight RX3 w) (Z : ld_M)  : ld_T p l e ({ frames := 0, cells := 0, slots := 0, locals := 0 }) s m args below meth c (MQ below (ld_Q w Z s.heap.size (some (.int r))) args s 0 0 (ld_A w s.heap.size)) w r (kX3_isNight_13 a1 Z ) Z 0 0 13 [some (.int a1)] [] := by
  unfold kX3_isNight_13
  refine lj_iconst C (v := 0) (by decide) dX3_isNight_13 ?_
  exact bX3_isNight_14 l w a1 C Z 0
def kX3_isNight (Z : ld_M) (a1 : Int32) : Option (Int32) := if (a1 : Int32) < 0 then (kX3_isNight_13 a1 Z) else (if (4 : Int32) ≤ a1 then (kX3_isNight_13 a1 Z) else (kX3_isNight_14 a1 Z 1))
set_option maxHeartbeats 4000000 in
set_option maxRecDepth 100000 in
theorem zX3_isNight (l : Launch) (w : ld_E) (Z : ld_M) (a1 : Int32)  {r : Int32} (hr : kX3_isNight Z a1 = some r) (sz : Nat) : Met l yX3_isNight wsX3_isNight ({ frames := 0, cells := 0, slots := 0, locals := 0 }) (ld_Pc w Z sz [.int a1]) (ld_Q w Z sz (some (.int r))) 0 0 (ld_A w sz) := by
  refine ld_ofW (ws := wsX3_isNight) (Qc := fun sz9 => ld_Q w Z sz9 (some (.int r))) RX3 (by decide +kernel) rfl rfl (by simp [Value.category]) (Nat.le_of_ble_eq_true rfl) sz ?_
  intro p e s m args below meth c C
  revert hr
  show ld_T p l e ({ frames := 0, cells := 0, slots := 0, locals := 0 }) s m args below meth c (MQ below (ld_Q w Z s.heap.size (some (.int r))) args s 0 0 (ld_A w s.heap.size)) w r (kX3_isNight Z a1) Z 0 0 0 [some (.int a1)] []
  unfold kX3_isNight
  refine lj_iload_n C rfl rfl dX3_isNight_0 ?_
  refine lj_if_lt C (tgt := 13) dX3_isNight_1 (by decide) ?_ ?_
  · exact bX3_isNight_13 l w a1 C Z
  · refine lj_iload_n C rfl rfl dX3_isNight_4 ?_
    refine lj_iconst C (v := 4) (by decide) dX3_isNight_5 ?_
    refine lj_icmp_ge C (tgt := 13) dX3_isNight_6 (by decide) ?_ ?_
    · exact bX3_isNight_13 l w a1 C Z
    · refine lj_iconst C (v := 1) (by decide) dX3_isNight_9 ?_
      refine lj_goto C (tgt := 14) dX3_isNight_10 (by decide) ?_
      exact bX3_isNight_14 l w a1 C Z 1
theorem inX0_size_0 : ∀ q ∈ u_ws RX0 TX0 9, q ∈ wsX0_size := fun _ h => List.mem_cons_of_mem _ (List.mem_append_right _ h)
def kX0_size (Z : ld_M) (b : Nat) : Option (Int32) := some (Z b 6)
set_option maxHeartbeats 4000000 in
set_option maxRecDepth 100000 in
theorem zX0_size (l : Launch) (w : ld_E) (Z : ld_M) (b : Nat) (hb : b = 11 ∨ b = 28) {r : Int32} (hr : kX0_size Z b = some r) (sz : Nat) : Met l yX0_size wsX0_size ({ frames := 0, cells := 0, slots := 0, locals := 0 }) (ld_Pc w Z sz [.ref (ld_ad w b)]) (ld_Q w Z sz (some (.int r))) 0 0 (ld_A w sz) := by
  refine ld_ofW (ws := wsX0_size) (Qc := fun sz9 => ld_Q w Z sz9 (some (.int r))) RX0 (by decide +kernel) rfl rfl (by simp [Value.category]) (Nat.le_of_ble_eq_true rfl) sz ?_
  intro p e s m args below meth c C
  revert hr
  show ld_T p l e ({ frames := 0, cells := 0, slots := 0, locals := 0 }) s m args below meth c (MQ below (ld_Q w Z s.heap.size (some (.int r))) args s 0 0 (ld_A w s.heap.size)) w r (kX0_size Z b) Z 0 0 0 [some (.ref (ld_ad w b))] []
  unfold kX0_size
  refine lj_aload_n C rfl rfl dX0_size_0 ?_
  refine lj_get C (i := b) (kk := 6) (G := (ld_f0 w b)) (v := .int (Z b 6)) (Tb := TX0) (N := 9) (ld_q_lt0 hb) (ld_q_cell hb) rfl inX0_size_0 (by decide) (List.mem_of_getElem? (i := 1) rfl) rfl rfl dX0_size_1 ?_
  exact lj_ra C (by decide) (by decide) dX0_size_4
theorem inX0_isFull_0 : ∀ q ∈ u_ws RX0 TX0 9, q ∈ wsX0_isFull := fun _ h => List.mem_cons_of_mem _ (List.mem_append_right _ h)
def kX0_isFull_14 (b : Nat) (Z : ld_M) (t0 : Int32) : Option (Int32) := ld_ck (ld_b t0) (some t0)
set_option maxHeartbeats 4000000 in
set_option maxRecDepth 100000 in
theorem bX0_isFull_14 {p : Program} {e : Env} {s : State} {m : MethodId} {args : Array Value} {below : List Frame} {meth : Method} {c : Code} (l : Launch) (w : ld_E) (b : Nat) (hb : b = 11 ∨ b = 28)  {r : Int32} (C : ld_C p l s m args meth c cX0_isFull 1 (some .boolean) wsX0_isFull RX0 w) (Z : ld_M) (t0 : Int32) : ld_T p l e ({ frames := 0, cells := 0, slots := 0, locals := 0 }) s m args below meth c (MQ below (ld_Q w Z s.heap.size (some (.int r))) args s 0 0 (ld_A w s.heap.size)) w r (kX0_isFull_14 b Z t0) Z 0 0 14 [some (.ref (ld_ad w b))] [.int t0] := by
  unfold kX0_isFull_14
  exact lj_ra_z C (by decide) (by decide) dX0_isFull_14
def kX0_isFull (Z : ld_M) (b : Nat) : Option (Int32) := if ((Z b 6) : Int32) < 10 then (kX0_isFull_14 b Z 0) else (kX0_isFull_14 b Z 1)
set_option maxHeartbeats 4000000 in
set_option maxRecDepth 100000 in
theorem zX0_isFull (l : Launch) (w : ld_E) (Z : ld_M) (b : Nat) (hb : b = 11 ∨ b = 28) {r : Int32} (hr : kX0_isFull Z b = some r) (sz : Nat) : Met l yX0_isFull wsX0_isFull ({ frames := 0, cells := 0, slots := 0, locals := 0 }) (ld_Pc w Z sz [.ref (ld_ad w b)]) (ld_Q w Z sz (some (.int r))) 0 0 (ld_A w sz) := by
  refine ld_ofW (ws := wsX0_isFull) (Qc := fun sz9 => ld_Q w Z sz9 (some (.int r))) RX0 (by decide +kernel) rfl rfl (by simp [Value.category]) (Nat.le_of_ble_eq_true rfl) sz ?_
  intro p e s m args below meth c C
  revert hr
  show ld_T p l e ({ frames := 0, cells := 0, slots := 0, locals := 0 }) s m args below meth c (MQ below (ld_Q w Z s.heap.size (some (.int r))) args s 0 0 (ld_A w s.heap.size)) w r (kX0_isFull Z b) Z 0 0 0 [some (.ref (ld_ad w b))] []
  unfold kX0_isFull
  refine lj_aload_n C rfl rfl dX0_isFull_0 ?_
  refine lj_get C (i := b) (kk := 6) (G := (ld_f0 w b)) (v := .int (Z b 6)) (Tb := TX0) (N := 9) (ld_q_lt0 hb) (ld_q_cell hb) rfl inX0_isFull_0 (by decide) (List.mem_of_getElem? (i := 1) rfl) rfl rfl dX0_isFull_1 ?_
  refine lj_bipush C (v := 10) (by decide) dX0_isFull_4 ?_
  refine lj_icmp_lt C (tgt := 13) dX0_isFull_6 (by decide) ?_ ?_
  · refine lj_iconst C (v := 0) (by decide) dX0_isFull_13 ?_
    exact bX0_isFull_14 l w b hb C Z 0
  · refine lj_iconst C (v := 1) (by decide) dX0_isFull_9 ?_
    refine lj_goto C (tgt := 14) dX0_isFull_10 (by decide) ?_
    exact bX0_isFull_14 l w b hb C Z 1
theorem inX0_has_0 : ∀ q ∈ u_ws RX0 TX0 9, q ∈ wsX0_has := fun _ h => List.mem_cons_of_mem _ (List.mem_append_right _ h)
def kX0_has_17 (b : Nat) (a1 : Int32) (Z : ld_M) (t0 : Int32) : Option (Int32) := ld_ck (ld_b t0) (some t0)
set_option maxHeartbeats 4000000 in
set_option maxRecDepth 100000 in
theorem bX0_has_17 {p : Program} {e : Env} {s : State} {m : MethodId} {args : Array Value} {below : List Frame} {meth : Method} {c : Code} (l : Launch) (w : ld_E) (b : Nat) (a1 : Int32) (hb : b = 11 ∨ b = 28)  {r : Int32} (C : ld_C p l s m args meth c cX0_has 2 (some .boolean) wsX0_has RX0 w) (Z : ld_M) (t0 : Int32) : ld_T p l e ({ frames := 0, cells := 0, slots := 0, locals := 0 }) s m args below meth c (MQ below (ld_Q w Z s.heap.size (some (.int r))) args s 0 0 (ld_A w s.heap.size)) w r (kX0_has_17 b a1 Z t0) Z 0 0 17 [some (.ref (ld_ad w b)), some (.int a1)] [.int t0] := by
  unfold kX0_has_17
  exact lj_ra_z C (by decide) (by decide) dX0_has_17
def kX0_has_16 (b : Nat) (a1 : Int32) (Z : ld_M)  : Option (Int32) := kX0_has_17 b a1 Z 0
set_option maxHeartbeats 4000000 in
set_option maxRecDepth 100000 in
theorem bX0_has_16 {p : Program} {e : Env} {s : State} {m : MethodId} {args : Array Value} {below : List Frame} {meth : Method} {c : Code} (l : Launch) (w : ld_E) (b : Nat) (a1 : Int32) (hb : b = 11 ∨ b = 28)  {r : Int32} (C : ld_C p l s m args meth c cX0_has 2 (some .boolean) wsX0_has RX0 w) (Z : ld_M)  : ld_T p l e ({ frames := 0, cells := 0, slots := 0, locals := 0 }) s m args below meth c (MQ below (ld_Q w Z s.heap.size (some (.int r))) args s 0 0 (ld_A w s.heap.size)) w r (kX0_has_16 b a1 Z ) Z 0 0 16 [some (.ref (ld_ad w b)), some (.int a1)] [] := by
  unfold kX0_has_16
  refine lj_iconst C (v := 0) (by decide) dX0_has_16 ?_
  exact bX0_has_17 l w b a1 hb C Z 0
def kX0_has (Z : ld_M) (b : Nat) (a1 : Int32) : Option (Int32) := if (a1 : Int32) < 0 then (kX0_has_16 b a1 Z) else (if ((Z b 6) : Int32) ≤ a1 then (kX0_has_16 b a1 Z) else (kX0_has_17 b a1 Z 1))
set_option maxHeartbeats 4000000 in
set_option maxRecDepth 100000 in
theorem zX0_has (l : Launch) (w : ld_E) (Z : ld_M) (b : Nat) (a1 : Int32) (hb : b = 11 ∨ b = 28) {r : Int32} (hr : kX0_has Z b a1 = some r) (sz : Nat) : Met l yX0_has wsX0_has ({ frames := 0, cells := 0, slots := 0, locals := 0 }) (ld_Pc w Z sz [.ref (ld_ad w b), .int a1]) (ld_Q w Z sz (some (.int r))) 0 0 (ld_A w sz) := by
  refine ld_ofW (ws := wsX0_has) (Qc := fun sz9 => ld_Q w Z sz9 (some (.int r))) RX0 (by decide +kernel) rfl rfl (by simp [Value.category]) (Nat.le_of_ble_eq_true rfl) sz ?_
  intro p e s m args below meth c C
  revert hr
  show ld_T p l e ({ frames := 0, cells := 0, slots := 0, locals := 0 }) s m args below meth c (MQ below (ld_Q w Z s.heap.size (some (.int r))) args s 0 0 (ld_A w s.heap.size)) w r (kX0_has Z b a1) Z 0 0 0 [some (.ref (ld_ad w b)), some (.int a1)] []
  unfold kX0_has
  refine lj_iload_n C rfl rfl dX0_has_0 ?_
  refine lj_if_lt C (tgt := 16) dX0_has_1 (by decide) ?_ ?_
  · exact bX0_has_16 l w b a1 hb C Z
  · refine lj_iload_n C rfl rfl dX0_has_4 ?_
    refine lj_aload_n C rfl rfl dX0_has_5 ?_
    refine lj_get C (i := b) (kk := 6) (G := (ld_f0 w b)) (v := .int (Z b 6)) (Tb := TX0) (N := 9) (ld_q_lt0 hb) (ld_q_cell hb) rfl inX0_has_0 (by decide) (List.mem_of_getElem? (i := 1) rfl) rfl rfl dX0_has_6 ?_
    refine lj_icmp_ge C (tgt := 16) dX0_has_9 (by decide) ?_ ?_
    · exact bX0_has_16 l w b a1 hb C Z
    · refine lj_iconst C (v := 1) (by decide) dX0_has_12 ?_
      refine lj_goto C (tgt := 17) dX0_has_13 (by decide) ?_
      exact bX0_has_17 l w b a1 hb C Z 1
theorem inX0_add_0 : ∀ q ∈ u_ws RX0 TX0 9, q ∈ wsX0_add := fun _ h => List.mem_cons_of_mem _ (List.mem_append_right _ h)
def kX0_add_18 (b : Nat) (a1 : Int32) (a2 : Int32) (a3 : Int32) (Z : ld_M) (v4 : Int32) : Option (Int32 × ld_M) := some ((-1), Z)
set_option maxHeartbeats 4000000 in
set_option maxRecDepth 100000 in
theorem bX0_add_18 {p : Program} {e : Env} {s : State} {m : MethodId} {args : Array Value} {below : List Frame} {meth : Method} {c : Code} (l : Launch) (w : ld_E) (b : Nat) (a1 : Int32) (a2 : Int32) (a3 : Int32) (hb : b = 11 ∨ b = 28) {r : Int32 × ld_M} (C : ld_C p l s m args meth c cX0_add 5 (some .int) wsX0_add RX0 w) (Z : ld_M) (v4 : Int32) : ld_T p l e ({ frames := 0, cells := 0, slots := 0, locals := 0 }) s m args below meth c (MQ below (ld_Q w r.2 s.heap.size (some (.int r.1))) args s 0 0 (ld_A w s.heap.size)) w r (kX0_add_18 b a1 a2 a3 Z v4) Z 0 0 18 [some (.ref (ld_ad w b)), some (.int a1), some (.int a2), some (.int a3), some (.int v4)] [] := by
  unfold kX0_add_18
  refine lj_iconst C (v := (-1)) (by decide) dX0_add_18 ?_
  exact lj_rb C (by decide) (by decide) dX0_add_19
def kX0_add (Z : ld_M) (b : Nat) (a1 : Int32) (a2 : Int32) (a3 : Int32) : Option (Int32 × ld_M) := if ((Z b 6) : Int32) < 0 then (kX0_add_18 b a1 a2 a3 Z (Z b 6)) else (if ((Z b 6) : Int32) < 10 then (ld_ck (ld_g (Z b 6) 10) (ld_ck (ld_g (Z b 6) 10) (ld_ck (ld_g (Z b 6) 10 && ld_b a3) (some ((Z b 6), (ld_up (ld_up (ld_up (ld_up Z b 6 ((Z b 6) + 1)) (b + 1) (Z b 6).toNatClampNeg a1) (b + 2) (Z b 6).toNatClampNeg a2) (b + 3) (Z b 6).toNatClampNeg a3)))))) else (kX0_add_18 b a1 a2 a3 Z (Z b 6)))
set_option maxHeartbeats 4000000 in
set_option maxRecDepth 100000 in
theorem zX0_add (l : Launch) (w : ld_E) (Z : ld_M) (b : Nat) (a1 : Int32) (a2 : Int32) (a3 : Int32) (hb : b = 11 ∨ b = 28) {r : Int32 × ld_M} (hr : kX0_add Z b a1 a2 a3 = some r) (sz : Nat) : Met l yX0_add wsX0_add ({ frames := 0, cells := 0, slots := 0, locals := 0 }) (ld_Pc w Z sz [.ref (ld_ad w b), .int a1, .int a2, .int a3]) (ld_Q w r.2 sz (some (.int r.1))) 0 0 (ld_A w sz) := by
  refine ld_ofW (ws := wsX0_add) (Qc := fun sz9 => ld_Q w r.2 sz9 (some (.int r.1))) RX0 (by decide +kernel) rfl rfl (by simp [Value.category]) (Nat.le_of_ble_eq_true rfl) sz ?_
  intro p e s m args below meth c C
  revert hr
  show ld_T p l e ({ frames := 0, cells := 0, slots := 0, locals := 0 }) s m args below meth c (MQ below (ld_Q w r.2 s.heap.size (some (.int r.1))) args s 0 0 (ld_A w s.heap.size)) w r (kX0_add Z b a1 a2 a3) Z 0 0 0 [some (.ref (ld_ad w b)), some (.int a1), some (.int a2), some (.int a3), none] []
  unfold kX0_add
  refine lj_aload_n C rfl rfl dX0_add_0 ?_
  refine lj_get C (i := b) (kk := 6) (G := (ld_f0 w b)) (v := .int (Z b 6)) (Tb := TX0) (N := 9) (ld_q_lt0 hb) (ld_q_cell hb) rfl inX0_add_0 (by decide) (List.mem_of_getElem? (i := 1) rfl) rfl rfl dX0_add_1 ?_
  refine lj_istore C (lv2 := [some (.ref (ld_ad w b)), some (.int a1), some (.int a2), some (.int a3), some (.int (Z b 6))]) (Nat.le_of_ble_eq_true rfl) rfl dX0_add_4 ?_
  refine lj_iload C rfl dX0_add_6 ?_
  refine lj_if_lt C (tgt := 18) dX0_add_8 (by decide) ?_ ?_
  · exact bX0_add_18 l w b a1 a2 a3 hb C Z (Z b 6)
  · refine lj_iload C rfl dX0_add_11 ?_
    refine lj_bipush C (v := 10) (by decide) dX0_add_13 ?_
    refine lj_icmp_lt C (tgt := 20) dX0_add_15 (by decide) ?_ ?_
    · refine lj_aload_n C rfl rfl dX0_add_20 ?_
      refine lj_dup C rfl dX0_add_21 ?_
      refine lj_get C (i := b) (kk := 6) (G := (ld_f0 w b)) (v := .int (Z b 6)) (Tb := TX0) (N := 9) (ld_q_lt0 hb) (ld_q_cell hb) rfl inX0_add_0 (by decide) (List.mem_of_getElem? (i := 1) rfl) rfl rfl dX0_add_22 ?_
      refine lj_iconst C (v := 1) (by decide) dX0_add_25 ?_
      refine lj_iadd C dX0_add_26 ?_
      refine lj_put C (i := b) (kk := 6) (G := (ld_f0 w b)) (Tb := TX0) (N := 9) (ld_q_lt0 hb) (ld_q_cell hb) rfl inX0_add_0 (by decide) (List.mem_of_getElem? (i := 1) rfl) rfl tyX0 tyX0_ok nmX0 rfl (by decide +kernel) (Nat.le_of_ble_eq_true rfl) rfl dX0_add_27 ?_
      refine lj_aload_n C rfl rfl dX0_add_30 ?_
      refine lj_get C (i := b) (kk := 0) (G := (ld_f0 w b)) (v := .ref (ld_ad w (b + 1))) (Tb := TX0) (N := 9) (ld_q_lt0 hb) (ld_q_cell hb) rfl inX0_add_0 (by decide) (List.mem_of_getElem? (i := 2) rfl) rfl rfl dX0_add_31 ?_
      refine lj_iload C rfl dX0_add_34 ?_
      refine lj_iload_n C rfl rfl dX0_add_36 ?_
      refine lj_iast C (n := 10) (ld_q_lt hb (by decide)) (ld_q_delays hb) dX0_add_37 ?_
      refine lj_aload_n C rfl rfl dX0_add_38 ?_
      refine lj_get C (i := b) (kk := 1) (G := (ld_f0 w b)) (v := .ref (ld_ad w (b + 2))) (Tb := TX0) (N := 9) (ld_q_lt0 hb) (ld_q_cell hb) rfl inX0_add_0 (by decide) (List.mem_of_getElem? (i := 3) rfl) rfl rfl dX0_add_39 ?_
      refine lj_iload C rfl dX0_add_42 ?_
      refine lj_iload_n C rfl rfl dX0_add_44 ?_
      refine lj_iast C (n := 10) (ld_q_lt hb (by decide)) (ld_q_fades hb) dX0_add_45 ?_
      refine lj_aload_n C rfl rfl dX0_add_46 ?_
      refine lj_get C (i := b) (kk := 2) (G := (ld_f0 w b)) (v := .ref (ld_ad w (b + 3))) (Tb := TX0) (N := 9) (ld_q_lt0 hb) (ld_q_cell hb) rfl inX0_add_0 (by decide) (List.mem_of_getElem? (i := 4) rfl) rfl rfl dX0_add_47 ?_
      refine lj_iload C rfl dX0_add_50 ?_
      refine lj_iload_n C rfl rfl dX0_add_52 ?_
      refine lj_zast C (n := 10) (ld_q_lt hb (by decide)) (ld_q_follow hb) dX0_add_53 ?_
      refine lj_iload C rfl dX0_add_54 ?_
      exact lj_rb C (by decide) (by decide) dX0_add_56
    · exact bX0_add_18 l w b a1 a2 a3 hb C Z (Z b 6)
theorem inX0_told_0 : ∀ q ∈ u_ws RX0 TX0 9, q ∈ wsX0_told := fun _ h => List.mem_cons_of_mem _ (List.mem_append_right _ h)
def kX0_told_27 (b : Nat) (a1 : Int32) (a2 : Int32) (Z : ld_M) (t0 : Int32) : Option (Int32) := some t0
set_option maxHeartbeats 4000000 in
set_option maxRecDepth 100000 in
theorem bX0_told_27 {p : Program} {e : Env} {s : State} {m : MethodId} {args : Array Value} {below : List Frame} {meth : Method} {c : Code} (l : Launch) (w : ld_E) (b : Nat) (a1 : Int32) (a2 : Int32) (hb : b = 11 ∨ b = 28)  {r : Int32} (C : ld_C p l s m args meth c cX0_told 3 (some .int) wsX0_told RX0 w) (Z : ld_M) (t0 : Int32) : ld_T p l e ({ frames := 1, cells := 0, slots := 0, locals := 21 }) s m args below meth c (MQ below (ld_Q w Z s.heap.size (some (.int r))) args s 0 0 (ld_A w s.heap.size)) w r (kX0_told_27 b a1 a2 Z t0) Z 0 0 27 [some (.ref (ld_ad w b)), some (.int a1), some (.int a2)] [.int t0] := by
  unfold kX0_told_27
  exact lj_ra C (by decide) (by decide) dX0_told_27
def kX0_told_26 (b : Nat) (a1 : Int32) (a2 : Int32) (Z : ld_M)  : Option (Int32) := kX0_told_27 b a1 a2 Z (-1)
set_option maxHeartbeats 4000000 in
set_option maxRecDepth 100000 in
theorem bX0_told_26 {p : Program} {e : Env} {s : State} {m : MethodId} {args : Array Value} {below : List Frame} {meth : Method} {c : Code} (l : Launch) (w : ld_E) (b : Nat) (a1 : Int32) (a2 : Int32) (hb : b = 11 ∨ b = 28)  {r : Int32} (C : ld_C p l s m args meth c cX0_told 3 (some .int) wsX0_told RX0 w) (Z : ld_M)  : ld_T p l e ({ frames := 1, cells := 0, slots := 0, locals := 21 }) s m args below meth c (MQ below (ld_Q w Z s.heap.size (some (.int r))) args s 0 0 (ld_A w s.heap.size)) w r (kX0_told_26 b a1 a2 Z ) Z 0 0 26 [some (.ref (ld_ad w b)), some (.int a1), some (.int a2)] [] := by
  unfold kX0_told_26
  refine lj_iconst C (v := (-1)) (by decide) dX0_told_26 ?_
  exact bX0_told_27 l w b a1 a2 hb C Z (-1)
def kX0_told (Z : ld_M) (b : Nat) (a1 : Int32) (a2 : Int32) : Option (Int32) := ld_bd (kX0_has Z b a1) (fun x2 => if (x2 : Int32) = 0 then (kX0_told_26 b a1 a2 Z) else (ld_bd (kX3_isChannel Z a2) (fun x9 => if (x9 : Int32) = 0 then (kX0_told_26 b a1 a2 Z) else (ld_ck (ld_g a1 10) (ld_ck (ld_g a2 12) (kX0_told_27 b a1 a2 Z (Z ((b + 7) + a1.toNatClampNeg) a2.toNatClampNeg)))))))
set_option maxHeartbeats 4000000 in
set_option maxRecDepth 100000 in
theorem zX0_told (l : Launch) (w : ld_E) (Z : ld_M) (b : Nat) (a1 : Int32) (a2 : Int32) (hb : b = 11 ∨ b = 28) {r : Int32} (hr : kX0_told Z b a1 a2 = some r) (sz : Nat) : Met l yX0_told wsX0_told ({ frames := 1, cells := 0, slots := 0, locals := 21 }) (ld_Pc w Z sz [.ref (ld_ad w b), .int a1, .int a2]) (ld_Q w Z sz (some (.int r))) 0 0 (ld_A w sz) := by
  refine ld_ofW (ws := wsX0_told) (Qc := fun sz9 => ld_Q w Z sz9 (some (.int r))) RX0 (by decide +kernel) rfl rfl (by simp [Value.category]) (Nat.le_of_ble_eq_true rfl) sz ?_
  intro p e s m args below meth c C
  revert hr
  show ld_T p l e ({ frames := 1, cells := 0, slots := 0, locals := 21 }) s m args below meth c (MQ below (ld_Q w Z s.heap.size (some (.int r))) args s 0 0 (ld_A w s.heap.size)) w r (kX0_told Z b a1 a2) Z 0 0 0 [some (.ref (ld_ad w b)), some (.int a1), some (.int a2)] []
  unfold kX0_told
  refine lj_aload_n C rfl rfl dX0_told_0 ?_
  refine lj_iload_n C rfl rfl dX0_told_1 ?_
  refine lj_cVa C (As := [.int a1]) (rest := []) (i := b) (ci := 0) (Cn := RX0) (Tb := TX0) (N := 9) (fs := (ld_f0 w b) (Z b)) (fun sz x hx => zX0_has l w Z b a1 hb hx sz) (cwV 1 C.2.2.2.2.1 gX0_told_X0_has rfl rfl rfl (by decide +kernel) ⟨Nat.le_of_ble_eq_true rfl, Nat.le_of_ble_eq_true rfl⟩) (ld_q_lt0 hb) ((ld_q_cell hb) _) rfl rfl rfl rfl (Nat.le_of_ble_eq_true rfl) ⟨Nat.le_of_ble_eq_true rfl, Nat.le_of_ble_eq_true rfl⟩ dX0_told_2 (fun x2 hx2 => ?_)
  refine lj_if_eq C (tgt := 26) dX0_told_5 (by decide) ?_ ?_
  · exact bX0_told_26 l w b a1 a2 hb C Z
  · refine lj_iload_n C rfl rfl dX0_told_8 ?_
    refine lj_cNa C (As := [.int a2]) (rest := []) (fun sz x hx => zX3_isChannel l w Z a2 hx sz) ⟨va_cnB 1 C.2.2.2.2.1 gX0_told_X3_isChannel_n50 rfl rfl rfl (C.2.2.2.2.2.2.2.2.1.2.2.2.2 (RX0, 50, yX3_isChannel) (by simp [ld_nest])) (C.2.2.2.2.1 _ (List.mem_of_getElem? (i := 9) rfl)) (by decide +kernel) ⟨Nat.le_of_ble_eq_true rfl, Nat.le_of_ble_eq_true rfl⟩, C.2.2.2.2.1 _ (List.mem_of_getElem? (i := 8) rfl), trivial⟩ rfl rfl rfl (Nat.le_of_ble_eq_true rfl) ⟨Nat.le_of_ble_eq_true rfl, Nat.le_of_ble_eq_true rfl⟩ dX0_told_9 (fun x9 hx9 => ?_)
    refine lj_if_eq C (tgt := 26) dX0_told_12 (by decide) ?_ ?_
    · exact bX0_told_26 l w b a1 a2 hb C Z
    · refine lj_aload_n C rfl rfl dX0_told_15 ?_
      refine lj_get C (i := b) (kk := 3) (G := (ld_f0 w b)) (v := .ref (ld_ad w (b + 4))) (Tb := TX0) (N := 9) (ld_q_lt0 hb) (ld_q_cell hb) rfl inX0_told_0 (by decide) (List.mem_of_getElem? (i := 1) rfl) rfl rfl dX0_told_16 ?_
      refine lj_iload_n C rfl rfl dX0_told_19 ?_
      refine lj_aald C (n := 10) (b := (b + 7)) (ld_q_lt hb (by decide)) (ld_q_levels hb) dX0_told_20 (fun hx20 => ?_)
      refine lj_iload_n C rfl rfl dX0_told_21 ?_
      refine lj_iald C (n := 12) (ld_q_row_lt hb hx20) (ld_q_row hb hx20) dX0_told_22 ?_
      refine lj_goto C (tgt := 27) dX0_told_23 (by decide) ?_
      exact bX0_told_27 l w b a1 a2 hb C Z (Z ((b + 7) + a1.toNatClampNeg) a2.toNatClampNeg)
theorem inX0_toldOrZero_0 : ∀ q ∈ u_ws RX0 TX0 9, q ∈ wsX0_toldOrZero := fun _ h => List.mem_cons_of_mem _ (List.mem_append_right _ h)
def kX0_toldOrZero (Z : ld_M) (b : Nat) (a1 : Int32) (a2 : Int32) : Option (Int32) := ld_bd (kX0_told Z b a1 a2) (fun x4 => some (if 0 < x4 then x4 else 0))
set_option maxHeartbeats 4000000 in
set_option maxRecDepth 100000 in
theorem zX0_toldOrZero (l : Launch) (w : ld_E) (Z : ld_M) (b : Nat) (a1 : Int32) (a2 : Int32) (hb : b = 11 ∨ b = 28) {r : Int32} (hr : kX0_toldOrZero Z b a1 a2 = some r) (sz : Nat) : Met l yX0_toldOrZero wsX0_toldOrZero ({ frames := 2, cells := 0, slots := 0, locals := 43 }) (ld_Pc w Z sz [.ref (ld_ad w b), .int a1, .int a2]) (ld_Q w Z sz (some (.int r))) 0 0 (ld_A w sz) := by
  refine ld_ofW (ws := wsX0_toldOrZero) (Qc := fun sz9 => ld_Q w Z sz9 (some (.int r))) RX0 (by decide +kernel) rfl rfl (by simp [Value.category]) (Nat.le_of_ble_eq_true rfl) sz ?_
  intro p e s m args below meth c C
  revert hr
  show ld_T p l e ({ frames := 2, cells := 0, slots := 0, locals := 43 }) s m args below meth c (MQ below (ld_Q w Z s.heap.size (some (.int r))) args s 0 0 (ld_A w s.heap.size)) w r (kX0_toldOrZero Z b a1 a2) Z 0 0 0 [some (.ref (ld_ad w b)), some (.int a1), some (.int a2)] []
  unfold kX0_toldOrZero
  refine lj_iconst C (v := 0) (by decide) dX0_toldOrZero_0 ?_
  refine lj_aload_n C rfl rfl dX0_toldOrZero_1 ?_
  refine lj_iload_n C rfl rfl dX0_toldOrZero_2 ?_
  refine lj_iload_n C rfl rfl dX0_toldOrZero_3 ?_
  refine lj_cVa C (As := [.int a1, .int a2]) (rest := [.int 0]) (i := b) (ci := 0) (Cn := RX0) (Tb := TX0) (N := 9) (fs := (ld_f0 w b) (Z b)) (fun sz x hx => zX0_told l w Z b a1 a2 hb hx sz) (cwV 2 C.2.2.2.2.1 gX0_toldOrZero_X0_told rfl rfl rfl (by decide +kernel) ⟨Nat.le_of_ble_eq_true rfl, Nat.le_of_ble_eq_true rfl⟩) (ld_q_lt0 hb) ((ld_q_cell hb) _) rfl rfl rfl rfl (Nat.le_of_ble_eq_true rfl) ⟨Nat.le_of_ble_eq_true rfl, Nat.le_of_ble_eq_true rfl⟩ dX0_toldOrZero_4 (fun x4 hx4 => ?_)
  refine lj_max C rfl (List.mem_of_getElem? (i := 1) rfl) (List.mem_of_getElem? (i := 2) rfl) (List.mem_of_getElem? (i := 3) rfl) (List.mem_of_getElem? (i := 4) rfl) (Nat.le_of_ble_eq_true rfl) (Nat.le_of_ble_eq_true rfl) (Nat.le_of_ble_eq_true rfl) (Nat.le_of_ble_eq_true rfl) dX0_toldOrZero_7 ?_
  exact lj_ra C (by decide) (by decide) dX0_toldOrZero_10
theorem inX0_tell_0 : ∀ q ∈ u_ws RX0 TX0 9, q ∈ wsX0_tell := fun _ h => List.mem_cons_of_mem _ (List.mem_append_right _ h)
def kX0_tell_24 (b : Nat) (a1 : Int32) (a2 : Int32) (a3 : Int32) (Z : ld_M)  : Option (ld_M) := some Z
set_option maxHeartbeats 4000000 in
set_option maxRecDepth 100000 in
theorem bX0_tell_24 {p : Program} {e : Env} {s : State} {m : MethodId} {args : Array Value} {below : List Frame} {meth : Method} {c : Code} (l : Launch) (w : ld_E) (b : Nat) (a1 : Int32) (a2 : Int32) (a3 : Int32) (hb : b = 11 ∨ b = 28) {r : ld_M} (C : ld_C p l s m args meth c cX0_tell 4 none wsX0_tell RX0 w) (Z : ld_M)  : ld_T p l e ({ frames := 1, cells := 0, slots := 0, locals := 21 }) s m args below meth c (MQ below (ld_Q w r s.heap.size none) args s 0 0 (ld_A w s.heap.size)) w r (kX0_tell_24 b a1 a2 a3 Z ) Z 0 0 24 [some (.ref (ld_ad w b)), some (.int a1), some (.int a2), some (.int a3)] [] := by
  unfold kX0_tell_24
  exact lj_rv C (by decide) (by decide) dX0_tell_24
def kX0_tell (Z : ld_M) (b : Nat) (a1 : Int32) (a2 : Int32) (a3 : Int32) : Option (ld_M) := ld_bd (kX0_has Z b a1) (fun x2 => if (x2 : Int32) = 0 then (kX0_tell_24 b a1 a2 a3 Z) else (ld_bd (kX3_isChannel Z a2) (fun x9 => if (x9 : Int32) = 0 then (kX0_tell_24 b a1 a2 a3 Z) else (ld_ck (ld_g a1 10) (ld_ck (ld_g a2 12) (kX0_tell_24 b a1 a2 a3 (ld_up Z ((b + 7) + a1.toNatClampNeg) a2.toNatClampNeg a3)))))))
set_option maxHeartbeats 4000000 in
set_option maxRecDepth 100000 in
theorem zX0_tell (l : Launch) (w : ld_E) (Z : ld_M) (b : Nat) (a1 : Int32) (a2 : Int32) (a3 : Int32) (hb : b = 11 ∨ b = 28) {r : ld_M} (hr : kX0_tell Z b a1 a2 a3 = some r) (sz : Nat) : Met l yX0_tell wsX0_tell ({ frames := 1, cells := 0, slots := 0, locals := 21 }) (ld_Pc w Z sz [.ref (ld_ad w b), .int a1, .int a2, .int a3]) (ld_Q w r sz none) 0 0 (ld_A w sz) := by
  refine ld_ofW (ws := wsX0_tell) (Qc := fun sz9 => ld_Q w r sz9 none) RX0 (by decide +kernel) rfl rfl (by simp [Value.category]) (Nat.le_of_ble_eq_true rfl) sz ?_
  intro p e s m args below meth c C
  revert hr
  show ld_T p l e ({ frames := 1, cells := 0, slots := 0, locals := 21 }) s m args below meth c (MQ below (ld_Q w r s.heap.size none) args s 0 0 (ld_A w s.heap.size)) w r (kX0_tell Z b a1 a2 a3) Z 0 0 0 [some (.ref (ld_ad w b)), some (.int a1), some (.int a2), some (.int a3)] []
  unfold kX0_tell
  refine lj_aload_n C rfl rfl dX0_tell_0 ?_
  refine lj_iload_n C rfl rfl dX0_tell_1 ?_
  refine lj_cVa C (As := [.int a1]) (rest := []) (i := b) (ci := 0) (Cn := RX0) (Tb := TX0) (N := 9) (fs := (ld_f0 w b) (Z b)) (fun sz x hx => zX0_has l w Z b a1 hb hx sz) (cwV 1 C.2.2.2.2.1 gX0_tell_X0_has rfl rfl rfl (by decide +kernel) ⟨Nat.le_of_ble_eq_true rfl, Nat.le_of_ble_eq_true rfl⟩) (ld_q_lt0 hb) ((ld_q_cell hb) _) rfl rfl rfl rfl (Nat.le_of_ble_eq_true rfl) ⟨Nat.le_of_ble_eq_true rfl, Nat.le_of_ble_eq_true rfl⟩ dX0_tell_2 (fun x2 hx2 => ?_)
  refine lj_if_eq C (tgt := 24) dX0_tell_5 (by decide) ?_ ?_
  · exact bX0_tell_24 l w b a1 a2 a3 hb C Z
  · refine lj_iload_n C rfl rfl dX0_tell_8 ?_
    refine lj_cNa C (As := [.int a2]) (rest := []) (fun sz x hx => zX3_isChannel l w Z a2 hx sz) ⟨va_cnB 1 C.2.2.2.2.1 gX0_tell_X3_isChannel_n50 rfl rfl rfl (C.2.2.2.2.2.2.2.2.1.2.2.2.2 (RX0, 50, yX3_isChannel) (by simp [ld_nest])) (C.2.2.2.2.1 _ (List.mem_of_getElem? (i := 9) rfl)) (by decide +kernel) ⟨Nat.le_of_ble_eq_true rfl, Nat.le_of_ble_eq_true rfl⟩, C.2.2.2.2.1 _ (List.mem_of_getElem? (i := 8) rfl), trivial⟩ rfl rfl rfl (Nat.le_of_ble_eq_true rfl) ⟨Nat.le_of_ble_eq_true rfl, Nat.le_of_ble_eq_true rfl⟩ dX0_tell_9 (fun x9 hx9 => ?_)
    refine lj_if_eq C (tgt := 24) dX0_tell_12 (by decide) ?_ ?_
    · exact bX0_tell_24 l w b a1 a2 a3 hb C Z
    · refine lj_aload_n C rfl rfl dX0_tell_15 ?_
      refine lj_get C (i := b) (kk := 3) (G := (ld_f0 w b)) (v := .ref (ld_ad w (b + 4))) (Tb := TX0) (N := 9) (ld_q_lt0 hb) (ld_q_cell hb) rfl inX0_tell_0 (by decide) (List.mem_of_getElem? (i := 1) rfl) rfl rfl dX0_tell_16 ?_
      refine lj_iload_n C rfl rfl dX0_tell_19 ?_
      refine lj_aald C (n := 10) (b := (b + 7)) (ld_q_lt hb (by decide)) (ld_q_levels hb) dX0_tell_20 (fun hx20 => ?_)
      refine lj_iload_n C rfl rfl dX0_tell_21 ?_
      refine lj_iload_n C rfl rfl dX0_tell_22 ?_
      refine lj_iast C (n := 12) (ld_q_row_lt hb hx20) (ld_q_row hb hx20) dX0_tell_23 ?_
      exact bX0_tell_24 l w b a1 a2 a3 hb C (ld_up Z ((b + 7) + a1.toNatClampNeg) a2.toNatClampNeg a3)
theorem inX0_countTold_0 : ∀ q ∈ u_ws RX0 TX0 9, q ∈ wsX0_countTold := fun _ h => List.mem_cons_of_mem _ (List.mem_append_right _ h)
def kX0_countTold_23 (b : Nat) (a1 : Int32) (k : ld_M → Int32 → Int32 → Option (Int32)) (Z : ld_M) (v2 : Int32) (v3 : Int32) : Option (Int32) := k Z v2 (v3 + 1)
set_option maxHeartbeats 4000000 in
set_option maxRecDepth 100000 in
theorem bX0_countTold_23 {p : Program} {e : Env} {s : State} {m : MethodId} {args : Array Value} {below : List Frame} {meth : Method} {c : Code} (l : Launch) (w : ld_E) (b : Nat) (a1 : Int32) (hb : b = 11 ∨ b = 28)  {r : Int32} (C : ld_C p l s m args meth c cX0_countTold 4 (some .int) wsX0_countTold RX0 w) (k : ld_M → Int32 → Int32 → Option (Int32)) (hk : ∀ (Z : ld_M) (u0 : Int32) (u1 : Int32), ld_T p l e ({ frames := 2, cells := 0, slots := 0, locals := 43 }) s m args below meth c (MQ below (ld_Q w Z s.heap.size (some (.int r))) args s 0 0 (ld_A w s.heap.size)) w r (k Z u0 u1) Z 0 0 4 [some (.ref (ld_ad w b)), some (.int a1), some (.int u0), some (.int u1)] []) (Z : ld_M) (v2 : Int32) (v3 : Int32) : ld_T p l e ({ frames := 2, cells := 0, slots := 0, locals := 43 }) s m args below meth c (MQ below (ld_Q w Z s.heap.size (some (.int r))) args s 0 0 (ld_A w s.heap.size)) w r (kX0_countTold_23 b a1 k Z v2 v3) Z 0 0 23 [some (.ref (ld_ad w b)), some (.int a1), some (.int v2), some (.int v3)] [] := by
  unfold kX0_countTold_23
  refine lj_iinc C (i := 3) (v := (v3 + 1)) (lv2 := [some (.ref (ld_ad w b)), some (.int a1), some (.int v2), some (.int (v3 + 1))]) rfl rfl rfl dX0_countTold_23 ?_
  refine lj_goto C (tgt := 4) dX0_countTold_26 (by decide) ?_
  exact hk Z v2 (v3 + 1)
def kX0_countTold_4 (b : Nat) (a1 : Int32) : Nat → ld_M → Int32 → Int32 → Option (Int32)
  | 0, _, _, _ => none
  | n + 1, Z, v2, v3 => if (12 : Int32) ≤ v3 then (some v2) else (ld_bd (kX0_told Z b a1 v3) (fun x13 => if (x13 : Int32) = (-1) then (kX0_countTold_23 b a1 (kX0_countTold_4 b a1 n) Z v2 v3) else (kX0_countTold_23 b a1 (kX0_countTold_4 b a1 n) Z (v2 + 1) v3)))
set_option maxHeartbeats 4000000 in
set_option maxRecDepth 100000 in
theorem bX0_countTold_4 {p : Program} {e : Env} {s : State} {m : MethodId} {args : Array Value} {below : List Frame} {meth : Method} {c : Code} (l : Launch) (w : ld_E) (b : Nat) (a1 : Int32) (hb : b = 11 ∨ b = 28)  {r : Int32} (C : ld_C p l s m args meth c cX0_countTold 4 (some .int) wsX0_countTold RX0 w) : ∀ (n : Nat) (Z : ld_M) (v2 : Int32) (v3 : Int32), ld_T p l e ({ frames := 2, cells := 0, slots := 0, locals := 43 }) s m args below meth c (MQ below (ld_Q w Z s.heap.size (some (.int r))) args s 0 0 (ld_A w s.heap.size)) w r (kX0_countTold_4 b a1 n Z v2 v3) Z 0 0 4 [some (.ref (ld_ad w b)), some (.int a1), some (.int v2), some (.int v3)] [] := by
  intro n
  induction n with
  | zero => exact fun _ _ _ h => nomatch h
  | succ n ih =>
    intro Z v2 v3
    refine lj_iload_n C rfl rfl dX0_countTold_4 ?_
    refine lj_bipush C (v := 12) (by decide) dX0_countTold_5 ?_
    refine lj_icmp_ge C (tgt := 29) dX0_countTold_7 (by decide) ?_ ?_
    · refine lj_iload_n C rfl rfl dX0_countTold_29 ?_
      exact lj_ra C (by decide) (by decide) dX0_countTold_30
    · refine lj_aload_n C rfl rfl dX0_countTold_10 ?_
      refine lj_iload_n C rfl rfl dX0_countTold_11 ?_
      refine lj_iload_n C rfl rfl dX0_countTold_12 ?_
      refine lj_cVa C (As := [.int a1, .int v3]) (rest := []) (i := b) (ci := 0) (Cn := RX0) (Tb := TX0) (N := 9) (fs := (ld_f0 w b) (Z b)) (fun sz x hx => zX0_told l w Z b a1 v3 hb hx sz) (cwV 2 C.2.2.2.2.1 gX0_countTold_X0_told rfl rfl rfl (by decide +kernel) ⟨Nat.le_of_ble_eq_true rfl, Nat.le_of_ble_eq_true rfl⟩) (ld_q_lt0 hb) ((ld_q_cell hb) _) rfl rfl rfl rfl (Nat.le_of_ble_eq_true rfl) ⟨Nat.le_of_ble_eq_true rfl, Nat.le_of_ble_eq_true rfl⟩ dX0_countTold_13 (fun x13 hx13 => ?_)
      refine lj_iconst C (v := (-1)) (by decide) dX0_countTold_16 ?_
      refine lj_icmp_eq C (tgt := 23) dX0_countTold_17 (by decide) ?_ ?_
      · exact bX0_countTold_23 l w b a1 hb C (kX0_countTold_4 b a1 n) (fun Z9 u0 u1 => ih Z9 u0 u1) Z v2 v3
      · refine lj_iinc C (i := 2) (v := (v2 + 1)) (lv2 := [some (.ref (ld_ad w b)), some (.int a1), some (.int (v2 + 1)), some (.int v3)]) rfl rfl rfl dX0_countTold_20 ?_
        exact bX0_countTold_23 l w b a1 hb C (kX0_countTold_4 b a1 n) (fun Z9 u0 u1 => ih Z9 u0 u1) Z (v2 + 1) v3
def kX0_countTold (Z : ld_M) (b : Nat) (a1 : Int32) : Option (Int32) := kX0_countTold_4 b a1 ld_fu Z 0 0
set_option maxHeartbeats 4000000 in
set_option maxRecDepth 100000 in
theorem zX0_countTold (l : Launch) (w : ld_E) (Z : ld_M) (b : Nat) (a1 : Int32) (hb : b = 11 ∨ b = 28) {r : Int32} (hr : kX0_countTold Z b a1 = some r) (sz : Nat) : Met l yX0_countTold wsX0_countTold ({ frames := 2, cells := 0, slots := 0, locals := 43 }) (ld_Pc w Z sz [.ref (ld_ad w b), .int a1]) (ld_Q w Z sz (some (.int r))) 0 0 (ld_A w sz) := by
  refine ld_ofW (ws := wsX0_countTold) (Qc := fun sz9 => ld_Q w Z sz9 (some (.int r))) RX0 (by decide +kernel) rfl rfl (by simp [Value.category]) (Nat.le_of_ble_eq_true rfl) sz ?_
  intro p e s m args below meth c C
  revert hr
  show ld_T p l e ({ frames := 2, cells := 0, slots := 0, locals := 43 }) s m args below meth c (MQ below (ld_Q w Z s.heap.size (some (.int r))) args s 0 0 (ld_A w s.heap.size)) w r (kX0_countTold Z b a1) Z 0 0 0 [some (.ref (ld_ad w b)), some (.int a1), none, none] []
  unfold kX0_countTold
  refine lj_iconst C (v := 0) (by decide) dX0_countTold_0 ?_
  refine lj_istore_n C rfl (lv2 := [some (.ref (ld_ad w b)), some (.int a1), some (.int 0), none]) (Nat.le_of_ble_eq_true rfl) rfl dX0_countTold_1 ?_
  refine lj_iconst C (v := 0) (by decide) dX0_countTold_2 ?_
  refine lj_istore_n C rfl (lv2 := [some (.ref (ld_ad w b)), some (.int a1), some (.int 0), some (.int 0)]) (Nat.le_of_ble_eq_true rfl) rfl dX0_countTold_3 ?_
  exact bX0_countTold_4 l w b a1 hb C ld_fu Z 0 0
theorem inX0_begunLast_0 : ∀ q ∈ u_ws RX0 TX0 9, q ∈ wsX0_begunLast := fun _ h => List.mem_cons_of_mem _ (List.mem_append_right _ h)
def kX0_begunLast (Z : ld_M) (b : Nat) : Option (Int32) := some (Z b 7)
set_option maxHeartbeats 4000000 in
set_option maxRecDepth 100000 in
theorem zX0_begunLast (l : Launch) (w : ld_E) (Z : ld_M) (b : Nat) (hb : b = 11 ∨ b = 28) {r : Int32} (hr : kX0_begunLast Z b = some r) (sz : Nat) : Met l yX0_begunLast wsX0_begunLast ({ frames := 0, cells := 0, slots := 0, locals := 0 }) (ld_Pc w Z sz [.ref (ld_ad w b)]) (ld_Q w Z sz (some (.int r))) 0 0 (ld_A w sz) := by
  refine ld_ofW (ws := wsX0_begunLast) (Qc := fun sz9 => ld_Q w Z sz9 (some (.int r))) RX0 (by decide +kernel) rfl rfl (by simp [Value.category]) (Nat.le_of_ble_eq_true rfl) sz ?_
  intro p e s m args below meth c C
  revert hr
  show ld_T p l e ({ frames := 0, cells := 0, slots := 0, locals := 0 }) s m args below meth c (MQ below (ld_Q w Z s.heap.size (some (.int r))) args s 0 0 (ld_A w s.heap.size)) w r (kX0_begunLast Z b) Z 0 0 0 [some (.ref (ld_ad w b))] []
  unfold kX0_begunLast
  refine lj_aload_n C rfl rfl dX0_begunLast_0 ?_
  refine lj_get C (i := b) (kk := 7) (G := (ld_f0 w b)) (v := .int (Z b 7)) (Tb := TX0) (N := 9) (ld_q_lt0 hb) (ld_q_cell hb) rfl inX0_begunLast_0 (by decide) (List.mem_of_getElem? (i := 1) rfl) rfl rfl dX0_begunLast_1 ?_
  exact lj_ra C (by decide) (by decide) dX0_begunLast_4
theorem inX0_levelNow_0 : ∀ q ∈ u_ws RX0 TX0 9, q ∈ wsX0_levelNow := fun _ h => List.mem_cons_of_mem _ (List.mem_append_right _ h)
def kX0_levelNow_18 (b : Nat) (a1 : Int32) (Z : ld_M)  : Option (Int32) := some 0
set_option maxHeartbeats 4000000 in
set_option maxRecDepth 100000 in
theorem bX0_levelNow_18 {p : Program} {e : Env} {s : State} {m : MethodId} {args : Array Value} {below : List Frame} {meth : Method} {c : Code} (l : Launch) (w : ld_E) (b : Nat) (a1 : Int32) (hb : b = 11 ∨ b = 28)  {r : Int32} (C : ld_C p l s m args meth c cX0_levelNow 4 (some .int) wsX0_levelNow RX0 w) (Z : ld_M)  : ld_T p l e ({ frames := 1, cells := 0, slots := 0, locals := 21 }) s m args below meth c (MQ below (ld_Q w Z s.heap.size (some (.int r))) args s 0 0 (ld_A w s.heap.size)) w r (kX0_levelNow_18 b a1 Z ) Z 0 0 18 [some (.ref (ld_ad w b)), some (.int a1), none, none] [] := by
  unfold kX0_levelNow_18
  refine lj_iconst C (v := 0) (by decide) dX0_levelNow_18 ?_
  exact lj_ra C (by decide) (by decide) dX0_levelNow_19
def kX0_levelNow_65 (b : Nat) (a1 : Int32) (Z : ld_M) (v2 : Int32) (v3 : Int32) : Option (Int32) := ld_ck (ld_g a1 12) (some (Z (b + 6) a1.toNatClampNeg))
set_option maxHeartbeats 4000000 in
set_option maxRecDepth 100000 in
theorem bX0_levelNow_65 {p : Program} {e : Env} {s : State} {m : MethodId} {args : Array Value} {below : List Frame} {meth : Method} {c : Code} (l : Launch) (w : ld_E) (b : Nat) (a1 : Int32) (hb : b = 11 ∨ b = 28)  {r : Int32} (C : ld_C p l s m args meth c cX0_levelNow 4 (some .int) wsX0_levelNow RX0 w) (Z : ld_M) (v2 : Int32) (v3 : Int32) : ld_T p l e ({ frames := 1, cells := 0, slots := 0, locals := 21 }) s m args below meth c (MQ below (ld_Q w Z s.heap.size (some (.int r))) args s 0 0 (ld_A w s.heap.size)) w r (kX0_levelNow_65 b a1 Z v2 v3) Z 0 0 65 [some (.ref (ld_ad w b)), some (.int a1), some (.int v2), some (.int v3)] [] := by
  unfold kX0_levelNow_65
  refine lj_aload_n C rfl rfl dX0_levelNow_65 ?_
  refine lj_get C (i := b) (kk := 5) (G := (ld_f0 w b)) (v := .ref (ld_ad w (b + 6))) (Tb := TX0) (N := 9) (ld_q_lt0 hb) (ld_q_cell hb) rfl inX0_levelNow_0 (by decide) (List.mem_of_getElem? (i := 6) rfl) rfl rfl dX0_levelNow_66 ?_
  refine lj_iload_n C rfl rfl dX0_levelNow_69 ?_
  refine lj_iald C (n := 12) (ld_q_lt hb (by decide)) (ld_q_to hb) dX0_levelNow_70 ?_
  exact lj_ra C (by decide) (by decide) dX0_levelNow_71
def kX0_levelNow (Z : ld_M) (b : Nat) (a1 : Int32) : Option (Int32) := ld_bd (kX0_has Z b (Z b 7)) (fun x5 => if (x5 : Int32) = 0 then (kX0_levelNow_18 b a1 Z) else (ld_bd (kX3_isChannel Z a1) (fun x12 => if (x12 : Int32) = 0 then (kX0_levelNow_18 b a1 Z) else (ld_ck (ld_g (Z b 7) 10) (ld_ck (ld_g (Z b 7) 10) (if (0 : Int32) ≤ ((Z b 8) - (Z (b + 1) (Z b 7).toNatClampNeg)) then (if ((Z (b + 2) (Z b 7).toNatClampNeg) : Int32) ≤ 0 then (kX0_levelNow_65 b a1 Z (Z (b + 2) (Z b 7).toNatClampNeg) ((Z b 8) - (Z (b + 1) (Z b 7).toNatClampNeg))) else (if (((Z b 8) - (Z (b + 1) (Z b 7).toNatClampNeg)) : Int32) < (Z (b + 2) (Z b 7).toNatClampNeg) then (ld_ck (ld_g a1 12) (ld_ck (ld_g a1 12) (ld_ck (ld_g a1 12) (ld_ck (decide (¬ ((Z (b + 2) (Z b 7).toNatClampNeg) : Int32) = 0)) (some ((Z (b + 5) a1.toNatClampNeg) + ((((Z (b + 6) a1.toNatClampNeg) - (Z (b + 5) a1.toNatClampNeg)) * ((Z b 8) - (Z (b + 1) (Z b 7).toNatClampNeg))) / (Z (b + 2) (Z b 7).toNatClampNeg)))))))) else (kX0_levelNow_65 b a1 Z (Z (b + 2) (Z b 7).toNatClampNeg) ((Z b 8) - (Z (b + 1) (Z b 7).toNatClampNeg))))) else (ld_ck (ld_g a1 12) (some (Z (b + 5) a1.toNatClampNeg)))))))))
set_option maxHeartbeats 4000000 in
set_option maxRecDepth 100000 in
theorem zX0_levelNow (l : Launch) (w : ld_E) (Z : ld_M) (b : Nat) (a1 : Int32) (hb : b = 11 ∨ b = 28) {r : Int32} (hr : kX0_levelNow Z b a1 = some r) (sz : Nat) : Met l yX0_levelNow wsX0_levelNow ({ frames := 1, cells := 0, slots := 0, locals := 21 }) (ld_Pc w Z sz [.ref (ld_ad w b), .int a1]) (ld_Q w Z sz (some (.int r))) 0 0 (ld_A w sz) := by
  refine ld_ofW (ws := wsX0_levelNow) (Qc := fun sz9 => ld_Q w Z sz9 (some (.int r))) RX0 (by decide +kernel) rfl rfl (by simp [Value.category]) (Nat.le_of_ble_eq_true rfl) sz ?_
  intro p e s m args below meth c C
  revert hr
  show ld_T p l e ({ frames := 1, cells := 0, slots := 0, locals := 21 }) s m args below meth c (MQ below (ld_Q w Z s.heap.size (some (.int r))) args s 0 0 (ld_A w s.heap.size)) w r (kX0_levelNow Z b a1) Z 0 0 0 [some (.ref (ld_ad w b)), some (.int a1), none, none] []
  unfold kX0_levelNow
  refine lj_aload_n C rfl rfl dX0_levelNow_0 ?_
  refine lj_aload_n C rfl rfl dX0_levelNow_1 ?_
  refine lj_get C (i := b) (kk := 7) (G := (ld_f0 w b)) (v := .int (Z b 7)) (Tb := TX0) (N := 9) (ld_q_lt0 hb) (ld_q_cell hb) rfl inX0_levelNow_0 (by decide) (List.mem_of_getElem? (i := 1) rfl) rfl rfl dX0_levelNow_2 ?_
  refine lj_cVa C (As := [.int (Z b 7)]) (rest := []) (i := b) (ci := 0) (Cn := RX0) (Tb := TX0) (N := 9) (fs := (ld_f0 w b) (Z b)) (fun sz x hx => zX0_has l w Z b (Z b 7) hb hx sz) (cwV 1 C.2.2.2.2.1 gX0_levelNow_X0_has rfl rfl rfl (by decide +kernel) ⟨Nat.le_of_ble_eq_true rfl, Nat.le_of_ble_eq_true rfl⟩) (ld_q_lt0 hb) ((ld_q_cell hb) _) rfl rfl rfl rfl (Nat.le_of_ble_eq_true rfl) ⟨Nat.le_of_ble_eq_true rfl, Nat.le_of_ble_eq_true rfl⟩ dX0_levelNow_5 (fun x5 hx5 => ?_)
  refine lj_if_eq C (tgt := 18) dX0_levelNow_8 (by decide) ?_ ?_
  · exact bX0_levelNow_18 l w b a1 hb C Z
  · refine lj_iload_n C rfl rfl dX0_levelNow_11 ?_
    refine lj_cNa C (As := [.int a1]) (rest := []) (fun sz x hx => zX3_isChannel l w Z a1 hx sz) ⟨va_cnB 1 C.2.2.2.2.1 gX0_levelNow_X3_isChannel_n50 rfl rfl rfl (C.2.2.2.2.2.2.2.2.1.2.2.2.2 (RX0, 50, yX3_isChannel) (by simp [ld_nest])) (C.2.2.2.2.1 _ (List.mem_of_getElem? (i := 14) rfl)) (by decide +kernel) ⟨Nat.le_of_ble_eq_true rfl, Nat.le_of_ble_eq_true rfl⟩, C.2.2.2.2.1 _ (List.mem_of_getElem? (i := 13) rfl), trivial⟩ rfl rfl rfl (Nat.le_of_ble_eq_true rfl) ⟨Nat.le_of_ble_eq_true rfl, Nat.le_of_ble_eq_true rfl⟩ dX0_levelNow_12 (fun x12 hx12 => ?_)
    refine lj_if_ne C (tgt := 20) dX0_levelNow_15 (by decide) ?_ ?_
    · refine lj_aload_n C rfl rfl dX0_levelNow_20 ?_
      refine lj_get C (i := b) (kk := 1) (G := (ld_f0 w b)) (v := .ref (ld_ad w (b + 2))) (Tb := TX0) (N := 9) (ld_q_lt0 hb) (ld_q_cell hb) rfl inX0_levelNow_0 (by decide) (List.mem_of_getElem? (i := 2) rfl) rfl rfl dX0_levelNow_21 ?_
      refine lj_aload_n C rfl rfl dX0_levelNow_24 ?_
      refine lj_get C (i := b) (kk := 7) (G := (ld_f0 w b)) (v := .int (Z b 7)) (Tb := TX0) (N := 9) (ld_q_lt0 hb) (ld_q_cell hb) rfl inX0_levelNow_0 (by decide) (List.mem_of_getElem? (i := 1) rfl) rfl rfl dX0_levelNow_25 ?_
      refine lj_iald C (n := 10) (ld_q_lt hb (by decide)) (ld_q_fades hb) dX0_levelNow_28 ?_
      refine lj_istore_n C rfl (lv2 := [some (.ref (ld_ad w b)), some (.int a1), some (.int (Z (b + 2) (Z b 7).toNatClampNeg)), none]) (Nat.le_of_ble_eq_true rfl) rfl dX0_levelNow_29 ?_
      refine lj_aload_n C rfl rfl dX0_levelNow_30 ?_
      refine lj_get C (i := b) (kk := 8) (G := (ld_f0 w b)) (v := .int (Z b 8)) (Tb := TX0) (N := 9) (ld_q_lt0 hb) (ld_q_cell hb) rfl inX0_levelNow_0 (by decide) (List.mem_of_getElem? (i := 3) rfl) rfl rfl dX0_levelNow_31 ?_
      refine lj_aload_n C rfl rfl dX0_levelNow_34 ?_
      refine lj_get C (i := b) (kk := 0) (G := (ld_f0 w b)) (v := .ref (ld_ad w (b + 1))) (Tb := TX0) (N := 9) (ld_q_lt0 hb) (ld_q_cell hb) rfl inX0_levelNow_0 (by decide) (List.mem_of_getElem? (i := 4) rfl) rfl rfl dX0_levelNow_35 ?_
      refine lj_aload_n C rfl rfl dX0_levelNow_38 ?_
      refine lj_get C (i := b) (kk := 7) (G := (ld_f0 w b)) (v := .int (Z b 7)) (Tb := TX0) (N := 9) (ld_q_lt0 hb) (ld_q_cell hb) rfl inX0_levelNow_0 (by decide) (List.mem_of_getElem? (i := 1) rfl) rfl rfl dX0_levelNow_39 ?_
      refine lj_iald C (n := 10) (ld_q_lt hb (by decide)) (ld_q_delays hb) dX0_levelNow_42 ?_
      refine lj_isub C dX0_levelNow_43 ?_
      refine lj_istore_n C rfl (lv2 := [some (.ref (ld_ad w b)), some (.int a1), some (.int (Z (b + 2) (Z b 7).toNatClampNeg)), some (.int ((Z b 8) - (Z (b + 1) (Z b 7).toNatClampNeg)))]) (Nat.le_of_ble_eq_true rfl) rfl dX0_levelNow_44 ?_
      refine lj_iload_n C rfl rfl dX0_levelNow_45 ?_
      refine lj_if_ge C (tgt := 56) dX0_levelNow_46 (by decide) ?_ ?_
      · refine lj_iload_n C rfl rfl dX0_levelNow_56 ?_
        refine lj_if_le C (tgt := 65) dX0_levelNow_57 (by decide) ?_ ?_
        · exact bX0_levelNow_65 l w b a1 hb C Z (Z (b + 2) (Z b 7).toNatClampNeg) ((Z b 8) - (Z (b + 1) (Z b 7).toNatClampNeg))
        · refine lj_iload_n C rfl rfl dX0_levelNow_60 ?_
          refine lj_iload_n C rfl rfl dX0_levelNow_61 ?_
          refine lj_icmp_lt C (tgt := 72) dX0_levelNow_62 (by decide) ?_ ?_
          · refine lj_aload_n C rfl rfl dX0_levelNow_72 ?_
            refine lj_get C (i := b) (kk := 4) (G := (ld_f0 w b)) (v := .ref (ld_ad w (b + 5))) (Tb := TX0) (N := 9) (ld_q_lt0 hb) (ld_q_cell hb) rfl inX0_levelNow_0 (by decide) (List.mem_of_getElem? (i := 5) rfl) rfl rfl dX0_levelNow_73 ?_
            refine lj_iload_n C rfl rfl dX0_levelNow_76 ?_
            refine lj_iald C (n := 12) (ld_q_lt hb (by decide)) (ld_q_from hb) dX0_levelNow_77 ?_
            refine lj_aload_n C rfl rfl dX0_levelNow_78 ?_
            refine lj_get C (i := b) (kk := 5) (G := (ld_f0 w b)) (v := .ref (ld_ad w (b + 6))) (Tb := TX0) (N := 9) (ld_q_lt0 hb) (ld_q_cell hb) rfl inX0_levelNow_0 (by decide) (List.mem_of_getElem? (i := 6) rfl) rfl rfl dX0_levelNow_79 ?_
            refine lj_iload_n C rfl rfl dX0_levelNow_82 ?_
            refine lj_iald C (n := 12) (ld_q_lt hb (by decide)) (ld_q_to hb) dX0_levelNow_83 ?_
            refine lj_aload_n C rfl rfl dX0_levelNow_84 ?_
            refine lj_get C (i := b) (kk := 4) (G := (ld_f0 w b)) (v := .ref (ld_ad w (b + 5))) (Tb := TX0) (N := 9) (ld_q_lt0 hb) (ld_q_cell hb) rfl inX0_levelNow_0 (by decide) (List.mem_of_getElem? (i := 5) rfl) rfl rfl dX0_levelNow_85 ?_
            refine lj_iload_n C rfl rfl dX0_levelNow_88 ?_
            refine lj_iald C (n := 12) (ld_q_lt hb (by decide)) (ld_q_from hb) dX0_levelNow_89 ?_
            refine lj_isub C dX0_levelNow_90 ?_
            refine lj_iload_n C rfl rfl dX0_levelNow_91 ?_
            refine lj_imul C dX0_levelNow_92 ?_
            refine lj_iload_n C rfl rfl dX0_levelNow_93 ?_
            refine lj_idiv C dX0_levelNow_94 ?_
            refine lj_iadd C dX0_levelNow_95 ?_
            exact lj_ra C (by decide) (by decide) dX0_levelNow_96
          · exact bX0_levelNow_65 l w b a1 hb C Z (Z (b + 2) (Z b 7).toNatClampNeg) ((Z b 8) - (Z (b + 1) (Z b 7).toNatClampNeg))
      · refine lj_aload_n C rfl rfl dX0_levelNow_49 ?_
        refine lj_get C (i := b) (kk := 4) (G := (ld_f0 w b)) (v := .ref (ld_ad w (b + 5))) (Tb := TX0) (N := 9) (ld_q_lt0 hb) (ld_q_cell hb) rfl inX0_levelNow_0 (by decide) (List.mem_of_getElem? (i := 5) rfl) rfl rfl dX0_levelNow_50 ?_
        refine lj_iload_n C rfl rfl dX0_levelNow_53 ?_
        refine lj_iald C (n := 12) (ld_q_lt hb (by decide)) (ld_q_from hb) dX0_levelNow_54 ?_
        exact lj_ra C (by decide) (by decide) dX0_levelNow_55
    · exact bX0_levelNow_18 l w b a1 hb C Z
theorem inX0_begin_0 : ∀ q ∈ u_ws RX0 TX0 9, q ∈ wsX0_begin := fun _ h => List.mem_cons_of_mem _ (List.mem_append_right _ h)
def kX0_begin_46 (b : Nat) (a1 : Int32) (k : ld_M → Int32 → Option (ld_M)) (Z : ld_M) (v2 : Int32) (v3 : Int32) (v4 : Int32) (t0 : Int32) (t1 : Int32) : Option (ld_M) := ld_ck (ld_g t1 12) (k (ld_up Z (b + 6) t1.toNatClampNeg t0) (v2 + 1))
set_option maxHeartbeats 4000000 in
set_option maxRecDepth 100000 in
theorem bX0_begin_46 {p : Program} {e : Env} {s : State} {m : MethodId} {args : Array Value} {below : List Frame} {meth : Method} {c : Code} (l : Launch) (w : ld_E) (b : Nat) (a1 : Int32) (hb : b = 11 ∨ b = 28) {r : ld_M} (C : ld_C p l s m args meth c cX0_begin 5 none wsX0_begin RX0 w) (k : ld_M → Int32 → Option (ld_M)) (hk : ∀ (Z : ld_M) (u0 : Int32), ld_T p l e ({ frames := 2, cells := 0, slots := 0, locals := 44 }) s m args below meth c (MQ below (ld_Q w r s.heap.size none) args s 0 0 (ld_A w s.heap.size)) w r (k Z u0) Z 0 0 2 [some (.ref (ld_ad w b)), some (.int a1), some (.int u0), none, none] []) (Z : ld_M) (v2 : Int32) (v3 : Int32) (v4 : Int32) (t0 : Int32) (t1 : Int32) : ld_T p l e ({ frames := 2, cells := 0, slots := 0, locals := 44 }) s m args below meth c (MQ below (ld_Q w r s.heap.size none) args s 0 0 (ld_A w s.heap.size)) w r (kX0_begin_46 b a1 k Z v2 v3 v4 t0 t1) Z 0 0 46 [some (.ref (ld_ad w b)), some (.int a1), some (.int v2), some (.int v3), some (.int v4)] [.int t0, .int t1, .ref (ld_ad w (b + 6))] := by
  unfold kX0_begin_46
  refine lj_iast C (n := 12) (ld_q_lt hb (by decide)) (ld_q_to hb) dX0_begin_46 ?_
  refine lj_iinc C (i := 2) (v := (v2 + 1)) (lv2 := [some (.ref (ld_ad w b)), some (.int a1), some (.int (v2 + 1)), some (.int v3), some (.int v4)]) rfl rfl rfl dX0_begin_47 ?_
  refine lj_goto C (tgt := 2) dX0_begin_50 (by decide) ?_
  refine lj_forget (lv2 := [some (.ref (ld_ad w b)), some (.int a1), some (.int (v2 + 1)), none, none]) (by simp [ld_le]) ?_
  exact hk (ld_up Z (b + 6) t1.toNatClampNeg t0) (v2 + 1)
def kX0_begin_2 (b : Nat) (a1 : Int32) : Nat → ld_M → Int32 → Option (ld_M)
  | 0, _, _ => none
  | n + 1, Z, v2 => if (12 : Int32) ≤ v2 then (some (ld_up (ld_up Z b 7 a1) b 8 0)) else (ld_bd (kX0_levelNow Z b v2) (fun x10 => ld_bd (kX0_told Z b a1 v2) (fun x17 => ld_ck (ld_g v2 12) (if (x17 : Int32) = (-1) then (kX0_begin_46 b a1 (kX0_begin_2 b a1 n) (ld_up Z (b + 5) v2.toNatClampNeg x10) v2 x10 x17 x10 v2) else (kX0_begin_46 b a1 (kX0_begin_2 b a1 n) (ld_up Z (b + 5) v2.toNatClampNeg x10) v2 x10 x17 x17 v2)))))
set_option maxHeartbeats 4000000 in
set_option maxRecDepth 100000 in
theorem bX0_begin_2 {p : Program} {e : Env} {s : State} {m : MethodId} {args : Array Value} {below : List Frame} {meth : Method} {c : Code} (l : Launch) (w : ld_E) (b : Nat) (a1 : Int32) (hb : b = 11 ∨ b = 28) {r : ld_M} (C : ld_C p l s m args meth c cX0_begin 5 none wsX0_begin RX0 w) : ∀ (n : Nat) (Z : ld_M) (v2 : Int32), ld_T p l e ({ frames := 2, cells := 0, slots := 0, locals := 44 }) s m args below meth c (MQ below (ld_Q w r s.heap.size none) args s 0 0 (ld_A w s.heap.size)) w r (kX0_begin_2 b a1 n Z v2) Z 0 0 2 [some (.ref (ld_ad w b)), some (.int a1), some (.int v2), none, none] [] := by
  intro n
  induction n with
  | zero => exact fun _ _ h => nomatch h
  | succ n ih =>
    intro Z v2
    refine lj_iload_n C rfl rfl dX0_begin_2 ?_
    refine lj_bipush C (v := 12) (by decide) dX0_begin_3 ?_
    refine lj_icmp_ge C (tgt := 53) dX0_begin_5 (by decide) ?_ ?_
    · refine lj_aload_n C rfl rfl dX0_begin_53 ?_
      refine lj_iload_n C rfl rfl dX0_begin_54 ?_
      refine lj_put C (i := b) (kk := 7) (G := (ld_f0 w b)) (Tb := TX0) (N := 9) (ld_q_lt0 hb) (ld_q_cell hb) rfl inX0_begin_0 (by decide) (List.mem_of_getElem? (i := 3) rfl) rfl tyX0 tyX0_ok nmX0 rfl (by decide +kernel) (Nat.le_of_ble_eq_true rfl) rfl dX0_begin_55 ?_
      refine lj_aload_n C rfl rfl dX0_begin_58 ?_
      refine lj_iconst C (v := 0) (by decide) dX0_begin_59 ?_
      refine lj_put C (i := b) (kk := 8) (G := (ld_f0 w b)) (Tb := TX0) (N := 9) (ld_q_lt0 hb) (ld_q_cell hb) rfl inX0_begin_0 (by decide) (List.mem_of_getElem? (i := 4) rfl) rfl tyX0 tyX0_ok nmX0 rfl (by decide +kernel) (Nat.le_of_ble_eq_true rfl) rfl dX0_begin_60 ?_
      exact lj_rv C (by decide) (by decide) dX0_begin_63
    · refine lj_aload_n C rfl rfl dX0_begin_8 ?_
      refine lj_iload_n C rfl rfl dX0_begin_9 ?_
      refine lj_cVa C (As := [.int v2]) (rest := []) (i := b) (ci := 0) (Cn := RX0) (Tb := TX0) (N := 9) (fs := (ld_f0 w b) (Z b)) (fun sz x hx => zX0_levelNow l w Z b v2 hb hx sz) (cwV 1 C.2.2.2.2.1 gX0_begin_X0_levelNow rfl rfl rfl (by decide +kernel) ⟨Nat.le_of_ble_eq_true rfl, Nat.le_of_ble_eq_true rfl⟩) (ld_q_lt0 hb) ((ld_q_cell hb) _) rfl rfl rfl rfl (Nat.le_of_ble_eq_true rfl) ⟨Nat.le_of_ble_eq_true rfl, Nat.le_of_ble_eq_true rfl⟩ dX0_begin_10 (fun x10 hx10 => ?_)
      refine lj_istore_n C rfl (lv2 := [some (.ref (ld_ad w b)), some (.int a1), some (.int v2), some (.int x10), none]) (Nat.le_of_ble_eq_true rfl) rfl dX0_begin_13 ?_
      refine lj_aload_n C rfl rfl dX0_begin_14 ?_
      refine lj_iload_n C rfl rfl dX0_begin_15 ?_
      refine lj_iload_n C rfl rfl dX0_begin_16 ?_
      refine lj_cVa C (As := [.int a1, .int v2]) (rest := []) (i := b) (ci := 0) (Cn := RX0) (Tb := TX0) (N := 9) (fs := (ld_f0 w b) (Z b)) (fun sz x hx => zX0_told l w Z b a1 v2 hb hx sz) (cwV 2 C.2.2.2.2.1 gX0_begin_X0_told rfl rfl rfl (by decide +kernel) ⟨Nat.le_of_ble_eq_true rfl, Nat.le_of_ble_eq_true rfl⟩) (ld_q_lt0 hb) ((ld_q_cell hb) _) rfl rfl rfl rfl (Nat.le_of_ble_eq_true rfl) ⟨Nat.le_of_ble_eq_true rfl, Nat.le_of_ble_eq_true rfl⟩ dX0_begin_17 (fun x17 hx17 => ?_)
      refine lj_istore C (lv2 := [some (.ref (ld_ad w b)), some (.int a1), some (.int v2), some (.int x10), some (.int x17)]) (Nat.le_of_ble_eq_true rfl) rfl dX0_begin_20 ?_
      refine lj_aload_n C rfl rfl dX0_begin_22 ?_
      refine lj_get C (i := b) (kk := 4) (G := (ld_f0 w b)) (v := .ref (ld_ad w (b + 5))) (Tb := TX0) (N := 9) (ld_q_lt0 hb) (ld_q_cell hb) rfl inX0_begin_0 (by decide) (List.mem_of_getElem? (i := 1) rfl) rfl rfl dX0_begin_23 ?_
      refine lj_iload_n C rfl rfl dX0_begin_26 ?_
      refine lj_iload_n C rfl rfl dX0_begin_27 ?_
      refine lj_iast C (n := 12) (ld_q_lt hb (by decide)) (ld_q_from hb) dX0_begin_28 ?_
      refine lj_aload_n C rfl rfl dX0_begin_29 ?_
      refine lj_get C (i := b) (kk := 5) (G := (ld_f0 w b)) (v := .ref (ld_ad w (b + 6))) (Tb := TX0) (N := 9) (ld_q_lt0 hb) (ld_q_cell hb) rfl inX0_begin_0 (by decide) (List.mem_of_getElem? (i := 2) rfl) rfl rfl dX0_begin_30 ?_
      refine lj_iload_n C rfl rfl dX0_begin_33 ?_
      refine lj_iload C rfl dX0_begin_34 ?_
      refine lj_iconst C (v := (-1)) (by decide) dX0_begin_36 ?_
      refine lj_icmp_ne C (tgt := 44) dX0_begin_37 (by decide) ?_ ?_
      · refine lj_iload C rfl dX0_begin_44 ?_
        exact bX0_begin_46 l w b a1 hb C (kX0_begin_2 b a1 n) (fun Z9 u0 => ih Z9 u0) (ld_up Z (b + 5) v2.toNatClampNeg x10) v2 x10 x17 x17 v2
      · refine lj_iload_n C rfl rfl dX0_begin_40 ?_
        refine lj_goto C (tgt := 46) dX0_begin_41 (by decide) ?_
        exact bX0_begin_46 l w b a1 hb C (kX0_begin_2 b a1 n) (fun Z9 u0 => ih Z9 u0) (ld_up Z (b + 5) v2.toNatClampNeg x10) v2 x10 x17 x10 v2
def kX0_begin (Z : ld_M) (b : Nat) (a1 : Int32) : Option (ld_M) := kX0_begin_2 b a1 ld_fu Z 0
set_option maxHeartbeats 4000000 in
set_option maxRecDepth 100000 in
theorem zX0_begin (l : Launch) (w : ld_E) (Z : ld_M) (b : Nat) (a1 : Int32) (hb : b = 11 ∨ b = 28) {r : ld_M} (hr : kX0_begin Z b a1 = some r) (sz : Nat) : Met l yX0_begin wsX0_begin ({ frames := 2, cells := 0, slots := 0, locals := 44 }) (ld_Pc w Z sz [.ref (ld_ad w b), .int a1]) (ld_Q w r sz none) 0 0 (ld_A w sz) := by
  refine ld_ofW (ws := wsX0_begin) (Qc := fun sz9 => ld_Q w r sz9 none) RX0 (by decide +kernel) rfl rfl (by simp [Value.category]) (Nat.le_of_ble_eq_true rfl) sz ?_
  intro p e s m args below meth c C
  revert hr
  show ld_T p l e ({ frames := 2, cells := 0, slots := 0, locals := 44 }) s m args below meth c (MQ below (ld_Q w r s.heap.size none) args s 0 0 (ld_A w s.heap.size)) w r (kX0_begin Z b a1) Z 0 0 0 [some (.ref (ld_ad w b)), some (.int a1), none, none, none] []
  unfold kX0_begin
  refine lj_iconst C (v := 0) (by decide) dX0_begin_0 ?_
  refine lj_istore_n C rfl (lv2 := [some (.ref (ld_ad w b)), some (.int a1), some (.int 0), none, none]) (Nat.le_of_ble_eq_true rfl) rfl dX0_begin_1 ?_
  exact bX0_begin_2 l w b a1 hb C ld_fu Z 0
theorem inX0_isOver_0 : ∀ q ∈ u_ws RX0 TX0 9, q ∈ wsX0_isOver := fun _ h => List.mem_cons_of_mem _ (List.mem_append_right _ h)
def kX0_isOver_42 (b : Nat) (Z : ld_M) (t0 : Int32) : Option (Int32) := ld_ck (ld_b t0) (some t0)
set_option maxHeartbeats 4000000 in
set_option maxRecDepth 100000 in
theorem bX0_isOver_42 {p : Program} {e : Env} {s : State} {m : MethodId} {args : Array Value} {below : List Frame} {meth : Method} {c : Code} (l : Launch) (w : ld_E) (b : Nat) (hb : b = 11 ∨ b = 28)  {r : Int32} (C : ld_C p l s m args meth c cX0_isOver 1 (some .boolean) wsX0_isOver RX0 w) (Z : ld_M) (t0 : Int32) : ld_T p l e ({ frames := 1, cells := 0, slots := 0, locals := 21 }) s m args below meth c (MQ below (ld_Q w Z s.heap.size (some (.int r))) args s 0 0 (ld_A w s.heap.size)) w r (kX0_isOver_42 b Z t0) Z 0 0 42 [some (.ref (ld_ad w b))] [.int t0] := by
  unfold kX0_isOver_42
  exact lj_ra_z C (by decide) (by decide) dX0_isOver_42
def kX0_isOver_37 (b : Nat) (Z : ld_M)  : Option (Int32) := kX0_isOver_42 b Z 1
set_option maxHeartbeats 4000000 in
set_option maxRecDepth 100000 in
theorem bX0_isOver_37 {p : Program} {e : Env} {s : State} {m : MethodId} {args : Array Value} {below : List Frame} {meth : Method} {c : Code} (l : Launch) (w : ld_E) (b : Nat) (hb : b = 11 ∨ b = 28)  {r : Int32} (C : ld_C p l s m args meth c cX0_isOver 1 (some .boolean) wsX0_isOver RX0 w) (Z : ld_M)  : ld_T p l e ({ frames := 1, cells := 0, slots := 0, locals := 21 }) s m args below meth c (MQ below (ld_Q w Z s.heap.size (some (.int r))) args s 0 0 (ld_A w s.heap.size)) w r (kX0_isOver_37 b Z ) Z 0 0 37 [some (.ref (ld_ad w b))] [] := by
  unfold kX0_isOver_37
  refine lj_iconst C (v := 1) (by decide) dX0_isOver_37 ?_
  refine lj_goto C (tgt := 42) dX0_isOver_38 (by decide) ?_
  exact bX0_isOver_42 l w b hb C Z 1
def kX0_isOver (Z : ld_M) (b : Nat) : Option (Int32) := ld_bd (kX0_has Z b (Z b 7)) (fun x5 => if (x5 : Int32) = 0 then (kX0_isOver_37 b Z) else (ld_ck (ld_g (Z b 7) 10) (ld_ck (ld_g (Z b 7) 10) (if ((Z b 8) : Int32) < ((Z (b + 1) (Z b 7).toNatClampNeg) + (Z (b + 2) (Z b 7).toNatClampNeg)) then (kX0_isOver_42 b Z 0) else (kX0_isOver_37 b Z)))))
set_option maxHeartbeats 4000000 in
set_option maxRecDepth 100000 in
theorem zX0_isOver (l : Launch) (w : ld_E) (Z : ld_M) (b : Nat) (hb : b = 11 ∨ b = 28) {r : Int32} (hr : kX0_isOver Z b = some r) (sz : Nat) : Met l yX0_isOver wsX0_isOver ({ frames := 1, cells := 0, slots := 0, locals := 21 }) (ld_Pc w Z sz [.ref (ld_ad w b)]) (ld_Q w Z sz (some (.int r))) 0 0 (ld_A w sz) := by
  refine ld_ofW (ws := wsX0_isOver) (Qc := fun sz9 => ld_Q w Z sz9 (some (.int r))) RX0 (by decide +kernel) rfl rfl (by simp [Value.category]) (Nat.le_of_ble_eq_true rfl) sz ?_
  intro p e s m args below meth c C
  revert hr
  show ld_T p l e ({ frames := 1, cells := 0, slots := 0, locals := 21 }) s m args below meth c (MQ below (ld_Q w Z s.heap.size (some (.int r))) args s 0 0 (ld_A w s.heap.size)) w r (kX0_isOver Z b) Z 0 0 0 [some (.ref (ld_ad w b))] []
  unfold kX0_isOver
  refine lj_aload_n C rfl rfl dX0_isOver_0 ?_
  refine lj_aload_n C rfl rfl dX0_isOver_1 ?_
  refine lj_get C (i := b) (kk := 7) (G := (ld_f0 w b)) (v := .int (Z b 7)) (Tb := TX0) (N := 9) (ld_q_lt0 hb) (ld_q_cell hb) rfl inX0_isOver_0 (by decide) (List.mem_of_getElem? (i := 1) rfl) rfl rfl dX0_isOver_2 ?_
  refine lj_cVa C (As := [.int (Z b 7)]) (rest := []) (i := b) (ci := 0) (Cn := RX0) (Tb := TX0) (N := 9) (fs := (ld_f0 w b) (Z b)) (fun sz x hx => zX0_has l w Z b (Z b 7) hb hx sz) (cwV 1 C.2.2.2.2.1 gX0_isOver_X0_has rfl rfl rfl (by decide +kernel) ⟨Nat.le_of_ble_eq_true rfl, Nat.le_of_ble_eq_true rfl⟩) (ld_q_lt0 hb) ((ld_q_cell hb) _) rfl rfl rfl rfl (Nat.le_of_ble_eq_true rfl) ⟨Nat.le_of_ble_eq_true rfl, Nat.le_of_ble_eq_true rfl⟩ dX0_isOver_5 (fun x5 hx5 => ?_)
  refine lj_if_eq C (tgt := 37) dX0_isOver_8 (by decide) ?_ ?_
  · exact bX0_isOver_37 l w b hb C Z
  · refine lj_aload_n C rfl rfl dX0_isOver_11 ?_
    refine lj_get C (i := b) (kk := 8) (G := (ld_f0 w b)) (v := .int (Z b 8)) (Tb := TX0) (N := 9) (ld_q_lt0 hb) (ld_q_cell hb) rfl inX0_isOver_0 (by decide) (List.mem_of_getElem? (i := 2) rfl) rfl rfl dX0_isOver_12 ?_
    refine lj_aload_n C rfl rfl dX0_isOver_15 ?_
    refine lj_get C (i := b) (kk := 0) (G := (ld_f0 w b)) (v := .ref (ld_ad w (b + 1))) (Tb := TX0) (N := 9) (ld_q_lt0 hb) (ld_q_cell hb) rfl inX0_isOver_0 (by decide) (List.mem_of_getElem? (i := 3) rfl) rfl rfl dX0_isOver_16 ?_
    refine lj_aload_n C rfl rfl dX0_isOver_19 ?_
    refine lj_get C (i := b) (kk := 7) (G := (ld_f0 w b)) (v := .int (Z b 7)) (Tb := TX0) (N := 9) (ld_q_lt0 hb) (ld_q_cell hb) rfl inX0_isOver_0 (by decide) (List.mem_of_getElem? (i := 1) rfl) rfl rfl dX0_isOver_20 ?_
    refine lj_iald C (n := 10) (ld_q_lt hb (by decide)) (ld_q_delays hb) dX0_isOver_23 ?_
    refine lj_aload_n C rfl rfl dX0_isOver_24 ?_
    refine lj_get C (i := b) (kk := 1) (G := (ld_f0 w b)) (v := .ref (ld_ad w (b + 2))) (Tb := TX0) (N := 9) (ld_q_lt0 hb) (ld_q_cell hb) rfl inX0_isOver_0 (by decide) (List.mem_of_getElem? (i := 4) rfl) rfl rfl dX0_isOver_25 ?_
    refine lj_aload_n C rfl rfl dX0_isOver_28 ?_
    refine lj_get C (i := b) (kk := 7) (G := (ld_f0 w b)) (v := .int (Z b 7)) (Tb := TX0) (N := 9) (ld_q_lt0 hb) (ld_q_cell hb) rfl inX0_isOver_0 (by decide) (List.mem_of_getElem? (i := 1) rfl) rfl rfl dX0_isOver_29 ?_
    refine lj_iald C (n := 10) (ld_q_lt hb (by decide)) (ld_q_fades hb) dX0_isOver_32 ?_
    refine lj_iadd C dX0_isOver_33 ?_
    refine lj_icmp_lt C (tgt := 41) dX0_isOver_34 (by decide) ?_ ?_
    · refine lj_iconst C (v := 0) (by decide) dX0_isOver_41 ?_
      exact bX0_isOver_42 l w b hb C Z 0
    · exact bX0_isOver_37 l w b hb C Z
theorem inX0_endsInNextTenth_0 : ∀ q ∈ u_ws RX0 TX0 9, q ∈ wsX0_endsInNextTenth := fun _ h => List.mem_cons_of_mem _ (List.mem_append_right _ h)
def kX0_endsInNextTenth (Z : ld_M) (b : Nat) : Option (Int32 × ld_M) := ld_bd (kX0_isOver Z b) (fun x1 => if (x1 : Int32) = 0 then (ld_bd (kX0_isOver (ld_up Z b 8 ((Z b 8) + 1)) b) (fun x20 => ld_ck (ld_b x20) (some (x20, (ld_up Z b 8 ((Z b 8) + 1)))))) else (ld_ck (ld_b 0) (some (0, Z))))
set_option maxHeartbeats 4000000 in
set_option maxRecDepth 100000 in
theorem zX0_endsInNextTenth (l : Launch) (w : ld_E) (Z : ld_M) (b : Nat) (hb : b = 11 ∨ b = 28) {r : Int32 × ld_M} (hr : kX0_endsInNextTenth Z b = some r) (sz : Nat) : Met l yX0_endsInNextTenth wsX0_endsInNextTenth ({ frames := 2, cells := 0, slots := 0, locals := 41 }) (ld_Pc w Z sz [.ref (ld_ad w b)]) (ld_Q w r.2 sz (some (.int r.1))) 0 0 (ld_A w sz) := by
  refine ld_ofW (ws := wsX0_endsInNextTenth) (Qc := fun sz9 => ld_Q w r.2 sz9 (some (.int r.1))) RX0 (by decide +kernel) rfl rfl (by simp [Value.category]) (Nat.le_of_ble_eq_true rfl) sz ?_
  intro p e s m args below meth c C
  revert hr
  show ld_T p l e ({ frames := 2, cells := 0, slots := 0, locals := 41 }) s m args below meth c (MQ below (ld_Q w r.2 s.heap.size (some (.int r.1))) args s 0 0 (ld_A w s.heap.size)) w r (kX0_endsInNextTenth Z b) Z 0 0 0 [some (.ref (ld_ad w b))] []
  unfold kX0_endsInNextTenth
  refine lj_aload_n C rfl rfl dX0_endsInNextTenth_0 ?_
  refine lj_cVa C (As := []) (rest := []) (i := b) (ci := 0) (Cn := RX0) (Tb := TX0) (N := 9) (fs := (ld_f0 w b) (Z b)) (fun sz x hx => zX0_isOver l w Z b hb hx sz) (cwV 0 C.2.2.2.2.1 gX0_endsInNextTenth_X0_isOver rfl rfl rfl (by decide +kernel) ⟨Nat.le_of_ble_eq_true rfl, Nat.le_of_ble_eq_true rfl⟩) (ld_q_lt0 hb) ((ld_q_cell hb) _) rfl rfl rfl rfl (Nat.le_of_ble_eq_true rfl) ⟨Nat.le_of_ble_eq_true rfl, Nat.le_of_ble_eq_true rfl⟩ dX0_endsInNextTenth_1 (fun x1 hx1 => ?_)
  refine lj_if_eq C (tgt := 9) dX0_endsInNextTenth_4 (by decide) ?_ ?_
  · refine lj_aload_n C rfl rfl dX0_endsInNextTenth_9 ?_
    refine lj_dup C rfl dX0_endsInNextTenth_10 ?_
    refine lj_get C (i := b) (kk := 8) (G := (ld_f0 w b)) (v := .int (Z b 8)) (Tb := TX0) (N := 9) (ld_q_lt0 hb) (ld_q_cell hb) rfl inX0_endsInNextTenth_0 (by decide) (List.mem_of_getElem? (i := 1) rfl) rfl rfl dX0_endsInNextTenth_11 ?_
    refine lj_iconst C (v := 1) (by decide) dX0_endsInNextTenth_14 ?_
    refine lj_iadd C dX0_endsInNextTenth_15 ?_
    refine lj_put C (i := b) (kk := 8) (G := (ld_f0 w b)) (Tb := TX0) (N := 9) (ld_q_lt0 hb) (ld_q_cell hb) rfl inX0_endsInNextTenth_0 (by decide) (List.mem_of_getElem? (i := 1) rfl) rfl tyX0 tyX0_ok nmX0 rfl (by decide +kernel) (Nat.le_of_ble_eq_true rfl) rfl dX0_endsInNextTenth_16 ?_
    refine lj_aload_n C rfl rfl dX0_endsInNextTenth_19 ?_
    refine lj_cVa C (As := []) (rest := []) (i := b) (ci := 0) (Cn := RX0) (Tb := TX0) (N := 9) (fs := (ld_f0 w b) ((ld_up Z b 8 ((Z b 8) + 1)) b)) (fun sz x hx => zX0_isOver l w (ld_up Z b 8 ((Z b 8) + 1)) b hb hx sz) (cwV 0 C.2.2.2.2.1 gX0_endsInNextTenth_X0_isOver rfl rfl rfl (by decide +kernel) ⟨Nat.le_of_ble_eq_true rfl, Nat.le_of_ble_eq_true rfl⟩) (ld_q_lt0 hb) ((ld_q_cell hb) _) rfl rfl rfl rfl (Nat.le_of_ble_eq_true rfl) ⟨Nat.le_of_ble_eq_true rfl, Nat.le_of_ble_eq_true rfl⟩ dX0_endsInNextTenth_20 (fun x20 hx20 => ?_)
    exact lj_rb_z C (by decide) (by decide) dX0_endsInNextTenth_23
  · refine lj_iconst C (v := 0) (by decide) dX0_endsInNextTenth_7 ?_
    exact lj_rb_z C (by decide) (by decide) dX0_endsInNextTenth_8
theorem inX0_follower_0 : ∀ q ∈ u_ws RX0 TX0 9, q ∈ wsX0_follower := fun _ h => List.mem_cons_of_mem _ (List.mem_append_right _ h)
def kX0_follower_40 (b : Nat) (Z : ld_M) (v1 : Int32) (t0 : Int32) : Option (Int32) := some t0
set_option maxHeartbeats 4000000 in
set_option maxRecDepth 100000 in
theorem bX0_follower_40 {p : Program} {e : Env} {s : State} {m : MethodId} {args : Array Value} {below : List Frame} {meth : Method} {c : Code} (l : Launch) (w : ld_E) (b : Nat) (hb : b = 11 ∨ b = 28)  {r : Int32} (C : ld_C p l s m args meth c cX0_follower 2 (some .int) wsX0_follower RX0 w) (Z : ld_M) (v1 : Int32) (t0 : Int32) : ld_T p l e ({ frames := 1, cells := 0, slots := 0, locals := 21 }) s m args below meth c (MQ below (ld_Q w Z s.heap.size (some (.int r))) args s 0 0 (ld_A w s.heap.size)) w r (kX0_follower_40 b Z v1 t0) Z 0 0 40 [some (.ref (ld_ad w b)), some (.int v1)] [.int t0] := by
  unfold kX0_follower_40
  exact lj_ra C (by decide) (by decide) dX0_follower_40
def kX0_follower_39 (b : Nat) (Z : ld_M) (v1 : Int32) : Option (Int32) := kX0_follower_40 b Z v1 (-1)
set_option maxHeartbeats 4000000 in
set_option maxRecDepth 100000 in
theorem bX0_follower_39 {p : Program} {e : Env} {s : State} {m : MethodId} {args : Array Value} {below : List Frame} {meth : Method} {c : Code} (l : Launch) (w : ld_E) (b : Nat) (hb : b = 11 ∨ b = 28)  {r : Int32} (C : ld_C p l s m args meth c cX0_follower 2 (some .int) wsX0_follower RX0 w) (Z : ld_M) (v1 : Int32) : ld_T p l e ({ frames := 1, cells := 0, slots := 0, locals := 21 }) s m args below meth c (MQ below (ld_Q w Z s.heap.size (some (.int r))) args s 0 0 (ld_A w s.heap.size)) w r (kX0_follower_39 b Z v1) Z 0 0 39 [some (.ref (ld_ad w b)), some (.int v1)] [] := by
  unfold kX0_follower_39
  refine lj_iconst C (v := (-1)) (by decide) dX0_follower_39 ?_
  exact bX0_follower_40 l w b hb C Z v1 (-1)
def kX0_follower (Z : ld_M) (b : Nat) : Option (Int32) := ld_bd (kX0_has Z b (Z b 7)) (fun x12 => if (x12 : Int32) = 0 then (kX0_follower_39 b Z ((Z b 7) + 1)) else (ld_bd (kX0_has Z b ((Z b 7) + 1)) (fun x20 => if (x20 : Int32) = 0 then (kX0_follower_39 b Z ((Z b 7) + 1)) else (ld_ck (ld_g ((Z b 7) + 1) 10) (if ((Z (b + 3) ((Z b 7) + 1).toNatClampNeg) : Int32) = 0 then (kX0_follower_39 b Z ((Z b 7) + 1)) else (kX0_follower_40 b Z ((Z b 7) + 1) ((Z b 7) + 1)))))))
set_option maxHeartbeats 4000000 in
set_option maxRecDepth 100000 in
theorem zX0_follower (l : Launch) (w : ld_E) (Z : ld_M) (b : Nat) (hb : b = 11 ∨ b = 28) {r : Int32} (hr : kX0_follower Z b = some r) (sz : Nat) : Met l yX0_follower wsX0_follower ({ frames := 1, cells := 0, slots := 0, locals := 21 }) (ld_Pc w Z sz [.ref (ld_ad w b)]) (ld_Q w Z sz (some (.int r))) 0 0 (ld_A w sz) := by
  refine ld_ofW (ws := wsX0_follower) (Qc := fun sz9 => ld_Q w Z sz9 (some (.int r))) RX0 (by decide +kernel) rfl rfl (by simp [Value.category]) (Nat.le_of_ble_eq_true rfl) sz ?_
  intro p e s m args below meth c C
  revert hr
  show ld_T p l e ({ frames := 1, cells := 0, slots := 0, locals := 21 }) s m args below meth c (MQ below (ld_Q w Z s.heap.size (some (.int r))) args s 0 0 (ld_A w s.heap.size)) w r (kX0_follower Z b) Z 0 0 0 [some (.ref (ld_ad w b)), none] []
  unfold kX0_follower
  refine lj_aload_n C rfl rfl dX0_follower_0 ?_
  refine lj_get C (i := b) (kk := 7) (G := (ld_f0 w b)) (v := .int (Z b 7)) (Tb := TX0) (N := 9) (ld_q_lt0 hb) (ld_q_cell hb) rfl inX0_follower_0 (by decide) (List.mem_of_getElem? (i := 1) rfl) rfl rfl dX0_follower_1 ?_
  refine lj_iconst C (v := 1) (by decide) dX0_follower_4 ?_
  refine lj_iadd C dX0_follower_5 ?_
  refine lj_istore_n C rfl (lv2 := [some (.ref (ld_ad w b)), some (.int ((Z b 7) + 1))]) (Nat.le_of_ble_eq_true rfl) rfl dX0_follower_6 ?_
  refine lj_aload_n C rfl rfl dX0_follower_7 ?_
  refine lj_aload_n C rfl rfl dX0_follower_8 ?_
  refine lj_get C (i := b) (kk := 7) (G := (ld_f0 w b)) (v := .int (Z b 7)) (Tb := TX0) (N := 9) (ld_q_lt0 hb) (ld_q_cell hb) rfl inX0_follower_0 (by decide) (List.mem_of_getElem? (i := 1) rfl) rfl rfl dX0_follower_9 ?_
  refine lj_cVa C (As := [.int (Z b 7)]) (rest := []) (i := b) (ci := 0) (Cn := RX0) (Tb := TX0) (N := 9) (fs := (ld_f0 w b) (Z b)) (fun sz x hx => zX0_has l w Z b (Z b 7) hb hx sz) (cwV 1 C.2.2.2.2.1 gX0_follower_X0_has rfl rfl rfl (by decide +kernel) ⟨Nat.le_of_ble_eq_true rfl, Nat.le_of_ble_eq_true rfl⟩) (ld_q_lt0 hb) ((ld_q_cell hb) _) rfl rfl rfl rfl (Nat.le_of_ble_eq_true rfl) ⟨Nat.le_of_ble_eq_true rfl, Nat.le_of_ble_eq_true rfl⟩ dX0_follower_12 (fun x12 hx12 => ?_)
  refine lj_if_eq C (tgt := 39) dX0_follower_15 (by decide) ?_ ?_
  · exact bX0_follower_39 l w b hb C Z ((Z b 7) + 1)
  · refine lj_aload_n C rfl rfl dX0_follower_18 ?_
    refine lj_iload_n C rfl rfl dX0_follower_19 ?_
    refine lj_cVa C (As := [.int ((Z b 7) + 1)]) (rest := []) (i := b) (ci := 0) (Cn := RX0) (Tb := TX0) (N := 9) (fs := (ld_f0 w b) (Z b)) (fun sz x hx => zX0_has l w Z b ((Z b 7) + 1) hb hx sz) (cwV 1 C.2.2.2.2.1 gX0_follower_X0_has rfl rfl rfl (by decide +kernel) ⟨Nat.le_of_ble_eq_true rfl, Nat.le_of_ble_eq_true rfl⟩) (ld_q_lt0 hb) ((ld_q_cell hb) _) rfl rfl rfl rfl (Nat.le_of_ble_eq_true rfl) ⟨Nat.le_of_ble_eq_true rfl, Nat.le_of_ble_eq_true rfl⟩ dX0_follower_20 (fun x20 hx20 => ?_)
    refine lj_if_eq C (tgt := 39) dX0_follower_23 (by decide) ?_ ?_
    · exact bX0_follower_39 l w b hb C Z ((Z b 7) + 1)
    · refine lj_aload_n C rfl rfl dX0_follower_26 ?_
      refine lj_get C (i := b) (kk := 2) (G := (ld_f0 w b)) (v := .ref (ld_ad w (b + 3))) (Tb := TX0) (N := 9) (ld_q_lt0 hb) (ld_q_cell hb) rfl inX0_follower_0 (by decide) (List.mem_of_getElem? (i := 2) rfl) rfl rfl dX0_follower_27 ?_
      refine lj_iload_n C rfl rfl dX0_follower_30 ?_
      refine lj_zald C (n := 10) (ld_q_lt hb (by decide)) (ld_q_follow hb) dX0_follower_31 ?_
      refine lj_if_eq C (tgt := 39) dX0_follower_32 (by decide) ?_ ?_
      · exact bX0_follower_39 l w b hb C Z ((Z b 7) + 1)
      · refine lj_iload_n C rfl rfl dX0_follower_35 ?_
        refine lj_goto C (tgt := 40) dX0_follower_36 (by decide) ?_
        exact bX0_follower_40 l w b hb C Z ((Z b 7) + 1) ((Z b 7) + 1)
