theorem inX1_isEmpty_1 : ∀ q ∈ u_ws RX1 TX1 3, q ∈ wsX1_isEmpty := fun _ h => List.mem_cons_of_mem _ (List.mem_append_right _ h)
def kX1_isEmpty_12  (Z : ld_M) (t0 : Int32) : Option (Int32) := ld_ck (ld_b t0) (some t0)
set_option maxHeartbeats 4000000 in
set_option maxRecDepth 100000 in
theorem bX1_isEmpty_12 {p : Program} {e : Env} {s : State} {m : MethodId} {args : Array Value} {below : List Frame} {meth : Method} {c : Code} (l : Launch) (w : ld_E)  {r : Int32} (C : ld_C p l s m args meth c cX1_isEmpty 1 (some .boolean) wsX1_isEmpty RX1 w) (Z : ld_M) (t0 : Int32) : ld_T p l e ({ frames := 0, cells := 0, slots := 0, locals := 0 }) s m args below meth c (MQ below (ld_Q w Z s.heap.size (some (.int r))) args s 0 0 (ld_A w s.heap.size)) w r (kX1_isEmpty_12 Z t0) Z 0 0 12 [some (.ref (ld_ad w 45))] [.int t0] := by
  unfold kX1_isEmpty_12
  exact lj_ra_z C (by decide) (by decide) dX1_isEmpty_12
def kX1_isEmpty (Z : ld_M)  : Option (Int32) := if (0 : Int32) < (Z 45 2) then (kX1_isEmpty_12 Z 0) else (kX1_isEmpty_12 Z 1)
set_option maxHeartbeats 4000000 in
set_option maxRecDepth 100000 in
theorem zX1_isEmpty (l : Launch) (w : ld_E) (Z : ld_M)   {r : Int32} (hr : kX1_isEmpty Z  = some r) (sz : Nat) : Met l yX1_isEmpty wsX1_isEmpty ({ frames := 0, cells := 0, slots := 0, locals := 0 }) (ld_Pc w Z sz [.ref (ld_ad w 45)]) (ld_Q w Z sz (some (.int r))) 0 0 (ld_A w sz) := by
  refine ld_ofW (ws := wsX1_isEmpty) (Qc := fun sz9 => ld_Q w Z sz9 (some (.int r))) RX1 (by decide +kernel) rfl rfl (by simp [Value.category]) (Nat.le_of_ble_eq_true rfl) sz ?_
  intro p e s m args below meth c C
  revert hr
  show ld_T p l e ({ frames := 0, cells := 0, slots := 0, locals := 0 }) s m args below meth c (MQ below (ld_Q w Z s.heap.size (some (.int r))) args s 0 0 (ld_A w s.heap.size)) w r (kX1_isEmpty Z ) Z 0 0 0 [some (.ref (ld_ad w 45))] []
  unfold kX1_isEmpty
  refine lj_aload_n C rfl rfl dX1_isEmpty_0 ?_
  refine lj_get C (i := 45) (kk := 2) (G := (ld_f1 w)) (v := .int (Z 45 2)) (Tb := TX1) (N := 3) (by decide) (fun _ => rfl) rfl inX1_isEmpty_1 (by decide) (List.mem_of_getElem? (i := 1) rfl) rfl rfl dX1_isEmpty_1 ?_
  refine lj_if_gt C (tgt := 11) dX1_isEmpty_4 (by decide) ?_ ?_
  · refine lj_iconst C (v := 0) (by decide) dX1_isEmpty_11 ?_
    exact bX1_isEmpty_12 l w C Z 0
  · refine lj_iconst C (v := 1) (by decide) dX1_isEmpty_7 ?_
    refine lj_goto C (tgt := 12) dX1_isEmpty_8 (by decide) ?_
    exact bX1_isEmpty_12 l w C Z 1
theorem inX1_size_1 : ∀ q ∈ u_ws RX1 TX1 3, q ∈ wsX1_size := fun _ h => List.mem_cons_of_mem _ (List.mem_append_right _ h)
def kX1_size (Z : ld_M)  : Option (Int32) := some (Z 45 2)
set_option maxHeartbeats 4000000 in
set_option maxRecDepth 100000 in
theorem zX1_size (l : Launch) (w : ld_E) (Z : ld_M)   {r : Int32} (hr : kX1_size Z  = some r) (sz : Nat) : Met l yX1_size wsX1_size ({ frames := 0, cells := 0, slots := 0, locals := 0 }) (ld_Pc w Z sz [.ref (ld_ad w 45)]) (ld_Q w Z sz (some (.int r))) 0 0 (ld_A w sz) := by
  refine ld_ofW (ws := wsX1_size) (Qc := fun sz9 => ld_Q w Z sz9 (some (.int r))) RX1 (by decide +kernel) rfl rfl (by simp [Value.category]) (Nat.le_of_ble_eq_true rfl) sz ?_
  intro p e s m args below meth c C
  revert hr
  show ld_T p l e ({ frames := 0, cells := 0, slots := 0, locals := 0 }) s m args below meth c (MQ below (ld_Q w Z s.heap.size (some (.int r))) args s 0 0 (ld_A w s.heap.size)) w r (kX1_size Z ) Z 0 0 0 [some (.ref (ld_ad w 45))] []
  unfold kX1_size
  refine lj_aload_n C rfl rfl dX1_size_0 ?_
  refine lj_get C (i := 45) (kk := 2) (G := (ld_f1 w)) (v := .int (Z 45 2)) (Tb := TX1) (N := 3) (by decide) (fun _ => rfl) rfl inX1_size_1 (by decide) (List.mem_of_getElem? (i := 1) rfl) rfl rfl dX1_size_1 ?_
  exact lj_ra C (by decide) (by decide) dX1_size_4
def kX1_isPlace_24 (a1 : Int32) (a2 : Int32) (Z : ld_M) (t0 : Int32) : Option (Int32) := ld_ck (ld_b t0) (some t0)
set_option maxHeartbeats 4000000 in
set_option maxRecDepth 100000 in
theorem bX1_isPlace_24 {p : Program} {e : Env} {s : State} {m : MethodId} {args : Array Value} {below : List Frame} {meth : Method} {c : Code} (l : Launch) (w : ld_E) (a1 : Int32) (a2 : Int32)   {r : Int32} (C : ld_C p l s m args meth c cX1_isPlace 2 (some .boolean) wsX1_isPlace RX1 w) (Z : ld_M) (t0 : Int32) : ld_T p l e ({ frames := 0, cells := 0, slots := 0, locals := 0 }) s m args below meth c (MQ below (ld_Q w Z s.heap.size (some (.int r))) args s 0 0 (ld_A w s.heap.size)) w r (kX1_isPlace_24 a1 a2 Z t0) Z 0 0 24 [some (.int a1), some (.int a2)] [.int t0] := by
  unfold kX1_isPlace_24
  exact lj_ra_z C (by decide) (by decide) dX1_isPlace_24
def kX1_isPlace_23 (a1 : Int32) (a2 : Int32) (Z : ld_M)  : Option (Int32) := kX1_isPlace_24 a1 a2 Z 0
set_option maxHeartbeats 4000000 in
set_option maxRecDepth 100000 in
theorem bX1_isPlace_23 {p : Program} {e : Env} {s : State} {m : MethodId} {args : Array Value} {below : List Frame} {meth : Method} {c : Code} (l : Launch) (w : ld_E) (a1 : Int32) (a2 : Int32)   {r : Int32} (C : ld_C p l s m args meth c cX1_isPlace 2 (some .boolean) wsX1_isPlace RX1 w) (Z : ld_M)  : ld_T p l e ({ frames := 0, cells := 0, slots := 0, locals := 0 }) s m args below meth c (MQ below (ld_Q w Z s.heap.size (some (.int r))) args s 0 0 (ld_A w s.heap.size)) w r (kX1_isPlace_23 a1 a2 Z ) Z 0 0 23 [some (.int a1), some (.int a2)] [] := by
  unfold kX1_isPlace_23
  refine lj_iconst C (v := 0) (by decide) dX1_isPlace_23 ?_
  exact bX1_isPlace_24 l w a1 a2 C Z 0
def kX1_isPlace (Z : ld_M) (a1 : Int32) (a2 : Int32) : Option (Int32) := if (a1 : Int32) < 0 then (kX1_isPlace_23 a1 a2 Z) else (if (20 : Int32) ≤ a1 then (kX1_isPlace_23 a1 a2 Z) else (if (a2 : Int32) < 0 then (kX1_isPlace_23 a1 a2 Z) else (if (5 : Int32) ≤ a2 then (kX1_isPlace_23 a1 a2 Z) else (kX1_isPlace_24 a1 a2 Z 1))))
set_option maxHeartbeats 4000000 in
set_option maxRecDepth 100000 in
theorem zX1_isPlace (l : Launch) (w : ld_E) (Z : ld_M) (a1 : Int32) (a2 : Int32)  {r : Int32} (hr : kX1_isPlace Z a1 a2 = some r) (sz : Nat) : Met l yX1_isPlace wsX1_isPlace ({ frames := 0, cells := 0, slots := 0, locals := 0 }) (ld_Pc w Z sz [.int a1, .int a2]) (ld_Q w Z sz (some (.int r))) 0 0 (ld_A w sz) := by
  refine ld_ofW (ws := wsX1_isPlace) (Qc := fun sz9 => ld_Q w Z sz9 (some (.int r))) RX1 (by decide +kernel) rfl rfl (by simp [Value.category]) (Nat.le_of_ble_eq_true rfl) sz ?_
  intro p e s m args below meth c C
  revert hr
  show ld_T p l e ({ frames := 0, cells := 0, slots := 0, locals := 0 }) s m args below meth c (MQ below (ld_Q w Z s.heap.size (some (.int r))) args s 0 0 (ld_A w s.heap.size)) w r (kX1_isPlace Z a1 a2) Z 0 0 0 [some (.int a1), some (.int a2)] []
  unfold kX1_isPlace
  refine lj_iload_n C rfl rfl dX1_isPlace_0 ?_
  refine lj_if_lt C (tgt := 23) dX1_isPlace_1 (by decide) ?_ ?_
  · exact bX1_isPlace_23 l w a1 a2 C Z
  · refine lj_iload_n C rfl rfl dX1_isPlace_4 ?_
    refine lj_bipush C (v := 20) (by decide) dX1_isPlace_5 ?_
    refine lj_icmp_ge C (tgt := 23) dX1_isPlace_7 (by decide) ?_ ?_
    · exact bX1_isPlace_23 l w a1 a2 C Z
    · refine lj_iload_n C rfl rfl dX1_isPlace_10 ?_
      refine lj_if_lt C (tgt := 23) dX1_isPlace_11 (by decide) ?_ ?_
      · exact bX1_isPlace_23 l w a1 a2 C Z
      · refine lj_iload_n C rfl rfl dX1_isPlace_14 ?_
        refine lj_iconst C (v := 5) (by decide) dX1_isPlace_15 ?_
        refine lj_icmp_ge C (tgt := 23) dX1_isPlace_16 (by decide) ?_ ?_
        · exact bX1_isPlace_23 l w a1 a2 C Z
        · refine lj_iconst C (v := 1) (by decide) dX1_isPlace_19 ?_
          refine lj_goto C (tgt := 24) dX1_isPlace_20 (by decide) ?_
          exact bX1_isPlace_24 l w a1 a2 C Z 1
theorem inX1_put_1 : ∀ q ∈ u_ws RX1 TX1 3, q ∈ wsX1_put := fun _ h => List.mem_cons_of_mem _ (List.mem_append_right _ h)
def kX1_put_23 (a1 : Int32) (a2 : Int32) (Z : ld_M)  : Option (ld_M) := some Z
set_option maxHeartbeats 4000000 in
set_option maxRecDepth 100000 in
theorem bX1_put_23 {p : Program} {e : Env} {s : State} {m : MethodId} {args : Array Value} {below : List Frame} {meth : Method} {c : Code} (l : Launch) (w : ld_E) (a1 : Int32) (a2 : Int32) {r : ld_M} (C : ld_C p l s m args meth c cX1_put 3 none wsX1_put RX1 w) (Z : ld_M)  : ld_T p l e ({ frames := 1, cells := 0, slots := 0, locals := 21 }) s m args below meth c (MQ below (ld_Q w r s.heap.size none) args s 0 0 (ld_A w s.heap.size)) w r (kX1_put_23 a1 a2 Z ) Z 0 0 23 [some (.ref (ld_ad w 45)), some (.int a1), some (.int a2)] [] := by
  unfold kX1_put_23
  exact lj_rv C (by decide) (by decide) dX1_put_23
def kX1_put (Z : ld_M) (a1 : Int32) (a2 : Int32) : Option (ld_M) := ld_bd (kX1_isPlace Z (Z 45 1) a1) (fun x5 => if (x5 : Int32) = 0 then (kX1_put_23 a1 a2 Z) else (ld_ck (ld_g (Z 45 1) 20) (ld_ck (ld_g a1 5) (kX1_put_23 a1 a2 (ld_up Z (47 + (Z 45 1).toNatClampNeg) a1.toNatClampNeg a2)))))
set_option maxHeartbeats 4000000 in
set_option maxRecDepth 100000 in
theorem zX1_put (l : Launch) (w : ld_E) (Z : ld_M) (a1 : Int32) (a2 : Int32)  {r : ld_M} (hr : kX1_put Z a1 a2 = some r) (sz : Nat) : Met l yX1_put wsX1_put ({ frames := 1, cells := 0, slots := 0, locals := 21 }) (ld_Pc w Z sz [.ref (ld_ad w 45), .int a1, .int a2]) (ld_Q w r sz none) 0 0 (ld_A w sz) := by
  refine ld_ofW (ws := wsX1_put) (Qc := fun sz9 => ld_Q w r sz9 none) RX1 (by decide +kernel) rfl rfl (by simp [Value.category]) (Nat.le_of_ble_eq_true rfl) sz ?_
  intro p e s m args below meth c C
  revert hr
  show ld_T p l e ({ frames := 1, cells := 0, slots := 0, locals := 21 }) s m args below meth c (MQ below (ld_Q w r s.heap.size none) args s 0 0 (ld_A w s.heap.size)) w r (kX1_put Z a1 a2) Z 0 0 0 [some (.ref (ld_ad w 45)), some (.int a1), some (.int a2)] []
  unfold kX1_put
  refine lj_aload_n C rfl rfl dX1_put_0 ?_
  refine lj_get C (i := 45) (kk := 1) (G := (ld_f1 w)) (v := .int (Z 45 1)) (Tb := TX1) (N := 3) (by decide) (fun _ => rfl) rfl inX1_put_1 (by decide) (List.mem_of_getElem? (i := 1) rfl) rfl rfl dX1_put_1 ?_
  refine lj_iload_n C rfl rfl dX1_put_4 ?_
  refine lj_cSa C (As := [.int (Z 45 1), .int a1]) (rest := []) (fun sz x hx => zX1_isPlace l w Z (Z 45 1) a1 hx sz) (va_cwS 2 C.2.2.2.2.1 gX1_put_X1_isPlace rfl rfl rfl (by decide +kernel) ⟨Nat.le_of_ble_eq_true rfl, Nat.le_of_ble_eq_true rfl⟩) rfl rfl rfl (Nat.le_of_ble_eq_true rfl) ⟨Nat.le_of_ble_eq_true rfl, Nat.le_of_ble_eq_true rfl⟩ dX1_put_5 (fun x5 hx5 => ?_)
  refine lj_if_eq C (tgt := 23) dX1_put_8 (by decide) ?_ ?_
  · exact bX1_put_23 l w a1 a2 C Z
  · refine lj_aload_n C rfl rfl dX1_put_11 ?_
    refine lj_get C (i := 45) (kk := 0) (G := (ld_f1 w)) (v := .ref (ld_ad w 46)) (Tb := TX1) (N := 3) (by decide) (fun _ => rfl) rfl inX1_put_1 (by decide) (List.mem_of_getElem? (i := 2) rfl) rfl rfl dX1_put_12 ?_
    refine lj_aload_n C rfl rfl dX1_put_15 ?_
    refine lj_get C (i := 45) (kk := 1) (G := (ld_f1 w)) (v := .int (Z 45 1)) (Tb := TX1) (N := 3) (by decide) (fun _ => rfl) rfl inX1_put_1 (by decide) (List.mem_of_getElem? (i := 1) rfl) rfl rfl dX1_put_16 ?_
    refine lj_aald C (n := 20) (b := 47) (by decide) (fun _ => rfl) dX1_put_19 (fun hx19 => ?_)
    refine lj_iload_n C rfl rfl dX1_put_20 ?_
    refine lj_iload_n C rfl rfl dX1_put_21 ?_
    refine lj_iast C (n := 5) (ld_h_row_lt  hx19) (ld_h_row  hx19) dX1_put_22 ?_
    exact bX1_put_23 l w a1 a2 C (ld_up Z (47 + (Z 45 1).toNatClampNeg) a1.toNatClampNeg a2)
theorem inX1_note_1 : ∀ q ∈ u_ws RX1 TX1 3, q ∈ wsX1_note := fun _ h => List.mem_cons_of_mem _ (List.mem_append_right _ h)
def kX1_note_54 (a1 : Int32) (a2 : Int32) (a3 : Int32) (a4 : Int32) (a5 : Int32) (Z : ld_M) (t0 : Int32) : Option (ld_M) := some (ld_up (ld_up Z 45 1 t0) 45 2 (if 20 < (((ld_up Z 45 1 t0) 45 2) + 1) then 20 else (((ld_up Z 45 1 t0) 45 2) + 1)))
set_option maxHeartbeats 4000000 in
set_option maxRecDepth 100000 in
theorem bX1_note_54 {p : Program} {e : Env} {s : State} {m : MethodId} {args : Array Value} {below : List Frame} {meth : Method} {c : Code} (l : Launch) (w : ld_E) (a1 : Int32) (a2 : Int32) (a3 : Int32) (a4 : Int32) (a5 : Int32) {r : ld_M} (C : ld_C p l s m args meth c cX1_note 6 none wsX1_note RX1 w) (Z : ld_M) (t0 : Int32) : ld_T p l e ({ frames := 2, cells := 0, slots := 0, locals := 43 }) s m args below meth c (MQ below (ld_Q w r s.heap.size none) args s 0 0 (ld_A w s.heap.size)) w r (kX1_note_54 a1 a2 a3 a4 a5 Z t0) Z 0 0 54 [some (.ref (ld_ad w 45)), some (.int a1), some (.int a2), some (.int a3), some (.int a4), some (.int a5)] [.int t0, .ref (ld_ad w 45)] := by
  unfold kX1_note_54
  refine lj_put C (i := 45) (kk := 1) (G := (ld_f1 w)) (Tb := TX1) (N := 3) (by decide) (fun _ => rfl) rfl inX1_note_1 (by decide) (List.mem_of_getElem? (i := 1) rfl) rfl tyX1 tyX1_ok nmX1 rfl (by decide +kernel) (Nat.le_of_ble_eq_true rfl) rfl dX1_note_54 ?_
  refine lj_aload_n C rfl rfl dX1_note_57 ?_
  refine lj_aload_n C rfl rfl dX1_note_58 ?_
  refine lj_get C (i := 45) (kk := 2) (G := (ld_f1 w)) (v := .int ((ld_up Z 45 1 t0) 45 2)) (Tb := TX1) (N := 3) (by decide) (fun _ => rfl) rfl inX1_note_1 (by decide) (List.mem_of_getElem? (i := 2) rfl) rfl rfl dX1_note_59 ?_
  refine lj_iconst C (v := 1) (by decide) dX1_note_62 ?_
  refine lj_iadd C dX1_note_63 ?_
  refine lj_bipush C (v := 20) (by decide) dX1_note_64 ?_
  refine lj_min C rfl (List.mem_of_getElem? (i := 3) rfl) (List.mem_of_getElem? (i := 4) rfl) (List.mem_of_getElem? (i := 5) rfl) (List.mem_of_getElem? (i := 6) rfl) (Nat.le_of_ble_eq_true rfl) (Nat.le_of_ble_eq_true rfl) (Nat.le_of_ble_eq_true rfl) (Nat.le_of_ble_eq_true rfl) dX1_note_66 ?_
  refine lj_put C (i := 45) (kk := 2) (G := (ld_f1 w)) (Tb := TX1) (N := 3) (by decide) (fun _ => rfl) rfl inX1_note_1 (by decide) (List.mem_of_getElem? (i := 2) rfl) rfl tyX1 tyX1_ok nmX1 rfl (by decide +kernel) (Nat.le_of_ble_eq_true rfl) rfl dX1_note_69 ?_
  exact lj_rv C (by decide) (by decide) dX1_note_72
def kX1_note (Z : ld_M) (a1 : Int32) (a2 : Int32) (a3 : Int32) (a4 : Int32) (a5 : Int32) : Option (ld_M) := ld_bd (kX1_put Z 0 a1) (fun x3 => ld_bd (kX1_put x3 1 a2) (fun x9 => ld_bd (kX1_put x9 2 a3) (fun x15 => ld_bd (kX1_put x15 3 a4) (fun x22 => ld_bd (kX1_put x22 4 a5) (fun x29 => if (20 : Int32) ≤ ((x29 45 1) + 1) then (kX1_note_54 a1 a2 a3 a4 a5 x29 0) else (kX1_note_54 a1 a2 a3 a4 a5 x29 ((x29 45 1) + 1)))))))
set_option maxHeartbeats 4000000 in
set_option maxRecDepth 100000 in
theorem zX1_note (l : Launch) (w : ld_E) (Z : ld_M) (a1 : Int32) (a2 : Int32) (a3 : Int32) (a4 : Int32) (a5 : Int32)  {r : ld_M} (hr : kX1_note Z a1 a2 a3 a4 a5 = some r) (sz : Nat) : Met l yX1_note wsX1_note ({ frames := 2, cells := 0, slots := 0, locals := 43 }) (ld_Pc w Z sz [.ref (ld_ad w 45), .int a1, .int a2, .int a3, .int a4, .int a5]) (ld_Q w r sz none) 0 0 (ld_A w sz) := by
  refine ld_ofW (ws := wsX1_note) (Qc := fun sz9 => ld_Q w r sz9 none) RX1 (by decide +kernel) rfl rfl (by simp [Value.category]) (Nat.le_of_ble_eq_true rfl) sz ?_
  intro p e s m args below meth c C
  revert hr
  show ld_T p l e ({ frames := 2, cells := 0, slots := 0, locals := 43 }) s m args below meth c (MQ below (ld_Q w r s.heap.size none) args s 0 0 (ld_A w s.heap.size)) w r (kX1_note Z a1 a2 a3 a4 a5) Z 0 0 0 [some (.ref (ld_ad w 45)), some (.int a1), some (.int a2), some (.int a3), some (.int a4), some (.int a5)] []
  unfold kX1_note
  refine lj_aload_n C rfl rfl dX1_note_0 ?_
  refine lj_iconst C (v := 0) (by decide) dX1_note_1 ?_
  refine lj_iload_n C rfl rfl dX1_note_2 ?_
  refine lj_cVv C (As := [.int 0, .int a1]) (rest := []) (i := 45) (ci := 1) (Cn := RX1) (Tb := TX1) (N := 3) (fs := (ld_f1 w) (Z 45)) (fun sz x hx => zX1_put l w Z 0 a1 hx sz) (cwV 2 C.2.2.2.2.1 gX1_note_X1_put rfl rfl rfl (by decide +kernel) ⟨Nat.le_of_ble_eq_true rfl, Nat.le_of_ble_eq_true rfl⟩) (by decide) ((fun _ => rfl) _) rfl rfl rfl rfl (Nat.le_of_ble_eq_true rfl) ⟨Nat.le_of_ble_eq_true rfl, Nat.le_of_ble_eq_true rfl⟩ dX1_note_3 (fun x3 hx3 => ?_)
  refine lj_aload_n C rfl rfl dX1_note_6 ?_
  refine lj_iconst C (v := 1) (by decide) dX1_note_7 ?_
  refine lj_iload_n C rfl rfl dX1_note_8 ?_
  refine lj_cVv C (As := [.int 1, .int a2]) (rest := []) (i := 45) (ci := 1) (Cn := RX1) (Tb := TX1) (N := 3) (fs := (ld_f1 w) (x3 45)) (fun sz x hx => zX1_put l w x3 1 a2 hx sz) (cwV 2 C.2.2.2.2.1 gX1_note_X1_put rfl rfl rfl (by decide +kernel) ⟨Nat.le_of_ble_eq_true rfl, Nat.le_of_ble_eq_true rfl⟩) (by decide) ((fun _ => rfl) _) rfl rfl rfl rfl (Nat.le_of_ble_eq_true rfl) ⟨Nat.le_of_ble_eq_true rfl, Nat.le_of_ble_eq_true rfl⟩ dX1_note_9 (fun x9 hx9 => ?_)
  refine lj_aload_n C rfl rfl dX1_note_12 ?_
  refine lj_iconst C (v := 2) (by decide) dX1_note_13 ?_
  refine lj_iload_n C rfl rfl dX1_note_14 ?_
  refine lj_cVv C (As := [.int 2, .int a3]) (rest := []) (i := 45) (ci := 1) (Cn := RX1) (Tb := TX1) (N := 3) (fs := (ld_f1 w) (x9 45)) (fun sz x hx => zX1_put l w x9 2 a3 hx sz) (cwV 2 C.2.2.2.2.1 gX1_note_X1_put rfl rfl rfl (by decide +kernel) ⟨Nat.le_of_ble_eq_true rfl, Nat.le_of_ble_eq_true rfl⟩) (by decide) ((fun _ => rfl) _) rfl rfl rfl rfl (Nat.le_of_ble_eq_true rfl) ⟨Nat.le_of_ble_eq_true rfl, Nat.le_of_ble_eq_true rfl⟩ dX1_note_15 (fun x15 hx15 => ?_)
  refine lj_aload_n C rfl rfl dX1_note_18 ?_
  refine lj_iconst C (v := 3) (by decide) dX1_note_19 ?_
  refine lj_iload C rfl dX1_note_20 ?_
  refine lj_cVv C (As := [.int 3, .int a4]) (rest := []) (i := 45) (ci := 1) (Cn := RX1) (Tb := TX1) (N := 3) (fs := (ld_f1 w) (x15 45)) (fun sz x hx => zX1_put l w x15 3 a4 hx sz) (cwV 2 C.2.2.2.2.1 gX1_note_X1_put rfl rfl rfl (by decide +kernel) ⟨Nat.le_of_ble_eq_true rfl, Nat.le_of_ble_eq_true rfl⟩) (by decide) ((fun _ => rfl) _) rfl rfl rfl rfl (Nat.le_of_ble_eq_true rfl) ⟨Nat.le_of_ble_eq_true rfl, Nat.le_of_ble_eq_true rfl⟩ dX1_note_22 (fun x22 hx22 => ?_)
  refine lj_aload_n C rfl rfl dX1_note_25 ?_
  refine lj_iconst C (v := 4) (by decide) dX1_note_26 ?_
  refine lj_iload C rfl dX1_note_27 ?_
  refine lj_cVv C (As := [.int 4, .int a5]) (rest := []) (i := 45) (ci := 1) (Cn := RX1) (Tb := TX1) (N := 3) (fs := (ld_f1 w) (x22 45)) (fun sz x hx => zX1_put l w x22 4 a5 hx sz) (cwV 2 C.2.2.2.2.1 gX1_note_X1_put rfl rfl rfl (by decide +kernel) ⟨Nat.le_of_ble_eq_true rfl, Nat.le_of_ble_eq_true rfl⟩) (by decide) ((fun _ => rfl) _) rfl rfl rfl rfl (Nat.le_of_ble_eq_true rfl) ⟨Nat.le_of_ble_eq_true rfl, Nat.le_of_ble_eq_true rfl⟩ dX1_note_29 (fun x29 hx29 => ?_)
  refine lj_aload_n C rfl rfl dX1_note_32 ?_
  refine lj_aload_n C rfl rfl dX1_note_33 ?_
  refine lj_get C (i := 45) (kk := 1) (G := (ld_f1 w)) (v := .int (x29 45 1)) (Tb := TX1) (N := 3) (by decide) (fun _ => rfl) rfl inX1_note_1 (by decide) (List.mem_of_getElem? (i := 1) rfl) rfl rfl dX1_note_34 ?_
  refine lj_iconst C (v := 1) (by decide) dX1_note_37 ?_
  refine lj_iadd C dX1_note_38 ?_
  refine lj_bipush C (v := 20) (by decide) dX1_note_39 ?_
  refine lj_icmp_ge C (tgt := 53) dX1_note_41 (by decide) ?_ ?_
  · refine lj_iconst C (v := 0) (by decide) dX1_note_53 ?_
    exact bX1_note_54 l w a1 a2 a3 a4 a5 C x29 0
  · refine lj_aload_n C rfl rfl dX1_note_44 ?_
    refine lj_get C (i := 45) (kk := 1) (G := (ld_f1 w)) (v := .int (x29 45 1)) (Tb := TX1) (N := 3) (by decide) (fun _ => rfl) rfl inX1_note_1 (by decide) (List.mem_of_getElem? (i := 1) rfl) rfl rfl dX1_note_45 ?_
    refine lj_iconst C (v := 1) (by decide) dX1_note_48 ?_
    refine lj_iadd C dX1_note_49 ?_
    refine lj_goto C (tgt := 54) dX1_note_50 (by decide) ?_
    exact bX1_note_54 l w a1 a2 a3 a4 a5 C x29 ((x29 45 1) + 1)
theorem inX1_lastRow_1 : ∀ q ∈ u_ws RX1 TX1 3, q ∈ wsX1_lastRow := fun _ h => List.mem_cons_of_mem _ (List.mem_append_right _ h)
def kX1_lastRow_18  (Z : ld_M) (t0 : Int32) : Option (Int32) := some t0
set_option maxHeartbeats 4000000 in
set_option maxRecDepth 100000 in
theorem bX1_lastRow_18 {p : Program} {e : Env} {s : State} {m : MethodId} {args : Array Value} {below : List Frame} {meth : Method} {c : Code} (l : Launch) (w : ld_E)  {r : Int32} (C : ld_C p l s m args meth c cX1_lastRow 1 (some .int) wsX1_lastRow RX1 w) (Z : ld_M) (t0 : Int32) : ld_T p l e ({ frames := 0, cells := 0, slots := 0, locals := 0 }) s m args below meth c (MQ below (ld_Q w Z s.heap.size (some (.int r))) args s 0 0 (ld_A w s.heap.size)) w r (kX1_lastRow_18 Z t0) Z 0 0 18 [some (.ref (ld_ad w 45))] [.int t0] := by
  unfold kX1_lastRow_18
  exact lj_ra C (by decide) (by decide) dX1_lastRow_18
def kX1_lastRow (Z : ld_M)  : Option (Int32) := if ((Z 45 1) : Int32) ≤ 0 then (kX1_lastRow_18 Z 19) else (kX1_lastRow_18 Z ((Z 45 1) - 1))
set_option maxHeartbeats 4000000 in
set_option maxRecDepth 100000 in
theorem zX1_lastRow (l : Launch) (w : ld_E) (Z : ld_M)   {r : Int32} (hr : kX1_lastRow Z  = some r) (sz : Nat) : Met l yX1_lastRow wsX1_lastRow ({ frames := 0, cells := 0, slots := 0, locals := 0 }) (ld_Pc w Z sz [.ref (ld_ad w 45)]) (ld_Q w Z sz (some (.int r))) 0 0 (ld_A w sz) := by
  refine ld_ofW (ws := wsX1_lastRow) (Qc := fun sz9 => ld_Q w Z sz9 (some (.int r))) RX1 (by decide +kernel) rfl rfl (by simp [Value.category]) (Nat.le_of_ble_eq_true rfl) sz ?_
  intro p e s m args below meth c C
  revert hr
  show ld_T p l e ({ frames := 0, cells := 0, slots := 0, locals := 0 }) s m args below meth c (MQ below (ld_Q w Z s.heap.size (some (.int r))) args s 0 0 (ld_A w s.heap.size)) w r (kX1_lastRow Z ) Z 0 0 0 [some (.ref (ld_ad w 45))] []
  unfold kX1_lastRow
  refine lj_aload_n C rfl rfl dX1_lastRow_0 ?_
  refine lj_get C (i := 45) (kk := 1) (G := (ld_f1 w)) (v := .int (Z 45 1)) (Tb := TX1) (N := 3) (by decide) (fun _ => rfl) rfl inX1_lastRow_1 (by decide) (List.mem_of_getElem? (i := 1) rfl) rfl rfl dX1_lastRow_1 ?_
  refine lj_if_le C (tgt := 16) dX1_lastRow_4 (by decide) ?_ ?_
  · refine lj_bipush C (v := 19) (by decide) dX1_lastRow_16 ?_
    exact bX1_lastRow_18 l w C Z 19
  · refine lj_aload_n C rfl rfl dX1_lastRow_7 ?_
    refine lj_get C (i := 45) (kk := 1) (G := (ld_f1 w)) (v := .int (Z 45 1)) (Tb := TX1) (N := 3) (by decide) (fun _ => rfl) rfl inX1_lastRow_1 (by decide) (List.mem_of_getElem? (i := 1) rfl) rfl rfl dX1_lastRow_8 ?_
    refine lj_iconst C (v := 1) (by decide) dX1_lastRow_11 ?_
    refine lj_isub C dX1_lastRow_12 ?_
    refine lj_goto C (tgt := 18) dX1_lastRow_13 (by decide) ?_
    exact bX1_lastRow_18 l w C Z ((Z 45 1) - 1)
theorem inX1_lastPart_1 : ∀ q ∈ u_ws RX1 TX1 3, q ∈ wsX1_lastPart := fun _ h => List.mem_cons_of_mem _ (List.mem_append_right _ h)
def kX1_lastPart_25 (a1 : Int32) (Z : ld_M) (v2 : Int32) (t0 : Int32) : Option (Int32) := some t0
set_option maxHeartbeats 4000000 in
set_option maxRecDepth 100000 in
theorem bX1_lastPart_25 {p : Program} {e : Env} {s : State} {m : MethodId} {args : Array Value} {below : List Frame} {meth : Method} {c : Code} (l : Launch) (w : ld_E) (a1 : Int32)   {r : Int32} (C : ld_C p l s m args meth c cX1_lastPart 3 (some .int) wsX1_lastPart RX1 w) (Z : ld_M) (v2 : Int32) (t0 : Int32) : ld_T p l e ({ frames := 1, cells := 0, slots := 0, locals := 21 }) s m args below meth c (MQ below (ld_Q w Z s.heap.size (some (.int r))) args s 0 0 (ld_A w s.heap.size)) w r (kX1_lastPart_25 a1 Z v2 t0) Z 0 0 25 [some (.ref (ld_ad w 45)), some (.int a1), some (.int v2)] [.int t0] := by
  unfold kX1_lastPart_25
  exact lj_ra C (by decide) (by decide) dX1_lastPart_25
def kX1_lastPart (Z : ld_M) (a1 : Int32) : Option (Int32) := ld_bd (kX1_lastRow Z) (fun x1 => ld_bd (kX1_isPlace Z x1 a1) (fun x7 => if (x7 : Int32) = 0 then (kX1_lastPart_25 a1 Z x1 (-1)) else (ld_ck (ld_g x1 20) (ld_ck (ld_g a1 5) (kX1_lastPart_25 a1 Z x1 (Z (47 + x1.toNatClampNeg) a1.toNatClampNeg))))))
set_option maxHeartbeats 4000000 in
set_option maxRecDepth 100000 in
theorem zX1_lastPart (l : Launch) (w : ld_E) (Z : ld_M) (a1 : Int32)  {r : Int32} (hr : kX1_lastPart Z a1 = some r) (sz : Nat) : Met l yX1_lastPart wsX1_lastPart ({ frames := 1, cells := 0, slots := 0, locals := 21 }) (ld_Pc w Z sz [.ref (ld_ad w 45), .int a1]) (ld_Q w Z sz (some (.int r))) 0 0 (ld_A w sz) := by
  refine ld_ofW (ws := wsX1_lastPart) (Qc := fun sz9 => ld_Q w Z sz9 (some (.int r))) RX1 (by decide +kernel) rfl rfl (by simp [Value.category]) (Nat.le_of_ble_eq_true rfl) sz ?_
  intro p e s m args below meth c C
  revert hr
  show ld_T p l e ({ frames := 1, cells := 0, slots := 0, locals := 21 }) s m args below meth c (MQ below (ld_Q w Z s.heap.size (some (.int r))) args s 0 0 (ld_A w s.heap.size)) w r (kX1_lastPart Z a1) Z 0 0 0 [some (.ref (ld_ad w 45)), some (.int a1), none] []
  unfold kX1_lastPart
  refine lj_aload_n C rfl rfl dX1_lastPart_0 ?_
  refine lj_cVa C (As := []) (rest := []) (i := 45) (ci := 1) (Cn := RX1) (Tb := TX1) (N := 3) (fs := (ld_f1 w) (Z 45)) (fun sz x hx => zX1_lastRow l w Z  hx sz) (cwV 0 C.2.2.2.2.1 gX1_lastPart_X1_lastRow rfl rfl rfl (by decide +kernel) ⟨Nat.le_of_ble_eq_true rfl, Nat.le_of_ble_eq_true rfl⟩) (by decide) ((fun _ => rfl) _) rfl rfl rfl rfl (Nat.le_of_ble_eq_true rfl) ⟨Nat.le_of_ble_eq_true rfl, Nat.le_of_ble_eq_true rfl⟩ dX1_lastPart_1 (fun x1 hx1 => ?_)
  refine lj_istore_n C rfl (lv2 := [some (.ref (ld_ad w 45)), some (.int a1), some (.int x1)]) (Nat.le_of_ble_eq_true rfl) rfl dX1_lastPart_4 ?_
  refine lj_iload_n C rfl rfl dX1_lastPart_5 ?_
  refine lj_iload_n C rfl rfl dX1_lastPart_6 ?_
  refine lj_cSa C (As := [.int x1, .int a1]) (rest := []) (fun sz x hx => zX1_isPlace l w Z x1 a1 hx sz) (va_cwS 2 C.2.2.2.2.1 gX1_lastPart_X1_isPlace rfl rfl rfl (by decide +kernel) ⟨Nat.le_of_ble_eq_true rfl, Nat.le_of_ble_eq_true rfl⟩) rfl rfl rfl (Nat.le_of_ble_eq_true rfl) ⟨Nat.le_of_ble_eq_true rfl, Nat.le_of_ble_eq_true rfl⟩ dX1_lastPart_7 (fun x7 hx7 => ?_)
  refine lj_if_eq C (tgt := 24) dX1_lastPart_10 (by decide) ?_ ?_
  · refine lj_iconst C (v := (-1)) (by decide) dX1_lastPart_24 ?_
    exact bX1_lastPart_25 l w a1 C Z x1 (-1)
  · refine lj_aload_n C rfl rfl dX1_lastPart_13 ?_
    refine lj_get C (i := 45) (kk := 0) (G := (ld_f1 w)) (v := .ref (ld_ad w 46)) (Tb := TX1) (N := 3) (by decide) (fun _ => rfl) rfl inX1_lastPart_1 (by decide) (List.mem_of_getElem? (i := 1) rfl) rfl rfl dX1_lastPart_14 ?_
    refine lj_iload_n C rfl rfl dX1_lastPart_17 ?_
    refine lj_aald C (n := 20) (b := 47) (by decide) (fun _ => rfl) dX1_lastPart_18 (fun hx18 => ?_)
    refine lj_iload_n C rfl rfl dX1_lastPart_19 ?_
    refine lj_iald C (n := 5) (ld_h_row_lt  hx18) (ld_h_row  hx18) dX1_lastPart_20 ?_
    refine lj_goto C (tgt := 25) dX1_lastPart_21 (by decide) ?_
    exact bX1_lastPart_25 l w a1 C Z x1 (Z (47 + x1.toNatClampNeg) a1.toNatClampNeg)
theorem inX1_dropLast_1 : ∀ q ∈ u_ws RX1 TX1 3, q ∈ wsX1_dropLast := fun _ h => List.mem_cons_of_mem _ (List.mem_append_right _ h)
def kX1_dropLast (Z : ld_M)  : Option (ld_M) := ld_bd (kX1_lastRow Z) (fun x2 => some (ld_up (ld_up Z 45 1 x2) 45 2 (if (((ld_up Z 45 1 x2) 45 2) - 1) < 0 then 0 else (((ld_up Z 45 1 x2) 45 2) - 1))))
set_option maxHeartbeats 4000000 in
set_option maxRecDepth 100000 in
theorem zX1_dropLast (l : Launch) (w : ld_E) (Z : ld_M)   {r : ld_M} (hr : kX1_dropLast Z  = some r) (sz : Nat) : Met l yX1_dropLast wsX1_dropLast ({ frames := 1, cells := 0, slots := 0, locals := 21 }) (ld_Pc w Z sz [.ref (ld_ad w 45)]) (ld_Q w r sz none) 0 0 (ld_A w sz) := by
  refine ld_ofW (ws := wsX1_dropLast) (Qc := fun sz9 => ld_Q w r sz9 none) RX1 (by decide +kernel) rfl rfl (by simp [Value.category]) (Nat.le_of_ble_eq_true rfl) sz ?_
  intro p e s m args below meth c C
  revert hr
  show ld_T p l e ({ frames := 1, cells := 0, slots := 0, locals := 21 }) s m args below meth c (MQ below (ld_Q w r s.heap.size none) args s 0 0 (ld_A w s.heap.size)) w r (kX1_dropLast Z ) Z 0 0 0 [some (.ref (ld_ad w 45))] []
  unfold kX1_dropLast
  refine lj_aload_n C rfl rfl dX1_dropLast_0 ?_
  refine lj_aload_n C rfl rfl dX1_dropLast_1 ?_
  refine lj_cVa C (As := []) (rest := [.ref (ld_ad w 45)]) (i := 45) (ci := 1) (Cn := RX1) (Tb := TX1) (N := 3) (fs := (ld_f1 w) (Z 45)) (fun sz x hx => zX1_lastRow l w Z  hx sz) (cwV 0 C.2.2.2.2.1 gX1_dropLast_X1_lastRow rfl rfl rfl (by decide +kernel) ⟨Nat.le_of_ble_eq_true rfl, Nat.le_of_ble_eq_true rfl⟩) (by decide) ((fun _ => rfl) _) rfl rfl rfl rfl (Nat.le_of_ble_eq_true rfl) ⟨Nat.le_of_ble_eq_true rfl, Nat.le_of_ble_eq_true rfl⟩ dX1_dropLast_2 (fun x2 hx2 => ?_)
  refine lj_put C (i := 45) (kk := 1) (G := (ld_f1 w)) (Tb := TX1) (N := 3) (by decide) (fun _ => rfl) rfl inX1_dropLast_1 (by decide) (List.mem_of_getElem? (i := 1) rfl) rfl tyX1 tyX1_ok nmX1 rfl (by decide +kernel) (Nat.le_of_ble_eq_true rfl) rfl dX1_dropLast_5 ?_
  refine lj_aload_n C rfl rfl dX1_dropLast_8 ?_
  refine lj_aload_n C rfl rfl dX1_dropLast_9 ?_
  refine lj_get C (i := 45) (kk := 2) (G := (ld_f1 w)) (v := .int ((ld_up Z 45 1 x2) 45 2)) (Tb := TX1) (N := 3) (by decide) (fun _ => rfl) rfl inX1_dropLast_1 (by decide) (List.mem_of_getElem? (i := 2) rfl) rfl rfl dX1_dropLast_10 ?_
  refine lj_iconst C (v := 1) (by decide) dX1_dropLast_13 ?_
  refine lj_isub C dX1_dropLast_14 ?_
  refine lj_iconst C (v := 0) (by decide) dX1_dropLast_15 ?_
  refine lj_max C rfl (List.mem_of_getElem? (i := 3) rfl) (List.mem_of_getElem? (i := 4) rfl) (List.mem_of_getElem? (i := 5) rfl) (List.mem_of_getElem? (i := 6) rfl) (Nat.le_of_ble_eq_true rfl) (Nat.le_of_ble_eq_true rfl) (Nat.le_of_ble_eq_true rfl) (Nat.le_of_ble_eq_true rfl) dX1_dropLast_16 ?_
  refine lj_put C (i := 45) (kk := 2) (G := (ld_f1 w)) (Tb := TX1) (N := 3) (by decide) (fun _ => rfl) rfl inX1_dropLast_1 (by decide) (List.mem_of_getElem? (i := 2) rfl) rfl tyX1 tyX1_ok nmX1 rfl (by decide +kernel) (Nat.le_of_ble_eq_true rfl) rfl dX1_dropLast_19 ?_
  exact lj_rv C (by decide) (by decide) dX1_dropLast_22
theorem inX2_isFull_2 : ∀ q ∈ u_ws RX2 TX2 4, q ∈ wsX2_isFull := fun _ h => List.mem_cons_of_mem _ (List.mem_append_right _ h)
def kX2_isFull_14  (Z : ld_M) (t0 : Int32) : Option (Int32) := ld_ck (ld_b t0) (some t0)
set_option maxHeartbeats 4000000 in
set_option maxRecDepth 100000 in
theorem bX2_isFull_14 {p : Program} {e : Env} {s : State} {m : MethodId} {args : Array Value} {below : List Frame} {meth : Method} {c : Code} (l : Launch) (w : ld_E)  {r : Int32} (C : ld_C p l s m args meth c cX2_isFull 1 (some .boolean) wsX2_isFull RX2 w) (Z : ld_M) (t0 : Int32) : ld_T p l e ({ frames := 0, cells := 0, slots := 0, locals := 0 }) s m args below meth c (MQ below (ld_Q w Z s.heap.size (some (.int r))) args s 0 0 (ld_A w s.heap.size)) w r (kX2_isFull_14 Z t0) Z 0 0 14 [some (.ref (ld_ad w 3))] [.int t0] := by
  unfold kX2_isFull_14
  exact lj_ra_z C (by decide) (by decide) dX2_isFull_14
def kX2_isFull (Z : ld_M)  : Option (Int32) := if ((Z 3 3) : Int32) < 20 then (kX2_isFull_14 Z 0) else (kX2_isFull_14 Z 1)
set_option maxHeartbeats 4000000 in
set_option maxRecDepth 100000 in
theorem zX2_isFull (l : Launch) (w : ld_E) (Z : ld_M)   {r : Int32} (hr : kX2_isFull Z  = some r) (sz : Nat) : Met l yX2_isFull wsX2_isFull ({ frames := 0, cells := 0, slots := 0, locals := 0 }) (ld_Pc w Z sz [.ref (ld_ad w 3)]) (ld_Q w Z sz (some (.int r))) 0 0 (ld_A w sz) := by
  refine ld_ofW (ws := wsX2_isFull) (Qc := fun sz9 => ld_Q w Z sz9 (some (.int r))) RX2 (by decide +kernel) rfl rfl (by simp [Value.category]) (Nat.le_of_ble_eq_true rfl) sz ?_
  intro p e s m args below meth c C
  revert hr
  show ld_T p l e ({ frames := 0, cells := 0, slots := 0, locals := 0 }) s m args below meth c (MQ below (ld_Q w Z s.heap.size (some (.int r))) args s 0 0 (ld_A w s.heap.size)) w r (kX2_isFull Z ) Z 0 0 0 [some (.ref (ld_ad w 3))] []
  unfold kX2_isFull
  refine lj_aload_n C rfl rfl dX2_isFull_0 ?_
  refine lj_get C (i := 3) (kk := 3) (G := (ld_f2 w)) (v := .int (Z 3 3)) (Tb := TX2) (N := 4) (by decide) (fun _ => rfl) rfl inX2_isFull_2 (by decide) (List.mem_of_getElem? (i := 1) rfl) rfl rfl dX2_isFull_1 ?_
  refine lj_bipush C (v := 20) (by decide) dX2_isFull_4 ?_
  refine lj_icmp_lt C (tgt := 13) dX2_isFull_6 (by decide) ?_ ?_
  · refine lj_iconst C (v := 0) (by decide) dX2_isFull_13 ?_
    exact bX2_isFull_14 l w C Z 0
  · refine lj_iconst C (v := 1) (by decide) dX2_isFull_9 ?_
    refine lj_goto C (tgt := 14) dX2_isFull_10 (by decide) ?_
    exact bX2_isFull_14 l w C Z 1
theorem inX2_has_2 : ∀ q ∈ u_ws RX2 TX2 4, q ∈ wsX2_has := fun _ h => List.mem_cons_of_mem _ (List.mem_append_right _ h)
def kX2_has_17 (a1 : Int32) (Z : ld_M) (t0 : Int32) : Option (Int32) := ld_ck (ld_b t0) (some t0)
set_option maxHeartbeats 4000000 in
set_option maxRecDepth 100000 in
theorem bX2_has_17 {p : Program} {e : Env} {s : State} {m : MethodId} {args : Array Value} {below : List Frame} {meth : Method} {c : Code} (l : Launch) (w : ld_E) (a1 : Int32)   {r : Int32} (C : ld_C p l s m args meth c cX2_has 2 (some .boolean) wsX2_has RX2 w) (Z : ld_M) (t0 : Int32) : ld_T p l e ({ frames := 0, cells := 0, slots := 0, locals := 0 }) s m args below meth c (MQ below (ld_Q w Z s.heap.size (some (.int r))) args s 0 0 (ld_A w s.heap.size)) w r (kX2_has_17 a1 Z t0) Z 0 0 17 [some (.ref (ld_ad w 3)), some (.int a1)] [.int t0] := by
  unfold kX2_has_17
  exact lj_ra_z C (by decide) (by decide) dX2_has_17
def kX2_has_16 (a1 : Int32) (Z : ld_M)  : Option (Int32) := kX2_has_17 a1 Z 0
set_option maxHeartbeats 4000000 in
set_option maxRecDepth 100000 in
theorem bX2_has_16 {p : Program} {e : Env} {s : State} {m : MethodId} {args : Array Value} {below : List Frame} {meth : Method} {c : Code} (l : Launch) (w : ld_E) (a1 : Int32)   {r : Int32} (C : ld_C p l s m args meth c cX2_has 2 (some .boolean) wsX2_has RX2 w) (Z : ld_M)  : ld_T p l e ({ frames := 0, cells := 0, slots := 0, locals := 0 }) s m args below meth c (MQ below (ld_Q w Z s.heap.size (some (.int r))) args s 0 0 (ld_A w s.heap.size)) w r (kX2_has_16 a1 Z ) Z 0 0 16 [some (.ref (ld_ad w 3)), some (.int a1)] [] := by
  unfold kX2_has_16
  refine lj_iconst C (v := 0) (by decide) dX2_has_16 ?_
  exact bX2_has_17 l w a1 C Z 0
def kX2_has (Z : ld_M) (a1 : Int32) : Option (Int32) := if (a1 : Int32) < 0 then (kX2_has_16 a1 Z) else (if ((Z 3 3) : Int32) ≤ a1 then (kX2_has_16 a1 Z) else (kX2_has_17 a1 Z 1))
set_option maxHeartbeats 4000000 in
set_option maxRecDepth 100000 in
theorem zX2_has (l : Launch) (w : ld_E) (Z : ld_M) (a1 : Int32)  {r : Int32} (hr : kX2_has Z a1 = some r) (sz : Nat) : Met l yX2_has wsX2_has ({ frames := 0, cells := 0, slots := 0, locals := 0 }) (ld_Pc w Z sz [.ref (ld_ad w 3), .int a1]) (ld_Q w Z sz (some (.int r))) 0 0 (ld_A w sz) := by
  refine ld_ofW (ws := wsX2_has) (Qc := fun sz9 => ld_Q w Z sz9 (some (.int r))) RX2 (by decide +kernel) rfl rfl (by simp [Value.category]) (Nat.le_of_ble_eq_true rfl) sz ?_
  intro p e s m args below meth c C
  revert hr
  show ld_T p l e ({ frames := 0, cells := 0, slots := 0, locals := 0 }) s m args below meth c (MQ below (ld_Q w Z s.heap.size (some (.int r))) args s 0 0 (ld_A w s.heap.size)) w r (kX2_has Z a1) Z 0 0 0 [some (.ref (ld_ad w 3)), some (.int a1)] []
  unfold kX2_has
  refine lj_iload_n C rfl rfl dX2_has_0 ?_
  refine lj_if_lt C (tgt := 16) dX2_has_1 (by decide) ?_ ?_
  · exact bX2_has_16 l w a1 C Z
  · refine lj_iload_n C rfl rfl dX2_has_4 ?_
    refine lj_aload_n C rfl rfl dX2_has_5 ?_
    refine lj_get C (i := 3) (kk := 3) (G := (ld_f2 w)) (v := .int (Z 3 3)) (Tb := TX2) (N := 4) (by decide) (fun _ => rfl) rfl inX2_has_2 (by decide) (List.mem_of_getElem? (i := 1) rfl) rfl rfl dX2_has_6 ?_
    refine lj_icmp_ge C (tgt := 16) dX2_has_9 (by decide) ?_ ?_
    · exact bX2_has_16 l w a1 C Z
    · refine lj_iconst C (v := 1) (by decide) dX2_has_12 ?_
      refine lj_goto C (tgt := 17) dX2_has_13 (by decide) ?_
      exact bX2_has_17 l w a1 C Z 1
theorem inX2_setKind_2 : ∀ q ∈ u_ws RX2 TX2 4, q ∈ wsX2_setKind := fun _ h => List.mem_cons_of_mem _ (List.mem_append_right _ h)
def kX2_setKind_22 (a1 : Int32) (a2 : Int32) (a3 : Int32) (Z : ld_M)  : Option (ld_M) := some Z
set_option maxHeartbeats 4000000 in
set_option maxRecDepth 100000 in
theorem bX2_setKind_22 {p : Program} {e : Env} {s : State} {m : MethodId} {args : Array Value} {below : List Frame} {meth : Method} {c : Code} (l : Launch) (w : ld_E) (a1 : Int32) (a2 : Int32) (a3 : Int32) {r : ld_M} (C : ld_C p l s m args meth c cX2_setKind 4 none wsX2_setKind RX2 w) (Z : ld_M)  : ld_T p l e ({ frames := 1, cells := 0, slots := 0, locals := 21 }) s m args below meth c (MQ below (ld_Q w r s.heap.size none) args s 0 0 (ld_A w s.heap.size)) w r (kX2_setKind_22 a1 a2 a3 Z ) Z 0 0 22 [some (.ref (ld_ad w 3)), some (.int a1), some (.int a2), some (.int a3)] [] := by
  unfold kX2_setKind_22
  exact lj_rv C (by decide) (by decide) dX2_setKind_22
def kX2_setKind (Z : ld_M) (a1 : Int32) (a2 : Int32) (a3 : Int32) : Option (ld_M) := ld_bd (kX2_has Z a1) (fun x2 => if (x2 : Int32) = 0 then (kX2_setKind_22 a1 a2 a3 Z) else (ld_ck (ld_g a1 20) (ld_ck (ld_g a1 20) (kX2_setKind_22 a1 a2 a3 (ld_up (ld_up Z 4 a1.toNatClampNeg a2) 5 a1.toNatClampNeg a3)))))
set_option maxHeartbeats 4000000 in
set_option maxRecDepth 100000 in
theorem zX2_setKind (l : Launch) (w : ld_E) (Z : ld_M) (a1 : Int32) (a2 : Int32) (a3 : Int32)  {r : ld_M} (hr : kX2_setKind Z a1 a2 a3 = some r) (sz : Nat) : Met l yX2_setKind wsX2_setKind ({ frames := 1, cells := 0, slots := 0, locals := 21 }) (ld_Pc w Z sz [.ref (ld_ad w 3), .int a1, .int a2, .int a3]) (ld_Q w r sz none) 0 0 (ld_A w sz) := by
  refine ld_ofW (ws := wsX2_setKind) (Qc := fun sz9 => ld_Q w r sz9 none) RX2 (by decide +kernel) rfl rfl (by simp [Value.category]) (Nat.le_of_ble_eq_true rfl) sz ?_
  intro p e s m args below meth c C
  revert hr
  show ld_T p l e ({ frames := 1, cells := 0, slots := 0, locals := 21 }) s m args below meth c (MQ below (ld_Q w r s.heap.size none) args s 0 0 (ld_A w s.heap.size)) w r (kX2_setKind Z a1 a2 a3) Z 0 0 0 [some (.ref (ld_ad w 3)), some (.int a1), some (.int a2), some (.int a3)] []
  unfold kX2_setKind
  refine lj_aload_n C rfl rfl dX2_setKind_0 ?_
  refine lj_iload_n C rfl rfl dX2_setKind_1 ?_
  refine lj_cVa C (As := [.int a1]) (rest := []) (i := 3) (ci := 2) (Cn := RX2) (Tb := TX2) (N := 4) (fs := (ld_f2 w) (Z 3)) (fun sz x hx => zX2_has l w Z a1 hx sz) (cwV 1 C.2.2.2.2.1 gX2_setKind_X2_has rfl rfl rfl (by decide +kernel) ⟨Nat.le_of_ble_eq_true rfl, Nat.le_of_ble_eq_true rfl⟩) (by decide) ((fun _ => rfl) _) rfl rfl rfl rfl (Nat.le_of_ble_eq_true rfl) ⟨Nat.le_of_ble_eq_true rfl, Nat.le_of_ble_eq_true rfl⟩ dX2_setKind_2 (fun x2 hx2 => ?_)
  refine lj_if_eq C (tgt := 22) dX2_setKind_5 (by decide) ?_ ?_
  · exact bX2_setKind_22 l w a1 a2 a3 C Z
  · refine lj_aload_n C rfl rfl dX2_setKind_8 ?_
    refine lj_get C (i := 3) (kk := 0) (G := (ld_f2 w)) (v := .ref (ld_ad w 4)) (Tb := TX2) (N := 4) (by decide) (fun _ => rfl) rfl inX2_setKind_2 (by decide) (List.mem_of_getElem? (i := 1) rfl) rfl rfl dX2_setKind_9 ?_
    refine lj_iload_n C rfl rfl dX2_setKind_12 ?_
    refine lj_iload_n C rfl rfl dX2_setKind_13 ?_
    refine lj_iast C (n := 20) (by decide) (fun _ => rfl) dX2_setKind_14 ?_
    refine lj_aload_n C rfl rfl dX2_setKind_15 ?_
    refine lj_get C (i := 3) (kk := 1) (G := (ld_f2 w)) (v := .ref (ld_ad w 5)) (Tb := TX2) (N := 4) (by decide) (fun _ => rfl) rfl inX2_setKind_2 (by decide) (List.mem_of_getElem? (i := 2) rfl) rfl rfl dX2_setKind_16 ?_
    refine lj_iload_n C rfl rfl dX2_setKind_19 ?_
    refine lj_iload_n C rfl rfl dX2_setKind_20 ?_
    refine lj_iast C (n := 20) (by decide) (fun _ => rfl) dX2_setKind_21 ?_
    exact bX2_setKind_22 l w a1 a2 a3 C (ld_up (ld_up Z 4 a1.toNatClampNeg a2) 5 a1.toNatClampNeg a3)
theorem inX2_add_2 : ∀ q ∈ u_ws RX2 TX2 4, q ∈ wsX2_add := fun _ h => List.mem_cons_of_mem _ (List.mem_append_right _ h)
def kX2_add_15 (a1 : Int32) (a2 : Int32) (Z : ld_M) (v3 : Int32) : Option (Int32 × ld_M) := some ((-1), Z)
set_option maxHeartbeats 4000000 in
set_option maxRecDepth 100000 in
theorem bX2_add_15 {p : Program} {e : Env} {s : State} {m : MethodId} {args : Array Value} {below : List Frame} {meth : Method} {c : Code} (l : Launch) (w : ld_E) (a1 : Int32) (a2 : Int32) {r : Int32 × ld_M} (C : ld_C p l s m args meth c cX2_add 4 (some .int) wsX2_add RX2 w) (Z : ld_M) (v3 : Int32) : ld_T p l e ({ frames := 2, cells := 0, slots := 0, locals := 44 }) s m args below meth c (MQ below (ld_Q w r.2 s.heap.size (some (.int r.1))) args s 0 0 (ld_A w s.heap.size)) w r (kX2_add_15 a1 a2 Z v3) Z 0 0 15 [some (.ref (ld_ad w 3)), some (.int a1), some (.int a2), some (.int v3)] [] := by
  unfold kX2_add_15
  refine lj_iconst C (v := (-1)) (by decide) dX2_add_15 ?_
  exact lj_rb C (by decide) (by decide) dX2_add_16
def kX2_add (Z : ld_M) (a1 : Int32) (a2 : Int32) : Option (Int32 × ld_M) := if ((Z 3 3) : Int32) < 0 then (kX2_add_15 a1 a2 Z (Z 3 3)) else (if ((Z 3 3) : Int32) < 20 then (ld_bd (kX2_setKind (ld_up Z 3 3 ((Z 3 3) + 1)) (Z 3 3) a1 a2) (fun x31 => some ((Z 3 3), x31))) else (kX2_add_15 a1 a2 Z (Z 3 3)))
set_option maxHeartbeats 4000000 in
set_option maxRecDepth 100000 in
theorem zX2_add (l : Launch) (w : ld_E) (Z : ld_M) (a1 : Int32) (a2 : Int32)  {r : Int32 × ld_M} (hr : kX2_add Z a1 a2 = some r) (sz : Nat) : Met l yX2_add wsX2_add ({ frames := 2, cells := 0, slots := 0, locals := 44 }) (ld_Pc w Z sz [.ref (ld_ad w 3), .int a1, .int a2]) (ld_Q w r.2 sz (some (.int r.1))) 0 0 (ld_A w sz) := by
  refine ld_ofW (ws := wsX2_add) (Qc := fun sz9 => ld_Q w r.2 sz9 (some (.int r.1))) RX2 (by decide +kernel) rfl rfl (by simp [Value.category]) (Nat.le_of_ble_eq_true rfl) sz ?_
  intro p e s m args below meth c C
  revert hr
  show ld_T p l e ({ frames := 2, cells := 0, slots := 0, locals := 44 }) s m args below meth c (MQ below (ld_Q w r.2 s.heap.size (some (.int r.1))) args s 0 0 (ld_A w s.heap.size)) w r (kX2_add Z a1 a2) Z 0 0 0 [some (.ref (ld_ad w 3)), some (.int a1), some (.int a2), none] []
  unfold kX2_add
  refine lj_aload_n C rfl rfl dX2_add_0 ?_
  refine lj_get C (i := 3) (kk := 3) (G := (ld_f2 w)) (v := .int (Z 3 3)) (Tb := TX2) (N := 4) (by decide) (fun _ => rfl) rfl inX2_add_2 (by decide) (List.mem_of_getElem? (i := 1) rfl) rfl rfl dX2_add_1 ?_
  refine lj_istore_n C rfl (lv2 := [some (.ref (ld_ad w 3)), some (.int a1), some (.int a2), some (.int (Z 3 3))]) (Nat.le_of_ble_eq_true rfl) rfl dX2_add_4 ?_
  refine lj_iload_n C rfl rfl dX2_add_5 ?_
  refine lj_if_lt C (tgt := 15) dX2_add_6 (by decide) ?_ ?_
  · exact bX2_add_15 l w a1 a2 C Z (Z 3 3)
  · refine lj_iload_n C rfl rfl dX2_add_9 ?_
    refine lj_bipush C (v := 20) (by decide) dX2_add_10 ?_
    refine lj_icmp_lt C (tgt := 17) dX2_add_12 (by decide) ?_ ?_
    · refine lj_aload_n C rfl rfl dX2_add_17 ?_
      refine lj_dup C rfl dX2_add_18 ?_
      refine lj_get C (i := 3) (kk := 3) (G := (ld_f2 w)) (v := .int (Z 3 3)) (Tb := TX2) (N := 4) (by decide) (fun _ => rfl) rfl inX2_add_2 (by decide) (List.mem_of_getElem? (i := 1) rfl) rfl rfl dX2_add_19 ?_
      refine lj_iconst C (v := 1) (by decide) dX2_add_22 ?_
      refine lj_iadd C dX2_add_23 ?_
      refine lj_put C (i := 3) (kk := 3) (G := (ld_f2 w)) (Tb := TX2) (N := 4) (by decide) (fun _ => rfl) rfl inX2_add_2 (by decide) (List.mem_of_getElem? (i := 1) rfl) rfl tyX2 tyX2_ok nmX2 rfl (by decide +kernel) (Nat.le_of_ble_eq_true rfl) rfl dX2_add_24 ?_
      refine lj_aload_n C rfl rfl dX2_add_27 ?_
      refine lj_iload_n C rfl rfl dX2_add_28 ?_
      refine lj_iload_n C rfl rfl dX2_add_29 ?_
      refine lj_iload_n C rfl rfl dX2_add_30 ?_
      refine lj_cVv C (As := [.int (Z 3 3), .int a1, .int a2]) (rest := []) (i := 3) (ci := 2) (Cn := RX2) (Tb := TX2) (N := 4) (fs := (ld_f2 w) ((ld_up Z 3 3 ((Z 3 3) + 1)) 3)) (fun sz x hx => zX2_setKind l w (ld_up Z 3 3 ((Z 3 3) + 1)) (Z 3 3) a1 a2 hx sz) (cwV 3 C.2.2.2.2.1 gX2_add_X2_setKind rfl rfl rfl (by decide +kernel) ⟨Nat.le_of_ble_eq_true rfl, Nat.le_of_ble_eq_true rfl⟩) (by decide) ((fun _ => rfl) _) rfl rfl rfl rfl (Nat.le_of_ble_eq_true rfl) ⟨Nat.le_of_ble_eq_true rfl, Nat.le_of_ble_eq_true rfl⟩ dX2_add_31 (fun x31 hx31 => ?_)
      refine lj_iload_n C rfl rfl dX2_add_34 ?_
      exact lj_rb C (by decide) (by decide) dX2_add_35
    · exact bX2_add_15 l w a1 a2 C Z (Z 3 3)
theorem inX2_powerOf_2 : ∀ q ∈ u_ws RX2 TX2 4, q ∈ wsX2_powerOf := fun _ h => List.mem_cons_of_mem _ (List.mem_append_right _ h)
def kX2_powerOf_18 (a1 : Int32) (Z : ld_M) (t0 : Int32) : Option (Int32) := some t0
set_option maxHeartbeats 4000000 in
set_option maxRecDepth 100000 in
theorem bX2_powerOf_18 {p : Program} {e : Env} {s : State} {m : MethodId} {args : Array Value} {below : List Frame} {meth : Method} {c : Code} (l : Launch) (w : ld_E) (a1 : Int32)   {r : Int32} (C : ld_C p l s m args meth c cX2_powerOf 2 (some .int) wsX2_powerOf RX2 w) (Z : ld_M) (t0 : Int32) : ld_T p l e ({ frames := 1, cells := 0, slots := 0, locals := 21 }) s m args below meth c (MQ below (ld_Q w Z s.heap.size (some (.int r))) args s 0 0 (ld_A w s.heap.size)) w r (kX2_powerOf_18 a1 Z t0) Z 0 0 18 [some (.ref (ld_ad w 3)), some (.int a1)] [.int t0] := by
  unfold kX2_powerOf_18
  exact lj_ra C (by decide) (by decide) dX2_powerOf_18
def kX2_powerOf (Z : ld_M) (a1 : Int32) : Option (Int32) := ld_bd (kX2_has Z a1) (fun x2 => if (x2 : Int32) = 0 then (kX2_powerOf_18 a1 Z 0) else (ld_ck (ld_g a1 20) (kX2_powerOf_18 a1 Z (Z 4 a1.toNatClampNeg))))
set_option maxHeartbeats 4000000 in
set_option maxRecDepth 100000 in
theorem zX2_powerOf (l : Launch) (w : ld_E) (Z : ld_M) (a1 : Int32)  {r : Int32} (hr : kX2_powerOf Z a1 = some r) (sz : Nat) : Met l yX2_powerOf wsX2_powerOf ({ frames := 1, cells := 0, slots := 0, locals := 21 }) (ld_Pc w Z sz [.ref (ld_ad w 3), .int a1]) (ld_Q w Z sz (some (.int r))) 0 0 (ld_A w sz) := by
  refine ld_ofW (ws := wsX2_powerOf) (Qc := fun sz9 => ld_Q w Z sz9 (some (.int r))) RX2 (by decide +kernel) rfl rfl (by simp [Value.category]) (Nat.le_of_ble_eq_true rfl) sz ?_
  intro p e s m args below meth c C
  revert hr
  show ld_T p l e ({ frames := 1, cells := 0, slots := 0, locals := 21 }) s m args below meth c (MQ below (ld_Q w Z s.heap.size (some (.int r))) args s 0 0 (ld_A w s.heap.size)) w r (kX2_powerOf Z a1) Z 0 0 0 [some (.ref (ld_ad w 3)), some (.int a1)] []
  unfold kX2_powerOf
  refine lj_aload_n C rfl rfl dX2_powerOf_0 ?_
  refine lj_iload_n C rfl rfl dX2_powerOf_1 ?_
  refine lj_cVa C (As := [.int a1]) (rest := []) (i := 3) (ci := 2) (Cn := RX2) (Tb := TX2) (N := 4) (fs := (ld_f2 w) (Z 3)) (fun sz x hx => zX2_has l w Z a1 hx sz) (cwV 1 C.2.2.2.2.1 gX2_powerOf_X2_has rfl rfl rfl (by decide +kernel) ⟨Nat.le_of_ble_eq_true rfl, Nat.le_of_ble_eq_true rfl⟩) (by decide) ((fun _ => rfl) _) rfl rfl rfl rfl (Nat.le_of_ble_eq_true rfl) ⟨Nat.le_of_ble_eq_true rfl, Nat.le_of_ble_eq_true rfl⟩ dX2_powerOf_2 (fun x2 hx2 => ?_)
  refine lj_if_eq C (tgt := 17) dX2_powerOf_5 (by decide) ?_ ?_
  · refine lj_iconst C (v := 0) (by decide) dX2_powerOf_17 ?_
    exact bX2_powerOf_18 l w a1 C Z 0
  · refine lj_aload_n C rfl rfl dX2_powerOf_8 ?_
    refine lj_get C (i := 3) (kk := 0) (G := (ld_f2 w)) (v := .ref (ld_ad w 4)) (Tb := TX2) (N := 4) (by decide) (fun _ => rfl) rfl inX2_powerOf_2 (by decide) (List.mem_of_getElem? (i := 1) rfl) rfl rfl dX2_powerOf_9 ?_
    refine lj_iload_n C rfl rfl dX2_powerOf_12 ?_
    refine lj_iald C (n := 20) (by decide) (fun _ => rfl) dX2_powerOf_13 ?_
    refine lj_goto C (tgt := 18) dX2_powerOf_14 (by decide) ?_
    exact bX2_powerOf_18 l w a1 C Z (Z 4 a1.toNatClampNeg)
theorem inX2_gelOf_2 : ∀ q ∈ u_ws RX2 TX2 4, q ∈ wsX2_gelOf := fun _ h => List.mem_cons_of_mem _ (List.mem_append_right _ h)
def kX2_gelOf_18 (a1 : Int32) (Z : ld_M) (t0 : Int32) : Option (Int32) := some t0
set_option maxHeartbeats 4000000 in
set_option maxRecDepth 100000 in
theorem bX2_gelOf_18 {p : Program} {e : Env} {s : State} {m : MethodId} {args : Array Value} {below : List Frame} {meth : Method} {c : Code} (l : Launch) (w : ld_E) (a1 : Int32)   {r : Int32} (C : ld_C p l s m args meth c cX2_gelOf 2 (some .int) wsX2_gelOf RX2 w) (Z : ld_M) (t0 : Int32) : ld_T p l e ({ frames := 1, cells := 0, slots := 0, locals := 21 }) s m args below meth c (MQ below (ld_Q w Z s.heap.size (some (.int r))) args s 0 0 (ld_A w s.heap.size)) w r (kX2_gelOf_18 a1 Z t0) Z 0 0 18 [some (.ref (ld_ad w 3)), some (.int a1)] [.int t0] := by
  unfold kX2_gelOf_18
  exact lj_ra C (by decide) (by decide) dX2_gelOf_18
def kX2_gelOf (Z : ld_M) (a1 : Int32) : Option (Int32) := ld_bd (kX2_has Z a1) (fun x2 => if (x2 : Int32) = 0 then (kX2_gelOf_18 a1 Z 0) else (ld_ck (ld_g a1 20) (kX2_gelOf_18 a1 Z (Z 5 a1.toNatClampNeg))))
set_option maxHeartbeats 4000000 in
set_option maxRecDepth 100000 in
theorem zX2_gelOf (l : Launch) (w : ld_E) (Z : ld_M) (a1 : Int32)  {r : Int32} (hr : kX2_gelOf Z a1 = some r) (sz : Nat) : Met l yX2_gelOf wsX2_gelOf ({ frames := 1, cells := 0, slots := 0, locals := 21 }) (ld_Pc w Z sz [.ref (ld_ad w 3), .int a1]) (ld_Q w Z sz (some (.int r))) 0 0 (ld_A w sz) := by
  refine ld_ofW (ws := wsX2_gelOf) (Qc := fun sz9 => ld_Q w Z sz9 (some (.int r))) RX2 (by decide +kernel) rfl rfl (by simp [Value.category]) (Nat.le_of_ble_eq_true rfl) sz ?_
  intro p e s m args below meth c C
  revert hr
  show ld_T p l e ({ frames := 1, cells := 0, slots := 0, locals := 21 }) s m args below meth c (MQ below (ld_Q w Z s.heap.size (some (.int r))) args s 0 0 (ld_A w s.heap.size)) w r (kX2_gelOf Z a1) Z 0 0 0 [some (.ref (ld_ad w 3)), some (.int a1)] []
  unfold kX2_gelOf
  refine lj_aload_n C rfl rfl dX2_gelOf_0 ?_
  refine lj_iload_n C rfl rfl dX2_gelOf_1 ?_
  refine lj_cVa C (As := [.int a1]) (rest := []) (i := 3) (ci := 2) (Cn := RX2) (Tb := TX2) (N := 4) (fs := (ld_f2 w) (Z 3)) (fun sz x hx => zX2_has l w Z a1 hx sz) (cwV 1 C.2.2.2.2.1 gX2_gelOf_X2_has rfl rfl rfl (by decide +kernel) ⟨Nat.le_of_ble_eq_true rfl, Nat.le_of_ble_eq_true rfl⟩) (by decide) ((fun _ => rfl) _) rfl rfl rfl rfl (Nat.le_of_ble_eq_true rfl) ⟨Nat.le_of_ble_eq_true rfl, Nat.le_of_ble_eq_true rfl⟩ dX2_gelOf_2 (fun x2 hx2 => ?_)
  refine lj_if_eq C (tgt := 17) dX2_gelOf_5 (by decide) ?_ ?_
  · refine lj_iconst C (v := 0) (by decide) dX2_gelOf_17 ?_
    exact bX2_gelOf_18 l w a1 C Z 0
  · refine lj_aload_n C rfl rfl dX2_gelOf_8 ?_
    refine lj_get C (i := 3) (kk := 1) (G := (ld_f2 w)) (v := .ref (ld_ad w 5)) (Tb := TX2) (N := 4) (by decide) (fun _ => rfl) rfl inX2_gelOf_2 (by decide) (List.mem_of_getElem? (i := 1) rfl) rfl rfl dX2_gelOf_9 ?_
    refine lj_iload_n C rfl rfl dX2_gelOf_12 ?_
    refine lj_iald C (n := 20) (by decide) (fun _ => rfl) dX2_gelOf_13 ?_
    refine lj_goto C (tgt := 18) dX2_gelOf_14 (by decide) ?_
    exact bX2_gelOf_18 l w a1 C Z (Z 5 a1.toNatClampNeg)
theorem inX2_channelOf_2 : ∀ q ∈ u_ws RX2 TX2 4, q ∈ wsX2_channelOf := fun _ h => List.mem_cons_of_mem _ (List.mem_append_right _ h)
def kX2_channelOf_27 (a1 : Int32) (a2 : Int32) (Z : ld_M) (t0 : Int32) : Option (Int32) := some t0
set_option maxHeartbeats 4000000 in
set_option maxRecDepth 100000 in
theorem bX2_channelOf_27 {p : Program} {e : Env} {s : State} {m : MethodId} {args : Array Value} {below : List Frame} {meth : Method} {c : Code} (l : Launch) (w : ld_E) (a1 : Int32) (a2 : Int32)   {r : Int32} (C : ld_C p l s m args meth c cX2_channelOf 3 (some .int) wsX2_channelOf RX2 w) (Z : ld_M) (t0 : Int32) : ld_T p l e ({ frames := 1, cells := 0, slots := 0, locals := 21 }) s m args below meth c (MQ below (ld_Q w Z s.heap.size (some (.int r))) args s 0 0 (ld_A w s.heap.size)) w r (kX2_channelOf_27 a1 a2 Z t0) Z 0 0 27 [some (.ref (ld_ad w 3)), some (.int a1), some (.int a2)] [.int t0] := by
  unfold kX2_channelOf_27
  exact lj_ra C (by decide) (by decide) dX2_channelOf_27
def kX2_channelOf_26 (a1 : Int32) (a2 : Int32) (Z : ld_M)  : Option (Int32) := kX2_channelOf_27 a1 a2 Z (-1)
set_option maxHeartbeats 4000000 in
set_option maxRecDepth 100000 in
theorem bX2_channelOf_26 {p : Program} {e : Env} {s : State} {m : MethodId} {args : Array Value} {below : List Frame} {meth : Method} {c : Code} (l : Launch) (w : ld_E) (a1 : Int32) (a2 : Int32)   {r : Int32} (C : ld_C p l s m args meth c cX2_channelOf 3 (some .int) wsX2_channelOf RX2 w) (Z : ld_M)  : ld_T p l e ({ frames := 1, cells := 0, slots := 0, locals := 21 }) s m args below meth c (MQ below (ld_Q w Z s.heap.size (some (.int r))) args s 0 0 (ld_A w s.heap.size)) w r (kX2_channelOf_26 a1 a2 Z ) Z 0 0 26 [some (.ref (ld_ad w 3)), some (.int a1), some (.int a2)] [] := by
  unfold kX2_channelOf_26
  refine lj_iconst C (v := (-1)) (by decide) dX2_channelOf_26 ?_
  exact bX2_channelOf_27 l w a1 a2 C Z (-1)
def kX2_channelOf (Z : ld_M) (a1 : Int32) (a2 : Int32) : Option (Int32) := ld_bd (kX3_isNight Z a1) (fun x1 => if (x1 : Int32) = 0 then (kX2_channelOf_26 a1 a2 Z) else (ld_bd (kX2_has Z a2) (fun x9 => if (x9 : Int32) = 0 then (kX2_channelOf_26 a1 a2 Z) else (ld_ck (ld_g a1 4) (ld_ck (ld_g a2 20) (kX2_channelOf_27 a1 a2 Z (Z (7 + a1.toNatClampNeg) a2.toNatClampNeg)))))))
set_option maxHeartbeats 4000000 in
set_option maxRecDepth 100000 in
theorem zX2_channelOf (l : Launch) (w : ld_E) (Z : ld_M) (a1 : Int32) (a2 : Int32)  {r : Int32} (hr : kX2_channelOf Z a1 a2 = some r) (sz : Nat) : Met l yX2_channelOf wsX2_channelOf ({ frames := 1, cells := 0, slots := 0, locals := 21 }) (ld_Pc w Z sz [.ref (ld_ad w 3), .int a1, .int a2]) (ld_Q w Z sz (some (.int r))) 0 0 (ld_A w sz) := by
  refine ld_ofW (ws := wsX2_channelOf) (Qc := fun sz9 => ld_Q w Z sz9 (some (.int r))) RX2 (by decide +kernel) rfl rfl (by simp [Value.category]) (Nat.le_of_ble_eq_true rfl) sz ?_
  intro p e s m args below meth c C
  revert hr
  show ld_T p l e ({ frames := 1, cells := 0, slots := 0, locals := 21 }) s m args below meth c (MQ below (ld_Q w Z s.heap.size (some (.int r))) args s 0 0 (ld_A w s.heap.size)) w r (kX2_channelOf Z a1 a2) Z 0 0 0 [some (.ref (ld_ad w 3)), some (.int a1), some (.int a2)] []
  unfold kX2_channelOf
  refine lj_iload_n C rfl rfl dX2_channelOf_0 ?_
  refine lj_cNa C (As := [.int a1]) (rest := []) (fun sz x hx => zX3_isNight l w Z a1 hx sz) ⟨va_cnB 1 C.2.2.2.2.1 gX2_channelOf_X3_isNight_n41 rfl rfl rfl (C.2.2.2.2.2.2.2.2.1.2.2.2.2 (RX2, 41, yX3_isNight) (by simp [ld_nest])) (C.2.2.2.2.1 _ (List.mem_of_getElem? (i := 3) rfl)) (by decide +kernel) ⟨Nat.le_of_ble_eq_true rfl, Nat.le_of_ble_eq_true rfl⟩, C.2.2.2.2.1 _ (List.mem_of_getElem? (i := 2) rfl), trivial⟩ rfl rfl rfl (Nat.le_of_ble_eq_true rfl) ⟨Nat.le_of_ble_eq_true rfl, Nat.le_of_ble_eq_true rfl⟩ dX2_channelOf_1 (fun x1 hx1 => ?_)
  refine lj_if_eq C (tgt := 26) dX2_channelOf_4 (by decide) ?_ ?_
  · exact bX2_channelOf_26 l w a1 a2 C Z
  · refine lj_aload_n C rfl rfl dX2_channelOf_7 ?_
    refine lj_iload_n C rfl rfl dX2_channelOf_8 ?_
    refine lj_cVa C (As := [.int a2]) (rest := []) (i := 3) (ci := 2) (Cn := RX2) (Tb := TX2) (N := 4) (fs := (ld_f2 w) (Z 3)) (fun sz x hx => zX2_has l w Z a2 hx sz) (cwV 1 C.2.2.2.2.1 gX2_channelOf_X2_has rfl rfl rfl (by decide +kernel) ⟨Nat.le_of_ble_eq_true rfl, Nat.le_of_ble_eq_true rfl⟩) (by decide) ((fun _ => rfl) _) rfl rfl rfl rfl (Nat.le_of_ble_eq_true rfl) ⟨Nat.le_of_ble_eq_true rfl, Nat.le_of_ble_eq_true rfl⟩ dX2_channelOf_9 (fun x9 hx9 => ?_)
    refine lj_if_eq C (tgt := 26) dX2_channelOf_12 (by decide) ?_ ?_
    · exact bX2_channelOf_26 l w a1 a2 C Z
    · refine lj_aload_n C rfl rfl dX2_channelOf_15 ?_
      refine lj_get C (i := 3) (kk := 2) (G := (ld_f2 w)) (v := .ref (ld_ad w 6)) (Tb := TX2) (N := 4) (by decide) (fun _ => rfl) rfl inX2_channelOf_2 (by decide) (List.mem_of_getElem? (i := 1) rfl) rfl rfl dX2_channelOf_16 ?_
      refine lj_iload_n C rfl rfl dX2_channelOf_19 ?_
      refine lj_aald C (n := 4) (b := 7) (by decide) (fun _ => rfl) dX2_channelOf_20 (fun hx20 => ?_)
      refine lj_iload_n C rfl rfl dX2_channelOf_21 ?_
      refine lj_iald C (n := 20) (ld_g_row_lt  hx20) (ld_g_row  hx20) dX2_channelOf_22 ?_
      refine lj_goto C (tgt := 27) dX2_channelOf_23 (by decide) ?_
      exact bX2_channelOf_27 l w a1 a2 C Z (Z (7 + a1.toNatClampNeg) a2.toNatClampNeg)
theorem inX2_setChannel_2 : ∀ q ∈ u_ws RX2 TX2 4, q ∈ wsX2_setChannel := fun _ h => List.mem_cons_of_mem _ (List.mem_append_right _ h)
def kX2_setChannel_24 (a1 : Int32) (a2 : Int32) (a3 : Int32) (Z : ld_M)  : Option (ld_M) := some Z
set_option maxHeartbeats 4000000 in
set_option maxRecDepth 100000 in
theorem bX2_setChannel_24 {p : Program} {e : Env} {s : State} {m : MethodId} {args : Array Value} {below : List Frame} {meth : Method} {c : Code} (l : Launch) (w : ld_E) (a1 : Int32) (a2 : Int32) (a3 : Int32) {r : ld_M} (C : ld_C p l s m args meth c cX2_setChannel 4 none wsX2_setChannel RX2 w) (Z : ld_M)  : ld_T p l e ({ frames := 1, cells := 0, slots := 0, locals := 21 }) s m args below meth c (MQ below (ld_Q w r s.heap.size none) args s 0 0 (ld_A w s.heap.size)) w r (kX2_setChannel_24 a1 a2 a3 Z ) Z 0 0 24 [some (.ref (ld_ad w 3)), some (.int a1), some (.int a2), some (.int a3)] [] := by
  unfold kX2_setChannel_24
  exact lj_rv C (by decide) (by decide) dX2_setChannel_24
def kX2_setChannel (Z : ld_M) (a1 : Int32) (a2 : Int32) (a3 : Int32) : Option (ld_M) := ld_bd (kX3_isNight Z a1) (fun x1 => if (x1 : Int32) = 0 then (kX2_setChannel_24 a1 a2 a3 Z) else (ld_bd (kX2_has Z a2) (fun x9 => if (x9 : Int32) = 0 then (kX2_setChannel_24 a1 a2 a3 Z) else (ld_ck (ld_g a1 4) (ld_ck (ld_g a2 20) (kX2_setChannel_24 a1 a2 a3 (ld_up Z (7 + a1.toNatClampNeg) a2.toNatClampNeg a3)))))))
set_option maxHeartbeats 4000000 in
set_option maxRecDepth 100000 in
theorem zX2_setChannel (l : Launch) (w : ld_E) (Z : ld_M) (a1 : Int32) (a2 : Int32) (a3 : Int32)  {r : ld_M} (hr : kX2_setChannel Z a1 a2 a3 = some r) (sz : Nat) : Met l yX2_setChannel wsX2_setChannel ({ frames := 1, cells := 0, slots := 0, locals := 21 }) (ld_Pc w Z sz [.ref (ld_ad w 3), .int a1, .int a2, .int a3]) (ld_Q w r sz none) 0 0 (ld_A w sz) := by
  refine ld_ofW (ws := wsX2_setChannel) (Qc := fun sz9 => ld_Q w r sz9 none) RX2 (by decide +kernel) rfl rfl (by simp [Value.category]) (Nat.le_of_ble_eq_true rfl) sz ?_
  intro p e s m args below meth c C
  revert hr
  show ld_T p l e ({ frames := 1, cells := 0, slots := 0, locals := 21 }) s m args below meth c (MQ below (ld_Q w r s.heap.size none) args s 0 0 (ld_A w s.heap.size)) w r (kX2_setChannel Z a1 a2 a3) Z 0 0 0 [some (.ref (ld_ad w 3)), some (.int a1), some (.int a2), some (.int a3)] []
  unfold kX2_setChannel
  refine lj_iload_n C rfl rfl dX2_setChannel_0 ?_
  refine lj_cNa C (As := [.int a1]) (rest := []) (fun sz x hx => zX3_isNight l w Z a1 hx sz) ⟨va_cnB 1 C.2.2.2.2.1 gX2_setChannel_X3_isNight_n41 rfl rfl rfl (C.2.2.2.2.2.2.2.2.1.2.2.2.2 (RX2, 41, yX3_isNight) (by simp [ld_nest])) (C.2.2.2.2.1 _ (List.mem_of_getElem? (i := 3) rfl)) (by decide +kernel) ⟨Nat.le_of_ble_eq_true rfl, Nat.le_of_ble_eq_true rfl⟩, C.2.2.2.2.1 _ (List.mem_of_getElem? (i := 2) rfl), trivial⟩ rfl rfl rfl (Nat.le_of_ble_eq_true rfl) ⟨Nat.le_of_ble_eq_true rfl, Nat.le_of_ble_eq_true rfl⟩ dX2_setChannel_1 (fun x1 hx1 => ?_)
  refine lj_if_eq C (tgt := 24) dX2_setChannel_4 (by decide) ?_ ?_
  · exact bX2_setChannel_24 l w a1 a2 a3 C Z
  · refine lj_aload_n C rfl rfl dX2_setChannel_7 ?_
    refine lj_iload_n C rfl rfl dX2_setChannel_8 ?_
    refine lj_cVa C (As := [.int a2]) (rest := []) (i := 3) (ci := 2) (Cn := RX2) (Tb := TX2) (N := 4) (fs := (ld_f2 w) (Z 3)) (fun sz x hx => zX2_has l w Z a2 hx sz) (cwV 1 C.2.2.2.2.1 gX2_setChannel_X2_has rfl rfl rfl (by decide +kernel) ⟨Nat.le_of_ble_eq_true rfl, Nat.le_of_ble_eq_true rfl⟩) (by decide) ((fun _ => rfl) _) rfl rfl rfl rfl (Nat.le_of_ble_eq_true rfl) ⟨Nat.le_of_ble_eq_true rfl, Nat.le_of_ble_eq_true rfl⟩ dX2_setChannel_9 (fun x9 hx9 => ?_)
    refine lj_if_eq C (tgt := 24) dX2_setChannel_12 (by decide) ?_ ?_
    · exact bX2_setChannel_24 l w a1 a2 a3 C Z
    · refine lj_aload_n C rfl rfl dX2_setChannel_15 ?_
      refine lj_get C (i := 3) (kk := 2) (G := (ld_f2 w)) (v := .ref (ld_ad w 6)) (Tb := TX2) (N := 4) (by decide) (fun _ => rfl) rfl inX2_setChannel_2 (by decide) (List.mem_of_getElem? (i := 1) rfl) rfl rfl dX2_setChannel_16 ?_
      refine lj_iload_n C rfl rfl dX2_setChannel_19 ?_
      refine lj_aald C (n := 4) (b := 7) (by decide) (fun _ => rfl) dX2_setChannel_20 (fun hx20 => ?_)
      refine lj_iload_n C rfl rfl dX2_setChannel_21 ?_
      refine lj_iload_n C rfl rfl dX2_setChannel_22 ?_
      refine lj_iast C (n := 20) (ld_g_row_lt  hx20) (ld_g_row  hx20) dX2_setChannel_23 ?_
      exact bX2_setChannel_24 l w a1 a2 a3 C (ld_up Z (7 + a1.toNatClampNeg) a2.toNatClampNeg a3)
def kX2_shineOfKind (Z : ld_M) (a1 : Int32) (a2 : Int32) (a3 : Int32) : Option (Int32) := ld_ck (decide (¬ (100 : Int32) = 0)) (some (((a1 * a3) * (100 - (5 * a2))) / 100))
set_option maxHeartbeats 4000000 in
set_option maxRecDepth 100000 in
theorem zX2_shineOfKind (l : Launch) (w : ld_E) (Z : ld_M) (a1 : Int32) (a2 : Int32) (a3 : Int32)  {r : Int32} (hr : kX2_shineOfKind Z a1 a2 a3 = some r) (sz : Nat) : Met l yX2_shineOfKind wsX2_shineOfKind ({ frames := 0, cells := 0, slots := 0, locals := 0 }) (ld_Pc w Z sz [.int a1, .int a2, .int a3]) (ld_Q w Z sz (some (.int r))) 0 0 (ld_A w sz) := by
  refine ld_ofW (ws := wsX2_shineOfKind) (Qc := fun sz9 => ld_Q w Z sz9 (some (.int r))) RX2 (by decide +kernel) rfl rfl (by simp [Value.category]) (Nat.le_of_ble_eq_true rfl) sz ?_
  intro p e s m args below meth c C
  revert hr
  show ld_T p l e ({ frames := 0, cells := 0, slots := 0, locals := 0 }) s m args below meth c (MQ below (ld_Q w Z s.heap.size (some (.int r))) args s 0 0 (ld_A w s.heap.size)) w r (kX2_shineOfKind Z a1 a2 a3) Z 0 0 0 [some (.int a1), some (.int a2), some (.int a3)] []
  unfold kX2_shineOfKind
  refine lj_iload_n C rfl rfl dX2_shineOfKind_0 ?_
  refine lj_iload_n C rfl rfl dX2_shineOfKind_1 ?_
  refine lj_imul C dX2_shineOfKind_2 ?_
  refine lj_bipush C (v := 100) (by decide) dX2_shineOfKind_3 ?_
  refine lj_iconst C (v := 5) (by decide) dX2_shineOfKind_5 ?_
  refine lj_iload_n C rfl rfl dX2_shineOfKind_6 ?_
  refine lj_imul C dX2_shineOfKind_7 ?_
  refine lj_isub C dX2_shineOfKind_8 ?_
  refine lj_imul C dX2_shineOfKind_9 ?_
  refine lj_bipush C (v := 100) (by decide) dX2_shineOfKind_10 ?_
  refine lj_idiv C dX2_shineOfKind_12 ?_
  exact lj_ra C (by decide) (by decide) dX2_shineOfKind_13
theorem inX2_shine_2 : ∀ q ∈ u_ws RX2 TX2 4, q ∈ wsX2_shine := fun _ h => List.mem_cons_of_mem _ (List.mem_append_right _ h)
def kX2_shine (Z : ld_M) (a1 : Int32) (a2 : Int32) : Option (Int32) := ld_bd (kX2_powerOf Z a1) (fun x2 => ld_bd (kX2_gelOf Z a1) (fun x7 => ld_bd (kX2_shineOfKind Z x2 x7 a2) (fun x11 => some x11)))
set_option maxHeartbeats 4000000 in
set_option maxRecDepth 100000 in
theorem zX2_shine (l : Launch) (w : ld_E) (Z : ld_M) (a1 : Int32) (a2 : Int32)  {r : Int32} (hr : kX2_shine Z a1 a2 = some r) (sz : Nat) : Met l yX2_shine wsX2_shine ({ frames := 2, cells := 0, slots := 0, locals := 42 }) (ld_Pc w Z sz [.ref (ld_ad w 3), .int a1, .int a2]) (ld_Q w Z sz (some (.int r))) 0 0 (ld_A w sz) := by
  refine ld_ofW (ws := wsX2_shine) (Qc := fun sz9 => ld_Q w Z sz9 (some (.int r))) RX2 (by decide +kernel) rfl rfl (by simp [Value.category]) (Nat.le_of_ble_eq_true rfl) sz ?_
  intro p e s m args below meth c C
  revert hr
  show ld_T p l e ({ frames := 2, cells := 0, slots := 0, locals := 42 }) s m args below meth c (MQ below (ld_Q w Z s.heap.size (some (.int r))) args s 0 0 (ld_A w s.heap.size)) w r (kX2_shine Z a1 a2) Z 0 0 0 [some (.ref (ld_ad w 3)), some (.int a1), some (.int a2)] []
  unfold kX2_shine
  refine lj_aload_n C rfl rfl dX2_shine_0 ?_
  refine lj_iload_n C rfl rfl dX2_shine_1 ?_
  refine lj_cVa C (As := [.int a1]) (rest := []) (i := 3) (ci := 2) (Cn := RX2) (Tb := TX2) (N := 4) (fs := (ld_f2 w) (Z 3)) (fun sz x hx => zX2_powerOf l w Z a1 hx sz) (cwV 1 C.2.2.2.2.1 gX2_shine_X2_powerOf rfl rfl rfl (by decide +kernel) ⟨Nat.le_of_ble_eq_true rfl, Nat.le_of_ble_eq_true rfl⟩) (by decide) ((fun _ => rfl) _) rfl rfl rfl rfl (Nat.le_of_ble_eq_true rfl) ⟨Nat.le_of_ble_eq_true rfl, Nat.le_of_ble_eq_true rfl⟩ dX2_shine_2 (fun x2 hx2 => ?_)
  refine lj_aload_n C rfl rfl dX2_shine_5 ?_
  refine lj_iload_n C rfl rfl dX2_shine_6 ?_
  refine lj_cVa C (As := [.int a1]) (rest := [.int x2]) (i := 3) (ci := 2) (Cn := RX2) (Tb := TX2) (N := 4) (fs := (ld_f2 w) (Z 3)) (fun sz x hx => zX2_gelOf l w Z a1 hx sz) (cwV 1 C.2.2.2.2.1 gX2_shine_X2_gelOf rfl rfl rfl (by decide +kernel) ⟨Nat.le_of_ble_eq_true rfl, Nat.le_of_ble_eq_true rfl⟩) (by decide) ((fun _ => rfl) _) rfl rfl rfl rfl (Nat.le_of_ble_eq_true rfl) ⟨Nat.le_of_ble_eq_true rfl, Nat.le_of_ble_eq_true rfl⟩ dX2_shine_7 (fun x7 hx7 => ?_)
  refine lj_iload_n C rfl rfl dX2_shine_10 ?_
  refine lj_cSa C (As := [.int x2, .int x7, .int a2]) (rest := []) (fun sz x hx => zX2_shineOfKind l w Z x2 x7 a2 hx sz) (va_cwS 3 C.2.2.2.2.1 gX2_shine_X2_shineOfKind rfl rfl rfl (by decide +kernel) ⟨Nat.le_of_ble_eq_true rfl, Nat.le_of_ble_eq_true rfl⟩) rfl rfl rfl (Nat.le_of_ble_eq_true rfl) ⟨Nat.le_of_ble_eq_true rfl, Nat.le_of_ble_eq_true rfl⟩ dX2_shine_11 (fun x11 hx11 => ?_)
  exact lj_ra C (by decide) (by decide) dX2_shine_14
theorem inX2_shineOn_2 : ∀ q ∈ u_ws RX2 TX2 4, q ∈ wsX2_shineOn := fun _ h => List.mem_cons_of_mem _ (List.mem_append_right _ h)
def kX2_shineOn_38 (a1 : Int32) (a2 : Int32) (a3 : Int32) (k : ld_M → Int32 → Int32 → Option (Int32)) (Z : ld_M) (v4 : Int32) (v5 : Int32) : Option (Int32) := k Z v4 (v5 + 1)
set_option maxHeartbeats 4000000 in
set_option maxRecDepth 100000 in
theorem bX2_shineOn_38 {p : Program} {e : Env} {s : State} {m : MethodId} {args : Array Value} {below : List Frame} {meth : Method} {c : Code} (l : Launch) (w : ld_E) (a1 : Int32) (a2 : Int32) (a3 : Int32)   {r : Int32} (C : ld_C p l s m args meth c cX2_shineOn 6 (some .int) wsX2_shineOn RX2 w) (k : ld_M → Int32 → Int32 → Option (Int32)) (hk : ∀ (Z : ld_M) (u0 : Int32) (u1 : Int32), ld_T p l e ({ frames := 3, cells := 0, slots := 0, locals := 64 }) s m args below meth c (MQ below (ld_Q w Z s.heap.size (some (.int r))) args s 0 0 (ld_A w s.heap.size)) w r (k Z u0 u1) Z 0 0 6 [some (.ref (ld_ad w 3)), some (.int a1), some (.int a2), some (.int a3), some (.int u0), some (.int u1)] []) (Z : ld_M) (v4 : Int32) (v5 : Int32) : ld_T p l e ({ frames := 3, cells := 0, slots := 0, locals := 64 }) s m args below meth c (MQ below (ld_Q w Z s.heap.size (some (.int r))) args s 0 0 (ld_A w s.heap.size)) w r (kX2_shineOn_38 a1 a2 a3 k Z v4 v5) Z 0 0 38 [some (.ref (ld_ad w 3)), some (.int a1), some (.int a2), some (.int a3), some (.int v4), some (.int v5)] [] := by
  unfold kX2_shineOn_38
  refine lj_iinc C (i := 5) (v := (v5 + 1)) (lv2 := [some (.ref (ld_ad w 3)), some (.int a1), some (.int a2), some (.int a3), some (.int v4), some (.int (v5 + 1))]) rfl rfl rfl dX2_shineOn_38 ?_
  refine lj_goto C (tgt := 6) dX2_shineOn_41 (by decide) ?_
  exact hk Z v4 (v5 + 1)
def kX2_shineOn_6 (a1 : Int32) (a2 : Int32) (a3 : Int32) : Nat → ld_M → Int32 → Int32 → Option (Int32)
  | 0, _, _, _ => none
  | n + 1, Z, v4, v5 => if ((Z 3 3) : Int32) ≤ v5 then (some v4) else (ld_bd (kX2_channelOf Z a1 v5) (fun x19 => if (x19 : Int32) = a2 then (ld_bd (kX2_shine Z v5 a3) (fun x32 => kX2_shineOn_38 a1 a2 a3 (kX2_shineOn_6 a1 a2 a3 n) Z (v4 + x32) v5)) else (kX2_shineOn_38 a1 a2 a3 (kX2_shineOn_6 a1 a2 a3 n) Z v4 v5)))
set_option maxHeartbeats 4000000 in
set_option maxRecDepth 100000 in
theorem bX2_shineOn_6 {p : Program} {e : Env} {s : State} {m : MethodId} {args : Array Value} {below : List Frame} {meth : Method} {c : Code} (l : Launch) (w : ld_E) (a1 : Int32) (a2 : Int32) (a3 : Int32)   {r : Int32} (C : ld_C p l s m args meth c cX2_shineOn 6 (some .int) wsX2_shineOn RX2 w) : ∀ (n : Nat) (Z : ld_M) (v4 : Int32) (v5 : Int32), ld_T p l e ({ frames := 3, cells := 0, slots := 0, locals := 64 }) s m args below meth c (MQ below (ld_Q w Z s.heap.size (some (.int r))) args s 0 0 (ld_A w s.heap.size)) w r (kX2_shineOn_6 a1 a2 a3 n Z v4 v5) Z 0 0 6 [some (.ref (ld_ad w 3)), some (.int a1), some (.int a2), some (.int a3), some (.int v4), some (.int v5)] [] := by
  intro n
  induction n with
  | zero => exact fun _ _ _ h => nomatch h
  | succ n ih =>
    intro Z v4 v5
    refine lj_iload C rfl dX2_shineOn_6 ?_
    refine lj_aload_n C rfl rfl dX2_shineOn_8 ?_
    refine lj_get C (i := 3) (kk := 3) (G := (ld_f2 w)) (v := .int (Z 3 3)) (Tb := TX2) (N := 4) (by decide) (fun _ => rfl) rfl inX2_shineOn_2 (by decide) (List.mem_of_getElem? (i := 1) rfl) rfl rfl dX2_shineOn_9 ?_
    refine lj_icmp_ge C (tgt := 44) dX2_shineOn_12 (by decide) ?_ ?_
    · refine lj_iload C rfl dX2_shineOn_44 ?_
      exact lj_ra C (by decide) (by decide) dX2_shineOn_46
    · refine lj_aload_n C rfl rfl dX2_shineOn_15 ?_
      refine lj_iload_n C rfl rfl dX2_shineOn_16 ?_
      refine lj_iload C rfl dX2_shineOn_17 ?_
      refine lj_cVa C (As := [.int a1, .int v5]) (rest := []) (i := 3) (ci := 2) (Cn := RX2) (Tb := TX2) (N := 4) (fs := (ld_f2 w) (Z 3)) (fun sz x hx => zX2_channelOf l w Z a1 v5 hx sz) (cwV 2 C.2.2.2.2.1 gX2_shineOn_X2_channelOf rfl rfl rfl (by decide +kernel) ⟨Nat.le_of_ble_eq_true rfl, Nat.le_of_ble_eq_true rfl⟩) (by decide) ((fun _ => rfl) _) rfl rfl rfl rfl (Nat.le_of_ble_eq_true rfl) ⟨Nat.le_of_ble_eq_true rfl, Nat.le_of_ble_eq_true rfl⟩ dX2_shineOn_19 (fun x19 hx19 => ?_)
      refine lj_iload_n C rfl rfl dX2_shineOn_22 ?_
      refine lj_icmp_ne C (tgt := 38) dX2_shineOn_23 (by decide) ?_ ?_
      · exact bX2_shineOn_38 l w a1 a2 a3 C (kX2_shineOn_6 a1 a2 a3 n) (fun Z9 u0 u1 => ih Z9 u0 u1) Z v4 v5
      · refine lj_iload C rfl dX2_shineOn_26 ?_
        refine lj_aload_n C rfl rfl dX2_shineOn_28 ?_
        refine lj_iload C rfl dX2_shineOn_29 ?_
        refine lj_iload_n C rfl rfl dX2_shineOn_31 ?_
        refine lj_cVa C (As := [.int v5, .int a3]) (rest := [.int v4]) (i := 3) (ci := 2) (Cn := RX2) (Tb := TX2) (N := 4) (fs := (ld_f2 w) (Z 3)) (fun sz x hx => zX2_shine l w Z v5 a3 hx sz) (cwV 2 C.2.2.2.2.1 gX2_shineOn_X2_shine rfl rfl rfl (by decide +kernel) ⟨Nat.le_of_ble_eq_true rfl, Nat.le_of_ble_eq_true rfl⟩) (by decide) ((fun _ => rfl) _) rfl rfl rfl rfl (Nat.le_of_ble_eq_true rfl) ⟨Nat.le_of_ble_eq_true rfl, Nat.le_of_ble_eq_true rfl⟩ dX2_shineOn_32 (fun x32 hx32 => ?_)
        refine lj_iadd C dX2_shineOn_35 ?_
        refine lj_istore C (lv2 := [some (.ref (ld_ad w 3)), some (.int a1), some (.int a2), some (.int a3), some (.int (v4 + x32)), some (.int v5)]) (Nat.le_of_ble_eq_true rfl) rfl dX2_shineOn_36 ?_
        exact bX2_shineOn_38 l w a1 a2 a3 C (kX2_shineOn_6 a1 a2 a3 n) (fun Z9 u0 u1 => ih Z9 u0 u1) Z (v4 + x32) v5
def kX2_shineOn (Z : ld_M) (a1 : Int32) (a2 : Int32) (a3 : Int32) : Option (Int32) := kX2_shineOn_6 a1 a2 a3 ld_fu Z 0 0
set_option maxHeartbeats 4000000 in
set_option maxRecDepth 100000 in
theorem zX2_shineOn (l : Launch) (w : ld_E) (Z : ld_M) (a1 : Int32) (a2 : Int32) (a3 : Int32)  {r : Int32} (hr : kX2_shineOn Z a1 a2 a3 = some r) (sz : Nat) : Met l yX2_shineOn wsX2_shineOn ({ frames := 3, cells := 0, slots := 0, locals := 64 }) (ld_Pc w Z sz [.ref (ld_ad w 3), .int a1, .int a2, .int a3]) (ld_Q w Z sz (some (.int r))) 0 0 (ld_A w sz) := by
  refine ld_ofW (ws := wsX2_shineOn) (Qc := fun sz9 => ld_Q w Z sz9 (some (.int r))) RX2 (by decide +kernel) rfl rfl (by simp [Value.category]) (Nat.le_of_ble_eq_true rfl) sz ?_
  intro p e s m args below meth c C
  revert hr
  show ld_T p l e ({ frames := 3, cells := 0, slots := 0, locals := 64 }) s m args below meth c (MQ below (ld_Q w Z s.heap.size (some (.int r))) args s 0 0 (ld_A w s.heap.size)) w r (kX2_shineOn Z a1 a2 a3) Z 0 0 0 [some (.ref (ld_ad w 3)), some (.int a1), some (.int a2), some (.int a3), none, none] []
  unfold kX2_shineOn
  refine lj_iconst C (v := 0) (by decide) dX2_shineOn_0 ?_
  refine lj_istore C (lv2 := [some (.ref (ld_ad w 3)), some (.int a1), some (.int a2), some (.int a3), some (.int 0), none]) (Nat.le_of_ble_eq_true rfl) rfl dX2_shineOn_1 ?_
  refine lj_iconst C (v := 0) (by decide) dX2_shineOn_3 ?_
  refine lj_istore C (lv2 := [some (.ref (ld_ad w 3)), some (.int a1), some (.int a2), some (.int a3), some (.int 0), some (.int 0)]) (Nat.le_of_ble_eq_true rfl) rfl dX2_shineOn_4 ?_
  exact bX2_shineOn_6 l w a1 a2 a3 C ld_fu Z 0 0
