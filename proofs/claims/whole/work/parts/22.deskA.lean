theorem inX3_cuesOf_3 : ∀ q ∈ u_ws RX3 TX3 7, q ∈ wsX3_cuesOf := fun _ h => List.mem_cons_of_mem _ (List.mem_append_right _ h)
def kX3_cuesOf (Z : ld_M) (a1 : Int32) : Option (Nat) := if (a1 : Int32) = 0 then (some 11) else (some 28)
set_option maxHeartbeats 4000000 in
set_option maxRecDepth 100000 in
theorem zX3_cuesOf (l : Launch) (w : ld_E) (Z : ld_M) (a1 : Int32)  {r : Nat} (hr : kX3_cuesOf Z a1 = some r) (sz : Nat) : Met l yX3_cuesOf wsX3_cuesOf ({ frames := 0, cells := 0, slots := 0, locals := 0 }) (ld_Pc w Z sz [.ref (ld_ad w 0), .int a1]) (ld_Q w Z sz (some (.ref (ld_ad w r)))) 0 0 (ld_A w sz) := by
  refine ld_ofW (ws := wsX3_cuesOf) (Qc := fun sz9 => ld_Q w Z sz9 (some (.ref (ld_ad w r)))) RX3 (by decide +kernel) rfl rfl (by simp [Value.category]) (Nat.le_of_ble_eq_true rfl) sz ?_
  intro p e s m args below meth c C
  revert hr
  show ld_T p l e ({ frames := 0, cells := 0, slots := 0, locals := 0 }) s m args below meth c (MQ below (ld_Q w Z s.heap.size (some (.ref (ld_ad w r)))) args s 0 0 (ld_A w s.heap.size)) w r (kX3_cuesOf Z a1) Z 0 0 0 [some (.ref (ld_ad w 0)), some (.int a1)] []
  unfold kX3_cuesOf
  refine lj_iload_n C rfl rfl dX3_cuesOf_0 ?_
  refine lj_if_ne C (tgt := 11) dX3_cuesOf_1 (by decide) ?_ ?_
  · refine lj_aload_n C rfl rfl dX3_cuesOf_11 ?_
    refine lj_get C (i := 0) (kk := 2) (G := (ld_f3 w)) (v := .ref (ld_ad w 28)) (Tb := TX3) (N := 7) (by decide) (fun _ => rfl) rfl inX3_cuesOf_3 (by decide) (List.mem_of_getElem? (i := 2) rfl) rfl rfl dX3_cuesOf_12 ?_
    exact lj_rr_o C (by decide) (by decide) dX3_cuesOf_15
  · refine lj_aload_n C rfl rfl dX3_cuesOf_4 ?_
    refine lj_get C (i := 0) (kk := 1) (G := (ld_f3 w)) (v := .ref (ld_ad w 11)) (Tb := TX3) (N := 7) (by decide) (fun _ => rfl) rfl inX3_cuesOf_3 (by decide) (List.mem_of_getElem? (i := 1) rfl) rfl rfl dX3_cuesOf_5 ?_
    refine lj_goto C (tgt := 15) dX3_cuesOf_8 (by decide) ?_
    exact lj_rr_o C (by decide) (by decide) dX3_cuesOf_15
theorem ld_cuesOf (Z : ld_M) (a : Int32) : kX3_cuesOf Z a = some (ld_cu a) := by
  unfold kX3_cuesOf ld_cu
  by_cases h : a = 0
  · simp [h]
  · simp [h]
section LDU
variable {p : Program} {l : Launch} {e : Env} {R : Room} {s : State} {m : MethodId} {args : Array Value} {below : List Frame} {meth : Method} {c : Code} {Q : State → Prop} {cells slots pc : Nat} {cc : ByteArray} {nL : Nat} {ret : Option FieldType} {Ts : List Cond} {own : String} {w : ld_E} {Z : ld_M} {lv : List (Option Value)} {ρ : Type} {F : Option ρ} {r : ρ}
theorem lj_cu (C : ld_C p l s m args meth c cc nL ret Ts own w) {a : Int32} {index : Nat} {rest st0 : List Value} (cw : CallW R s args own RX3 index yX3_cuesOf cX3_cuesOf 2 (some (.object "LightDesk$CueList")) wsX3_cuesOf ({ frames := 0, cells := 0, slots := 0, locals := 0 }) 0 0 1) (hlen : lv.length = nL) (hst : st0 = [.int a].reverse ++ .ref (ld_ad w 0) :: rest) (hcat : (rest.map fun v => v.category).sum ≤ 8) (hf : cells + 0 ≤ R.cells ∧ slots + 0 ≤ R.slots) (d : decode cc pc = .ok (.invokevirtual index, 3))
    (k : ld_T p l e R s m args below meth c Q w r F Z cells slots (pc + 3) lv (.ref (ld_ad w (ld_cu a)) :: rest)) : ld_T p l e R s m args below meth c Q w r F Z cells slots pc lv st0 :=
  lj_cVr (G := some (ld_cu a)) (f := fun _ => F) C (As := [.int a]) (rest := rest) (i := 0) (ci := 3) (Cn := RX3) (Tb := TX3) (N := 7) (fs := ld_f3 w (Z 0)) (fun sz x hx => zX3_cuesOf l w Z a ((ld_cuesOf Z a).trans hx) sz) cw (by decide) rfl rfl rfl hlen hst hcat hf d (fun x hx => by
    cases hx
    exact k)
end LDU

def kX3_needLampKind (Z : ld_M) (a1 : Int32) (a2 : Int32) : Option (Unit ⊕ Nat) := if (a1 : Int32) < 1 then (some (.inr 0)) else (if (a1 : Int32) ≤ 20 then (if (a2 : Int32) < 0 then (some (.inr 0)) else (if (a2 : Int32) ≤ 7 then (some (.inl ())) else (some (.inr 0)))) else (some (.inr 0)))
set_option maxHeartbeats 4000000 in
set_option maxRecDepth 100000 in
theorem zX3_needLampKind (l : Launch) (hfl : l.stackTraces = false) (w : ld_E) (Z : ld_M) (a1 : Int32) (a2 : Int32)  {r : Unit ⊕ Nat} (hr : kX3_needLampKind Z a1 a2 = some r) (sz : Nat) : vx_Met l yX3_needLampKind wsX3_needLampKind ({ frames := 6, cells := 1, slots := 6, locals := 90 }) (ld_Pc w Z sz [.int a1, .int a2]) (ld_Q0 w Z sz r) (ld_XC w Z sz r) 1 6 (ld_A w sz) := by
  refine ld_ofX (ws := wsX3_needLampKind) (Qc := fun sz9 => ld_Q0 w Z sz9 r) (XC := fun sz9 => ld_XC w Z sz9 r) RX3 (by decide +kernel) rfl rfl (by simp [Value.category]) (Nat.le_of_ble_eq_true rfl) sz ?_
  intro p e s m args below meth c C htb
  revert hr
  show ld_T p l e ({ frames := 6, cells := 1, slots := 6, locals := 90 }) s m args below meth c (vx_MQ below (ld_Q0 w Z s.heap.size r) (ld_XC w Z s.heap.size r) args s 1 6 (ld_A w s.heap.size)) w r (kX3_needLampKind Z a1 a2) Z 0 0 0 [some (.int a1), some (.int a2)] []
  unfold kX3_needLampKind
  refine lj_iload_n C rfl rfl dX3_needLampKind_0 ?_
  refine lj_iconst C (v := 1) (by decide) dX3_needLampKind_1 ?_
  refine lj_icmp_lt C (tgt := 11) dX3_needLampKind_2 (by decide) ?_ ?_
  · exact lj_throw0 C hfl htb (text := "a power is 1 to 20") rfl (by decide) (List.mem_of_getElem? (i := 1) rfl) (List.mem_of_getElem? (i := 2) rfl) (fun _ h => List.mem_cons_of_mem _ (List.mem_append_right _ h)) (Nat.le_of_ble_eq_true rfl) (Nat.le_of_ble_eq_true rfl) (Nat.le_of_ble_eq_true rfl) (Nat.le_of_ble_eq_true rfl) (by decide) (by decide) dX3_needLampKind_11 dX3_needLampKind_14 dX3_needLampKind_15 dX3_needLampKind_17 dX3_needLampKind_20
  · refine lj_iload_n C rfl rfl dX3_needLampKind_5 ?_
    refine lj_bipush C (v := 20) (by decide) dX3_needLampKind_6 ?_
    refine lj_icmp_le C (tgt := 21) dX3_needLampKind_8 (by decide) ?_ ?_
    · refine lj_iload_n C rfl rfl dX3_needLampKind_21 ?_
      refine lj_if_lt C (tgt := 31) dX3_needLampKind_22 (by decide) ?_ ?_
      · exact lj_throw0 C hfl htb (text := "a gel is 0 to 7") rfl (by decide) (List.mem_of_getElem? (i := 1) rfl) (List.mem_of_getElem? (i := 2) rfl) (fun _ h => List.mem_cons_of_mem _ (List.mem_append_right _ h)) (Nat.le_of_ble_eq_true rfl) (Nat.le_of_ble_eq_true rfl) (Nat.le_of_ble_eq_true rfl) (Nat.le_of_ble_eq_true rfl) (by decide) (by decide) dX3_needLampKind_31 dX3_needLampKind_34 dX3_needLampKind_35 dX3_needLampKind_37 dX3_needLampKind_40
      · refine lj_iload_n C rfl rfl dX3_needLampKind_25 ?_
        refine lj_bipush C (v := 7) (by decide) dX3_needLampKind_26 ?_
        refine lj_icmp_le C (tgt := 41) dX3_needLampKind_28 (by decide) ?_ ?_
        · exact lj_t0 C (by decide) (by decide) dX3_needLampKind_41
        · exact lj_throw0 C hfl htb (text := "a gel is 0 to 7") rfl (by decide) (List.mem_of_getElem? (i := 1) rfl) (List.mem_of_getElem? (i := 2) rfl) (fun _ h => List.mem_cons_of_mem _ (List.mem_append_right _ h)) (Nat.le_of_ble_eq_true rfl) (Nat.le_of_ble_eq_true rfl) (Nat.le_of_ble_eq_true rfl) (Nat.le_of_ble_eq_true rfl) (by decide) (by decide) dX3_needLampKind_31 dX3_needLampKind_34 dX3_needLampKind_35 dX3_needLampKind_37 dX3_needLampKind_40
    · exact lj_throw0 C hfl htb (text := "a power is 1 to 20") rfl (by decide) (List.mem_of_getElem? (i := 1) rfl) (List.mem_of_getElem? (i := 2) rfl) (fun _ h => List.mem_cons_of_mem _ (List.mem_append_right _ h)) (Nat.le_of_ble_eq_true rfl) (Nat.le_of_ble_eq_true rfl) (Nat.le_of_ble_eq_true rfl) (Nat.le_of_ble_eq_true rfl) (by decide) (by decide) dX3_needLampKind_11 dX3_needLampKind_14 dX3_needLampKind_15 dX3_needLampKind_17 dX3_needLampKind_20
def kX3_needNight (Z : ld_M) (a1 : Int32) : Option (Unit ⊕ Nat) := ld_bd (kX3_isNight Z a1) (fun x1 => if (x1 : Int32) = 0 then (some (.inr 0)) else (some (.inl ())))
set_option maxHeartbeats 4000000 in
set_option maxRecDepth 100000 in
theorem zX3_needNight (l : Launch) (hfl : l.stackTraces = false) (w : ld_E) (Z : ld_M) (a1 : Int32)  {r : Unit ⊕ Nat} (hr : kX3_needNight Z a1 = some r) (sz : Nat) : vx_Met l yX3_needNight wsX3_needNight ({ frames := 6, cells := 1, slots := 6, locals := 90 }) (ld_Pc w Z sz [.int a1]) (ld_Q0 w Z sz r) (ld_XC w Z sz r) 1 6 (ld_A w sz) := by
  refine ld_ofX (ws := wsX3_needNight) (Qc := fun sz9 => ld_Q0 w Z sz9 r) (XC := fun sz9 => ld_XC w Z sz9 r) RX3 (by decide +kernel) rfl rfl (by simp [Value.category]) (Nat.le_of_ble_eq_true rfl) sz ?_
  intro p e s m args below meth c C htb
  revert hr
  show ld_T p l e ({ frames := 6, cells := 1, slots := 6, locals := 90 }) s m args below meth c (vx_MQ below (ld_Q0 w Z s.heap.size r) (ld_XC w Z s.heap.size r) args s 1 6 (ld_A w s.heap.size)) w r (kX3_needNight Z a1) Z 0 0 0 [some (.int a1)] []
  unfold kX3_needNight
  refine lj_iload_n C rfl rfl dX3_needNight_0 ?_
  refine lj_cSa C (As := [.int a1]) (rest := []) (fun sz x hx => zX3_isNight l w Z a1 hx sz) (va_cwS 1 C.2.2.2.2.1 gX3_needNight_X3_isNight rfl rfl rfl (by decide +kernel) ⟨Nat.le_of_ble_eq_true rfl, Nat.le_of_ble_eq_true rfl⟩) rfl rfl rfl (Nat.le_of_ble_eq_true rfl) ⟨Nat.le_of_ble_eq_true rfl, Nat.le_of_ble_eq_true rfl⟩ dX3_needNight_1 (fun x1 hx1 => ?_)
  refine lj_if_ne C (tgt := 17) dX3_needNight_4 (by decide) ?_ ?_
  · exact lj_t0 C (by decide) (by decide) dX3_needNight_17
  · exact lj_throw0 C hfl htb (text := "a night is 0 to 3") rfl (by decide) (List.mem_of_getElem? (i := 1) rfl) (List.mem_of_getElem? (i := 2) rfl) (fun _ h => List.mem_cons_of_mem _ (List.mem_append_right _ h)) (Nat.le_of_ble_eq_true rfl) (Nat.le_of_ble_eq_true rfl) (Nat.le_of_ble_eq_true rfl) (Nat.le_of_ble_eq_true rfl) (by decide) (by decide) dX3_needNight_7 dX3_needNight_10 dX3_needNight_11 dX3_needNight_13 dX3_needNight_16
def kX3_needChannel (Z : ld_M) (a1 : Int32) : Option (Unit ⊕ Nat) := ld_bd (kX3_isChannel Z a1) (fun x1 => if (x1 : Int32) = 0 then (some (.inr 0)) else (some (.inl ())))
set_option maxHeartbeats 4000000 in
set_option maxRecDepth 100000 in
theorem zX3_needChannel (l : Launch) (hfl : l.stackTraces = false) (w : ld_E) (Z : ld_M) (a1 : Int32)  {r : Unit ⊕ Nat} (hr : kX3_needChannel Z a1 = some r) (sz : Nat) : vx_Met l yX3_needChannel wsX3_needChannel ({ frames := 6, cells := 1, slots := 6, locals := 90 }) (ld_Pc w Z sz [.int a1]) (ld_Q0 w Z sz r) (ld_XC w Z sz r) 1 6 (ld_A w sz) := by
  refine ld_ofX (ws := wsX3_needChannel) (Qc := fun sz9 => ld_Q0 w Z sz9 r) (XC := fun sz9 => ld_XC w Z sz9 r) RX3 (by decide +kernel) rfl rfl (by simp [Value.category]) (Nat.le_of_ble_eq_true rfl) sz ?_
  intro p e s m args below meth c C htb
  revert hr
  show ld_T p l e ({ frames := 6, cells := 1, slots := 6, locals := 90 }) s m args below meth c (vx_MQ below (ld_Q0 w Z s.heap.size r) (ld_XC w Z s.heap.size r) args s 1 6 (ld_A w s.heap.size)) w r (kX3_needChannel Z a1) Z 0 0 0 [some (.int a1)] []
  unfold kX3_needChannel
  refine lj_iload_n C rfl rfl dX3_needChannel_0 ?_
  refine lj_cSa C (As := [.int a1]) (rest := []) (fun sz x hx => zX3_isChannel l w Z a1 hx sz) (va_cwS 1 C.2.2.2.2.1 gX3_needChannel_X3_isChannel rfl rfl rfl (by decide +kernel) ⟨Nat.le_of_ble_eq_true rfl, Nat.le_of_ble_eq_true rfl⟩) rfl rfl rfl (Nat.le_of_ble_eq_true rfl) ⟨Nat.le_of_ble_eq_true rfl, Nat.le_of_ble_eq_true rfl⟩ dX3_needChannel_1 (fun x1 hx1 => ?_)
  refine lj_if_ne C (tgt := 17) dX3_needChannel_4 (by decide) ?_ ?_
  · exact lj_t0 C (by decide) (by decide) dX3_needChannel_17
  · exact lj_throw0 C hfl htb (text := "a channel is 0 to 11") rfl (by decide) (List.mem_of_getElem? (i := 1) rfl) (List.mem_of_getElem? (i := 2) rfl) (fun _ h => List.mem_cons_of_mem _ (List.mem_append_right _ h)) (Nat.le_of_ble_eq_true rfl) (Nat.le_of_ble_eq_true rfl) (Nat.le_of_ble_eq_true rfl) (Nat.le_of_ble_eq_true rfl) (by decide) (by decide) dX3_needChannel_7 dX3_needChannel_10 dX3_needChannel_11 dX3_needChannel_13 dX3_needChannel_16
def kX3_needChannelOrNone_9 (a1 : Int32) (Z : ld_M)  : Option (Unit ⊕ Nat) := some (.inl ())
set_option maxHeartbeats 4000000 in
set_option maxRecDepth 100000 in
theorem bX3_needChannelOrNone_9 {p : Program} {e : Env} {s : State} {m : MethodId} {args : Array Value} {below : List Frame} {meth : Method} {c : Code} (l : Launch) (w : ld_E) (a1 : Int32)  (hfl : l.stackTraces = false) (htb : ∀ x ∈ c.exceptionTable.toList, False)  {r : Unit ⊕ Nat} (C : ld_C p l s m args meth c cX3_needChannelOrNone 1 none wsX3_needChannelOrNone RX3 w) (Z : ld_M)  : ld_T p l e ({ frames := 7, cells := 1, slots := 6, locals := 110 }) s m args below meth c (vx_MQ below (ld_Q0 w Z s.heap.size r) (ld_XC w Z s.heap.size r) args s 1 6 (ld_A w s.heap.size)) w r (kX3_needChannelOrNone_9 a1 Z ) Z 1 6 9 [some (.int a1)] [] := by
  unfold kX3_needChannelOrNone_9
  exact lj_t0 C (by decide) (by decide) dX3_needChannelOrNone_9
def kX3_needChannelOrNone (Z : ld_M) (a1 : Int32) : Option (Unit ⊕ Nat) := if (a1 : Int32) = (-1) then (kX3_needChannelOrNone_9 a1 Z) else (ld_bx (kX3_needChannel Z a1) (fun x6 => kX3_needChannelOrNone_9 a1 Z))
set_option maxHeartbeats 4000000 in
set_option maxRecDepth 100000 in
theorem zX3_needChannelOrNone (l : Launch) (hfl : l.stackTraces = false) (w : ld_E) (Z : ld_M) (a1 : Int32)  {r : Unit ⊕ Nat} (hr : kX3_needChannelOrNone Z a1 = some r) (sz : Nat) : vx_Met l yX3_needChannelOrNone wsX3_needChannelOrNone ({ frames := 7, cells := 1, slots := 6, locals := 110 }) (ld_Pc w Z sz [.int a1]) (ld_Q0 w Z sz r) (ld_XC w Z sz r) 1 6 (ld_A w sz) := by
  refine ld_ofX (ws := wsX3_needChannelOrNone) (Qc := fun sz9 => ld_Q0 w Z sz9 r) (XC := fun sz9 => ld_XC w Z sz9 r) RX3 (by decide +kernel) rfl rfl (by simp [Value.category]) (Nat.le_of_ble_eq_true rfl) sz ?_
  intro p e s m args below meth c C htb
  revert hr
  show ld_T p l e ({ frames := 7, cells := 1, slots := 6, locals := 110 }) s m args below meth c (vx_MQ below (ld_Q0 w Z s.heap.size r) (ld_XC w Z s.heap.size r) args s 1 6 (ld_A w s.heap.size)) w r (kX3_needChannelOrNone Z a1) Z 0 0 0 [some (.int a1)] []
  unfold kX3_needChannelOrNone
  refine lj_iload_n C rfl rfl dX3_needChannelOrNone_0 ?_
  refine lj_iconst C (v := (-1)) (by decide) dX3_needChannelOrNone_1 ?_
  refine lj_icmp_eq C (tgt := 9) dX3_needChannelOrNone_2 (by decide) ?_ ?_
  · refine lj_wide (k := 1) (n := 6) (by decide) (by decide) ?_
    exact bX3_needChannelOrNone_9 l w a1 hfl htb C Z
  · refine lj_iload_n C rfl rfl dX3_needChannelOrNone_5 ?_
    refine lj_xS0 C htb (As := [.int a1]) (rest := []) (fun sz x hx => zX3_needChannel l hfl w Z a1 hx sz) (va_cwS 1 C.2.2.2.2.1 gX3_needChannelOrNone_X3_needChannel rfl rfl rfl (by decide +kernel) ⟨Nat.le_of_ble_eq_true rfl, Nat.le_of_ble_eq_true rfl⟩) rfl rfl rfl (Nat.le_of_ble_eq_true rfl) ⟨Nat.le_of_ble_eq_true rfl, Nat.le_of_ble_eq_true rfl⟩ (by decide) (by decide) dX3_needChannelOrNone_6 (fun x6 hx6 => ?_)
    exact bX3_needChannelOrNone_9 l w a1 hfl htb C Z
def kX3_needList (Z : ld_M) (a1 : Int32) : Option (Unit ⊕ Nat) := if (a1 : Int32) < 0 then (some (.inr 0)) else (if (a1 : Int32) < 2 then (some (.inl ())) else (some (.inr 0)))
set_option maxHeartbeats 4000000 in
set_option maxRecDepth 100000 in
theorem zX3_needList (l : Launch) (hfl : l.stackTraces = false) (w : ld_E) (Z : ld_M) (a1 : Int32)  {r : Unit ⊕ Nat} (hr : kX3_needList Z a1 = some r) (sz : Nat) : vx_Met l yX3_needList wsX3_needList ({ frames := 6, cells := 1, slots := 6, locals := 90 }) (ld_Pc w Z sz [.int a1]) (ld_Q0 w Z sz r) (ld_XC w Z sz r) 1 6 (ld_A w sz) := by
  refine ld_ofX (ws := wsX3_needList) (Qc := fun sz9 => ld_Q0 w Z sz9 r) (XC := fun sz9 => ld_XC w Z sz9 r) RX3 (by decide +kernel) rfl rfl (by simp [Value.category]) (Nat.le_of_ble_eq_true rfl) sz ?_
  intro p e s m args below meth c C htb
  revert hr
  show ld_T p l e ({ frames := 6, cells := 1, slots := 6, locals := 90 }) s m args below meth c (vx_MQ below (ld_Q0 w Z s.heap.size r) (ld_XC w Z s.heap.size r) args s 1 6 (ld_A w s.heap.size)) w r (kX3_needList Z a1) Z 0 0 0 [some (.int a1)] []
  unfold kX3_needList
  refine lj_iload_n C rfl rfl dX3_needList_0 ?_
  refine lj_if_lt C (tgt := 9) dX3_needList_1 (by decide) ?_ ?_
  · exact lj_throw0 C hfl htb (text := "a list is 0 or 1") rfl (by decide) (List.mem_of_getElem? (i := 1) rfl) (List.mem_of_getElem? (i := 2) rfl) (fun _ h => List.mem_cons_of_mem _ (List.mem_append_right _ h)) (Nat.le_of_ble_eq_true rfl) (Nat.le_of_ble_eq_true rfl) (Nat.le_of_ble_eq_true rfl) (Nat.le_of_ble_eq_true rfl) (by decide) (by decide) dX3_needList_9 dX3_needList_12 dX3_needList_13 dX3_needList_15 dX3_needList_18
  · refine lj_iload_n C rfl rfl dX3_needList_4 ?_
    refine lj_iconst C (v := 2) (by decide) dX3_needList_5 ?_
    refine lj_icmp_lt C (tgt := 19) dX3_needList_6 (by decide) ?_ ?_
    · exact lj_t0 C (by decide) (by decide) dX3_needList_19
    · exact lj_throw0 C hfl htb (text := "a list is 0 or 1") rfl (by decide) (List.mem_of_getElem? (i := 1) rfl) (List.mem_of_getElem? (i := 2) rfl) (fun _ h => List.mem_cons_of_mem _ (List.mem_append_right _ h)) (Nat.le_of_ble_eq_true rfl) (Nat.le_of_ble_eq_true rfl) (Nat.le_of_ble_eq_true rfl) (Nat.le_of_ble_eq_true rfl) (by decide) (by decide) dX3_needList_9 dX3_needList_12 dX3_needList_13 dX3_needList_15 dX3_needList_18
def kX3_needTenths (Z : ld_M) (a1 : Int32) : Option (Unit ⊕ Nat) := if (a1 : Int32) < 0 then (some (.inr 0)) else (if (a1 : Int32) ≤ 100 then (some (.inl ())) else (some (.inr 0)))
set_option maxHeartbeats 4000000 in
set_option maxRecDepth 100000 in
theorem zX3_needTenths (l : Launch) (hfl : l.stackTraces = false) (w : ld_E) (Z : ld_M) (a1 : Int32)  {r : Unit ⊕ Nat} (hr : kX3_needTenths Z a1 = some r) (sz : Nat) : vx_Met l yX3_needTenths wsX3_needTenths ({ frames := 6, cells := 1, slots := 6, locals := 90 }) (ld_Pc w Z sz [.int a1]) (ld_Q0 w Z sz r) (ld_XC w Z sz r) 1 6 (ld_A w sz) := by
  refine ld_ofX (ws := wsX3_needTenths) (Qc := fun sz9 => ld_Q0 w Z sz9 r) (XC := fun sz9 => ld_XC w Z sz9 r) RX3 (by decide +kernel) rfl rfl (by simp [Value.category]) (Nat.le_of_ble_eq_true rfl) sz ?_
  intro p e s m args below meth c C htb
  revert hr
  show ld_T p l e ({ frames := 6, cells := 1, slots := 6, locals := 90 }) s m args below meth c (vx_MQ below (ld_Q0 w Z s.heap.size r) (ld_XC w Z s.heap.size r) args s 1 6 (ld_A w s.heap.size)) w r (kX3_needTenths Z a1) Z 0 0 0 [some (.int a1)] []
  unfold kX3_needTenths
  refine lj_iload_n C rfl rfl dX3_needTenths_0 ?_
  refine lj_if_lt C (tgt := 10) dX3_needTenths_1 (by decide) ?_ ?_
  · exact lj_throw0 C hfl htb (text := "a delay or fade is 0 to 100 tenths") rfl (by decide) (List.mem_of_getElem? (i := 1) rfl) (List.mem_of_getElem? (i := 2) rfl) (fun _ h => List.mem_cons_of_mem _ (List.mem_append_right _ h)) (Nat.le_of_ble_eq_true rfl) (Nat.le_of_ble_eq_true rfl) (Nat.le_of_ble_eq_true rfl) (Nat.le_of_ble_eq_true rfl) (by decide) (by decide) dX3_needTenths_10 dX3_needTenths_13 dX3_needTenths_14 dX3_needTenths_16 dX3_needTenths_19
  · refine lj_iload_n C rfl rfl dX3_needTenths_4 ?_
    refine lj_bipush C (v := 100) (by decide) dX3_needTenths_5 ?_
    refine lj_icmp_le C (tgt := 20) dX3_needTenths_7 (by decide) ?_ ?_
    · exact lj_t0 C (by decide) (by decide) dX3_needTenths_20
    · exact lj_throw0 C hfl htb (text := "a delay or fade is 0 to 100 tenths") rfl (by decide) (List.mem_of_getElem? (i := 1) rfl) (List.mem_of_getElem? (i := 2) rfl) (fun _ h => List.mem_cons_of_mem _ (List.mem_append_right _ h)) (Nat.le_of_ble_eq_true rfl) (Nat.le_of_ble_eq_true rfl) (Nat.le_of_ble_eq_true rfl) (Nat.le_of_ble_eq_true rfl) (by decide) (by decide) dX3_needTenths_10 dX3_needTenths_13 dX3_needTenths_14 dX3_needTenths_16 dX3_needTenths_19
def kX3_needLevelOrNone_25 (a1 : Int32) (Z : ld_M)  : Option (Unit ⊕ Nat) := some (.inl ())
set_option maxHeartbeats 4000000 in
set_option maxRecDepth 100000 in
theorem bX3_needLevelOrNone_25 {p : Program} {e : Env} {s : State} {m : MethodId} {args : Array Value} {below : List Frame} {meth : Method} {c : Code} (l : Launch) (w : ld_E) (a1 : Int32)  (hfl : l.stackTraces = false) (htb : ∀ x ∈ c.exceptionTable.toList, False)  {r : Unit ⊕ Nat} (C : ld_C p l s m args meth c cX3_needLevelOrNone 1 none wsX3_needLevelOrNone RX3 w) (Z : ld_M)  : ld_T p l e ({ frames := 6, cells := 1, slots := 6, locals := 90 }) s m args below meth c (vx_MQ below (ld_Q0 w Z s.heap.size r) (ld_XC w Z s.heap.size r) args s 1 6 (ld_A w s.heap.size)) w r (kX3_needLevelOrNone_25 a1 Z ) Z 0 0 25 [some (.int a1)] [] := by
  unfold kX3_needLevelOrNone_25
  exact lj_t0 C (by decide) (by decide) dX3_needLevelOrNone_25
def kX3_needLevelOrNone (Z : ld_M) (a1 : Int32) : Option (Unit ⊕ Nat) := if (a1 : Int32) = (-1) then (kX3_needLevelOrNone_25 a1 Z) else (if (a1 : Int32) < 0 then (some (.inr 0)) else (if (a1 : Int32) ≤ 100 then (kX3_needLevelOrNone_25 a1 Z) else (some (.inr 0))))
set_option maxHeartbeats 4000000 in
set_option maxRecDepth 100000 in
theorem zX3_needLevelOrNone (l : Launch) (hfl : l.stackTraces = false) (w : ld_E) (Z : ld_M) (a1 : Int32)  {r : Unit ⊕ Nat} (hr : kX3_needLevelOrNone Z a1 = some r) (sz : Nat) : vx_Met l yX3_needLevelOrNone wsX3_needLevelOrNone ({ frames := 6, cells := 1, slots := 6, locals := 90 }) (ld_Pc w Z sz [.int a1]) (ld_Q0 w Z sz r) (ld_XC w Z sz r) 1 6 (ld_A w sz) := by
  refine ld_ofX (ws := wsX3_needLevelOrNone) (Qc := fun sz9 => ld_Q0 w Z sz9 r) (XC := fun sz9 => ld_XC w Z sz9 r) RX3 (by decide +kernel) rfl rfl (by simp [Value.category]) (Nat.le_of_ble_eq_true rfl) sz ?_
  intro p e s m args below meth c C htb
  revert hr
  show ld_T p l e ({ frames := 6, cells := 1, slots := 6, locals := 90 }) s m args below meth c (vx_MQ below (ld_Q0 w Z s.heap.size r) (ld_XC w Z s.heap.size r) args s 1 6 (ld_A w s.heap.size)) w r (kX3_needLevelOrNone Z a1) Z 0 0 0 [some (.int a1)] []
  unfold kX3_needLevelOrNone
  refine lj_iload_n C rfl rfl dX3_needLevelOrNone_0 ?_
  refine lj_iconst C (v := (-1)) (by decide) dX3_needLevelOrNone_1 ?_
  refine lj_icmp_eq C (tgt := 25) dX3_needLevelOrNone_2 (by decide) ?_ ?_
  · exact bX3_needLevelOrNone_25 l w a1 hfl htb C Z
  · refine lj_iload_n C rfl rfl dX3_needLevelOrNone_5 ?_
    refine lj_if_lt C (tgt := 15) dX3_needLevelOrNone_6 (by decide) ?_ ?_
    · exact lj_throw0 C hfl htb (text := "a level is 0 to 100, or NONE") rfl (by decide) (List.mem_of_getElem? (i := 1) rfl) (List.mem_of_getElem? (i := 2) rfl) (fun _ h => List.mem_cons_of_mem _ (List.mem_append_right _ h)) (Nat.le_of_ble_eq_true rfl) (Nat.le_of_ble_eq_true rfl) (Nat.le_of_ble_eq_true rfl) (Nat.le_of_ble_eq_true rfl) (by decide) (by decide) dX3_needLevelOrNone_15 dX3_needLevelOrNone_18 dX3_needLevelOrNone_19 dX3_needLevelOrNone_21 dX3_needLevelOrNone_24
    · refine lj_iload_n C rfl rfl dX3_needLevelOrNone_9 ?_
      refine lj_bipush C (v := 100) (by decide) dX3_needLevelOrNone_10 ?_
      refine lj_icmp_le C (tgt := 25) dX3_needLevelOrNone_12 (by decide) ?_ ?_
      · exact bX3_needLevelOrNone_25 l w a1 hfl htb C Z
      · exact lj_throw0 C hfl htb (text := "a level is 0 to 100, or NONE") rfl (by decide) (List.mem_of_getElem? (i := 1) rfl) (List.mem_of_getElem? (i := 2) rfl) (fun _ h => List.mem_cons_of_mem _ (List.mem_append_right _ h)) (Nat.le_of_ble_eq_true rfl) (Nat.le_of_ble_eq_true rfl) (Nat.le_of_ble_eq_true rfl) (Nat.le_of_ble_eq_true rfl) (by decide) (by decide) dX3_needLevelOrNone_15 dX3_needLevelOrNone_18 dX3_needLevelOrNone_19 dX3_needLevelOrNone_21 dX3_needLevelOrNone_24
theorem inX3_needLamp_2 : ∀ q ∈ u_ws RX2 TX2 4, q ∈ wsX3_needLamp := fun _ h => List.mem_cons_of_mem _ (List.mem_append_left _ (List.mem_append_right _ h))
theorem inX3_needLamp_3 : ∀ q ∈ u_ws RX3 TX3 7, q ∈ wsX3_needLamp := fun _ h => List.mem_cons_of_mem _ (List.mem_append_left _ (List.mem_append_left _ (List.mem_append_right _ h)))
def kX3_needLamp (Z : ld_M) (a1 : Int32) : Option (Unit ⊕ Nat) := ld_bd (kX2_has Z a1) (fun x5 => if (x5 : Int32) = 0 then (some (.inr 2)) else (some (.inl ())))
set_option maxHeartbeats 4000000 in
set_option maxRecDepth 100000 in
theorem zX3_needLamp (l : Launch) (hfl : l.stackTraces = false) (w : ld_E) (Z : ld_M) (a1 : Int32)  {r : Unit ⊕ Nat} (hr : kX3_needLamp Z a1 = some r) (sz : Nat) : vx_Met l yX3_needLamp wsX3_needLamp ({ frames := 6, cells := 1, slots := 6, locals := 90 }) (ld_Pc w Z sz [.ref (ld_ad w 0), .int a1]) (ld_Q0 w Z sz r) (ld_XC w Z sz r) 1 6 (ld_A w sz) := by
  refine ld_ofX (ws := wsX3_needLamp) (Qc := fun sz9 => ld_Q0 w Z sz9 r) (XC := fun sz9 => ld_XC w Z sz9 r) RX3 (by decide +kernel) rfl rfl (by simp [Value.category]) (Nat.le_of_ble_eq_true rfl) sz ?_
  intro p e s m args below meth c C htb
  revert hr
  show ld_T p l e ({ frames := 6, cells := 1, slots := 6, locals := 90 }) s m args below meth c (vx_MQ below (ld_Q0 w Z s.heap.size r) (ld_XC w Z s.heap.size r) args s 1 6 (ld_A w s.heap.size)) w r (kX3_needLamp Z a1) Z 0 0 0 [some (.ref (ld_ad w 0)), some (.int a1)] []
  unfold kX3_needLamp
  refine lj_aload_n C rfl rfl dX3_needLamp_0 ?_
  refine lj_get C (i := 0) (kk := 0) (G := (ld_f3 w)) (v := .ref (ld_ad w 3)) (Tb := TX3) (N := 7) (by decide) (fun _ => rfl) rfl inX3_needLamp_3 (by decide) (List.mem_of_getElem? (i := 3) rfl) rfl rfl dX3_needLamp_1 ?_
  refine lj_iload_n C rfl rfl dX3_needLamp_4 ?_
  refine lj_cVa C (As := [.int a1]) (rest := []) (i := 3) (ci := 2) (Cn := RX2) (Tb := TX2) (N := 4) (fs := (ld_f2 w) (Z 3)) (fun sz x hx => zX2_has l w Z a1 hx sz) (cwV 1 C.2.2.2.2.1 gX3_needLamp_X2_has rfl rfl rfl (by decide +kernel) ⟨Nat.le_of_ble_eq_true rfl, Nat.le_of_ble_eq_true rfl⟩) (by decide) ((fun _ => rfl) _) rfl rfl rfl rfl (Nat.le_of_ble_eq_true rfl) ⟨Nat.le_of_ble_eq_true rfl, Nat.le_of_ble_eq_true rfl⟩ dX3_needLamp_5 (fun x5 hx5 => ?_)
  refine lj_if_ne C (tgt := 21) dX3_needLamp_8 (by decide) ?_ ?_
  · exact lj_t0 C (by decide) (by decide) dX3_needLamp_21
  · exact lj_throw2 C hfl htb (text := "there is no such lamp") rfl (by decide) (List.mem_of_getElem? (i := 1) rfl) (List.mem_of_getElem? (i := 2) rfl) (fun _ h => List.mem_cons_of_mem _ (List.mem_append_right _ h)) (Nat.le_of_ble_eq_true rfl) (Nat.le_of_ble_eq_true rfl) (Nat.le_of_ble_eq_true rfl) (Nat.le_of_ble_eq_true rfl) (by decide) (by decide) dX3_needLamp_11 dX3_needLamp_14 dX3_needLamp_15 dX3_needLamp_17 dX3_needLamp_20
theorem inX3_needCue_0 : ∀ q ∈ u_ws RX0 TX0 9, q ∈ wsX3_needCue := fun _ h => List.mem_cons_of_mem _ (List.mem_append_left _ (List.mem_append_right _ h))
theorem inX3_needCue_3 : ∀ q ∈ u_ws RX3 TX3 7, q ∈ wsX3_needCue := fun _ h => List.mem_cons_of_mem _ (List.mem_append_left _ (List.mem_append_left _ (List.mem_append_right _ h)))
def kX3_needCue (Z : ld_M) (a1 : Int32) (a2 : Int32) : Option (Unit ⊕ Nat) := ld_bd (kX0_has Z (ld_cu a1) a2) (fun x6 => if (x6 : Int32) = 0 then (some (.inr 2)) else (some (.inl ())))
set_option maxHeartbeats 4000000 in
set_option maxRecDepth 100000 in
theorem zX3_needCue (l : Launch) (hfl : l.stackTraces = false) (w : ld_E) (Z : ld_M) (a1 : Int32) (a2 : Int32)  {r : Unit ⊕ Nat} (hr : kX3_needCue Z a1 a2 = some r) (sz : Nat) : vx_Met l yX3_needCue wsX3_needCue ({ frames := 6, cells := 1, slots := 6, locals := 90 }) (ld_Pc w Z sz [.ref (ld_ad w 0), .int a1, .int a2]) (ld_Q0 w Z sz r) (ld_XC w Z sz r) 1 6 (ld_A w sz) := by
  refine ld_ofX (ws := wsX3_needCue) (Qc := fun sz9 => ld_Q0 w Z sz9 r) (XC := fun sz9 => ld_XC w Z sz9 r) RX3 (by decide +kernel) rfl rfl (by simp [Value.category]) (Nat.le_of_ble_eq_true rfl) sz ?_
  intro p e s m args below meth c C htb
  revert hr
  show ld_T p l e ({ frames := 6, cells := 1, slots := 6, locals := 90 }) s m args below meth c (vx_MQ below (ld_Q0 w Z s.heap.size r) (ld_XC w Z s.heap.size r) args s 1 6 (ld_A w s.heap.size)) w r (kX3_needCue Z a1 a2) Z 0 0 0 [some (.ref (ld_ad w 0)), some (.int a1), some (.int a2)] []
  unfold kX3_needCue
  refine lj_aload_n C rfl rfl dX3_needCue_0 ?_
  refine lj_iload_n C rfl rfl dX3_needCue_1 ?_
  refine lj_cu C (a := a1) (rest := []) (cwV 1 C.2.2.2.2.1 gX3_needCue_X3_cuesOf rfl rfl rfl (by decide +kernel) ⟨Nat.le_of_ble_eq_true rfl, Nat.le_of_ble_eq_true rfl⟩) rfl rfl (Nat.le_of_ble_eq_true rfl) ⟨Nat.le_of_ble_eq_true rfl, Nat.le_of_ble_eq_true rfl⟩ dX3_needCue_2 ?_
  refine lj_iload_n C rfl rfl dX3_needCue_5 ?_
  refine lj_cVa C (As := [.int a2]) (rest := []) (i := (ld_cu a1)) (ci := 0) (Cn := RX0) (Tb := TX0) (N := 9) (fs := (ld_f0 w (ld_cu a1)) (Z (ld_cu a1))) (fun sz x hx => zX0_has l w Z (ld_cu a1) a2 (ld_cu_q _) hx sz) (cwV 1 C.2.2.2.2.1 gX3_needCue_X0_has rfl rfl rfl (by decide +kernel) ⟨Nat.le_of_ble_eq_true rfl, Nat.le_of_ble_eq_true rfl⟩) (ld_q_lt0 (ld_cu_q _)) ((ld_q_cell (ld_cu_q _)) _) rfl rfl rfl rfl (Nat.le_of_ble_eq_true rfl) ⟨Nat.le_of_ble_eq_true rfl, Nat.le_of_ble_eq_true rfl⟩ dX3_needCue_6 (fun x6 hx6 => ?_)
  refine lj_if_ne C (tgt := 22) dX3_needCue_9 (by decide) ?_ ?_
  · exact lj_t0 C (by decide) (by decide) dX3_needCue_22
  · exact lj_throw2 C hfl htb (text := "there is no such cue") rfl (by decide) (List.mem_of_getElem? (i := 1) rfl) (List.mem_of_getElem? (i := 2) rfl) (fun _ h => List.mem_cons_of_mem _ (List.mem_append_right _ h)) (Nat.le_of_ble_eq_true rfl) (Nat.le_of_ble_eq_true rfl) (Nat.le_of_ble_eq_true rfl) (Nat.le_of_ble_eq_true rfl) (by decide) (by decide) dX3_needCue_12 dX3_needCue_15 dX3_needCue_16 dX3_needCue_18 dX3_needCue_21
theorem inX3_takeBackLast_0 : ∀ q ∈ u_ws RX0 TX0 9, q ∈ wsX3_takeBackLast := fun _ h => List.mem_cons_of_mem _ (List.mem_append_right _ h)
theorem inX3_takeBackLast_1 : ∀ q ∈ u_ws RX1 TX1 3, q ∈ wsX3_takeBackLast := fun _ h => List.mem_cons_of_mem _ (List.mem_append_left _ (List.mem_append_left _ (List.mem_append_right _ h)))
theorem inX3_takeBackLast_2 : ∀ q ∈ u_ws RX2 TX2 4, q ∈ wsX3_takeBackLast := fun _ h => List.mem_cons_of_mem _ (List.mem_append_left _ (List.mem_append_right _ h))
theorem inX3_takeBackLast_3 : ∀ q ∈ u_ws RX3 TX3 7, q ∈ wsX3_takeBackLast := fun _ h => List.mem_cons_of_mem _ (List.mem_append_left _ (List.mem_append_left _ (List.mem_append_left _ (List.mem_append_right _ h))))
def kX3_takeBackLast_110  (Z : ld_M) (v1 : Int32) (v2 : Int32) (v3 : Int32) (v4 : Int32) : Option (ld_M) := some Z
set_option maxHeartbeats 4000000 in
set_option maxRecDepth 100000 in
theorem bX3_takeBackLast_110 {p : Program} {e : Env} {s : State} {m : MethodId} {args : Array Value} {below : List Frame} {meth : Method} {c : Code} (l : Launch) (w : ld_E)  {r : ld_M} (C : ld_C p l s m args meth c cX3_takeBackLast 5 none wsX3_takeBackLast RX3 w) (Z : ld_M) (v1 : Int32) (v2 : Int32) (v3 : Int32) (v4 : Int32) : ld_T p l e ({ frames := 2, cells := 0, slots := 0, locals := 44 }) s m args below meth c (MQ below (ld_Q w r s.heap.size none) args s 0 0 (ld_A w s.heap.size)) w r (kX3_takeBackLast_110 Z v1 v2 v3 v4) Z 0 0 110 [some (.ref (ld_ad w 0)), some (.int v1), some (.int v2), some (.int v3), some (.int v4)] [] := by
  unfold kX3_takeBackLast_110
  exact lj_rv C (by decide) (by decide) dX3_takeBackLast_110
def kX3_takeBackLast (Z : ld_M)  : Option (ld_M) := ld_bd (kX1_lastPart Z 1) (fun x5 => ld_bd (kX1_lastPart Z 2) (fun x14 => ld_bd (kX1_lastPart Z 3) (fun x23 => ld_bd (kX1_lastPart Z 4) (fun x32 => ld_bd (kX1_lastPart Z 0) (fun x42 => if (x42 : Int32) = 0 then (ld_bd (kX2_setKind Z x5 x14 x23) (fun x79 => kX3_takeBackLast_110 x79 x5 x14 x23 x32)) else if (x42 : Int32) = 1 then (ld_bd (kX2_setChannel Z x5 x14 x23) (fun x92 => kX3_takeBackLast_110 x92 x5 x14 x23 x32)) else (ld_bd (kX0_tell Z (ld_cu x5) x14 x23 x32) (fun x107 => kX3_takeBackLast_110 x107 x5 x14 x23 x32)))))))
set_option maxHeartbeats 4000000 in
set_option maxRecDepth 100000 in
theorem zX3_takeBackLast (l : Launch) (w : ld_E) (Z : ld_M)   {r : ld_M} (hr : kX3_takeBackLast Z  = some r) (sz : Nat) : Met l yX3_takeBackLast wsX3_takeBackLast ({ frames := 2, cells := 0, slots := 0, locals := 44 }) (ld_Pc w Z sz [.ref (ld_ad w 0)]) (ld_Q w r sz none) 0 0 (ld_A w sz) := by
  refine ld_ofW (ws := wsX3_takeBackLast) (Qc := fun sz9 => ld_Q w r sz9 none) RX3 (by decide +kernel) rfl rfl (by simp [Value.category]) (Nat.le_of_ble_eq_true rfl) sz ?_
  intro p e s m args below meth c C
  revert hr
  show ld_T p l e ({ frames := 2, cells := 0, slots := 0, locals := 44 }) s m args below meth c (MQ below (ld_Q w r s.heap.size none) args s 0 0 (ld_A w s.heap.size)) w r (kX3_takeBackLast Z ) Z 0 0 0 [some (.ref (ld_ad w 0)), none, none, none, none] []
  unfold kX3_takeBackLast
  refine lj_aload_n C rfl rfl dX3_takeBackLast_0 ?_
  refine lj_get C (i := 0) (kk := 3) (G := (ld_f3 w)) (v := .ref (ld_ad w 45)) (Tb := TX3) (N := 7) (by decide) (fun _ => rfl) rfl inX3_takeBackLast_3 (by decide) (List.mem_of_getElem? (i := 1) rfl) rfl rfl dX3_takeBackLast_1 ?_
  refine lj_iconst C (v := 1) (by decide) dX3_takeBackLast_4 ?_
  refine lj_cVa C (As := [.int 1]) (rest := []) (i := 45) (ci := 1) (Cn := RX1) (Tb := TX1) (N := 3) (fs := (ld_f1 w) (Z 45)) (fun sz x hx => zX1_lastPart l w Z 1 hx sz) (cwV 1 C.2.2.2.2.1 gX3_takeBackLast_X1_lastPart rfl rfl rfl (by decide +kernel) ⟨Nat.le_of_ble_eq_true rfl, Nat.le_of_ble_eq_true rfl⟩) (by decide) ((fun _ => rfl) _) rfl rfl rfl rfl (Nat.le_of_ble_eq_true rfl) ⟨Nat.le_of_ble_eq_true rfl, Nat.le_of_ble_eq_true rfl⟩ dX3_takeBackLast_5 (fun x5 hx5 => ?_)
  refine lj_istore_n C rfl (lv2 := [some (.ref (ld_ad w 0)), some (.int x5), none, none, none]) (Nat.le_of_ble_eq_true rfl) rfl dX3_takeBackLast_8 ?_
  refine lj_aload_n C rfl rfl dX3_takeBackLast_9 ?_
  refine lj_get C (i := 0) (kk := 3) (G := (ld_f3 w)) (v := .ref (ld_ad w 45)) (Tb := TX3) (N := 7) (by decide) (fun _ => rfl) rfl inX3_takeBackLast_3 (by decide) (List.mem_of_getElem? (i := 1) rfl) rfl rfl dX3_takeBackLast_10 ?_
  refine lj_iconst C (v := 2) (by decide) dX3_takeBackLast_13 ?_
  refine lj_cVa C (As := [.int 2]) (rest := []) (i := 45) (ci := 1) (Cn := RX1) (Tb := TX1) (N := 3) (fs := (ld_f1 w) (Z 45)) (fun sz x hx => zX1_lastPart l w Z 2 hx sz) (cwV 1 C.2.2.2.2.1 gX3_takeBackLast_X1_lastPart rfl rfl rfl (by decide +kernel) ⟨Nat.le_of_ble_eq_true rfl, Nat.le_of_ble_eq_true rfl⟩) (by decide) ((fun _ => rfl) _) rfl rfl rfl rfl (Nat.le_of_ble_eq_true rfl) ⟨Nat.le_of_ble_eq_true rfl, Nat.le_of_ble_eq_true rfl⟩ dX3_takeBackLast_14 (fun x14 hx14 => ?_)
  refine lj_istore_n C rfl (lv2 := [some (.ref (ld_ad w 0)), some (.int x5), some (.int x14), none, none]) (Nat.le_of_ble_eq_true rfl) rfl dX3_takeBackLast_17 ?_
  refine lj_aload_n C rfl rfl dX3_takeBackLast_18 ?_
  refine lj_get C (i := 0) (kk := 3) (G := (ld_f3 w)) (v := .ref (ld_ad w 45)) (Tb := TX3) (N := 7) (by decide) (fun _ => rfl) rfl inX3_takeBackLast_3 (by decide) (List.mem_of_getElem? (i := 1) rfl) rfl rfl dX3_takeBackLast_19 ?_
  refine lj_iconst C (v := 3) (by decide) dX3_takeBackLast_22 ?_
  refine lj_cVa C (As := [.int 3]) (rest := []) (i := 45) (ci := 1) (Cn := RX1) (Tb := TX1) (N := 3) (fs := (ld_f1 w) (Z 45)) (fun sz x hx => zX1_lastPart l w Z 3 hx sz) (cwV 1 C.2.2.2.2.1 gX3_takeBackLast_X1_lastPart rfl rfl rfl (by decide +kernel) ⟨Nat.le_of_ble_eq_true rfl, Nat.le_of_ble_eq_true rfl⟩) (by decide) ((fun _ => rfl) _) rfl rfl rfl rfl (Nat.le_of_ble_eq_true rfl) ⟨Nat.le_of_ble_eq_true rfl, Nat.le_of_ble_eq_true rfl⟩ dX3_takeBackLast_23 (fun x23 hx23 => ?_)
  refine lj_istore_n C rfl (lv2 := [some (.ref (ld_ad w 0)), some (.int x5), some (.int x14), some (.int x23), none]) (Nat.le_of_ble_eq_true rfl) rfl dX3_takeBackLast_26 ?_
  refine lj_aload_n C rfl rfl dX3_takeBackLast_27 ?_
  refine lj_get C (i := 0) (kk := 3) (G := (ld_f3 w)) (v := .ref (ld_ad w 45)) (Tb := TX3) (N := 7) (by decide) (fun _ => rfl) rfl inX3_takeBackLast_3 (by decide) (List.mem_of_getElem? (i := 1) rfl) rfl rfl dX3_takeBackLast_28 ?_
  refine lj_iconst C (v := 4) (by decide) dX3_takeBackLast_31 ?_
  refine lj_cVa C (As := [.int 4]) (rest := []) (i := 45) (ci := 1) (Cn := RX1) (Tb := TX1) (N := 3) (fs := (ld_f1 w) (Z 45)) (fun sz x hx => zX1_lastPart l w Z 4 hx sz) (cwV 1 C.2.2.2.2.1 gX3_takeBackLast_X1_lastPart rfl rfl rfl (by decide +kernel) ⟨Nat.le_of_ble_eq_true rfl, Nat.le_of_ble_eq_true rfl⟩) (by decide) ((fun _ => rfl) _) rfl rfl rfl rfl (Nat.le_of_ble_eq_true rfl) ⟨Nat.le_of_ble_eq_true rfl, Nat.le_of_ble_eq_true rfl⟩ dX3_takeBackLast_32 (fun x32 hx32 => ?_)
  refine lj_istore C (lv2 := [some (.ref (ld_ad w 0)), some (.int x5), some (.int x14), some (.int x23), some (.int x32)]) (Nat.le_of_ble_eq_true rfl) rfl dX3_takeBackLast_35 ?_
  refine lj_aload_n C rfl rfl dX3_takeBackLast_37 ?_
  refine lj_get C (i := 0) (kk := 3) (G := (ld_f3 w)) (v := .ref (ld_ad w 45)) (Tb := TX3) (N := 7) (by decide) (fun _ => rfl) rfl inX3_takeBackLast_3 (by decide) (List.mem_of_getElem? (i := 1) rfl) rfl rfl dX3_takeBackLast_38 ?_
  refine lj_iconst C (v := 0) (by decide) dX3_takeBackLast_41 ?_
  refine lj_cVa C (As := [.int 0]) (rest := []) (i := 45) (ci := 1) (Cn := RX1) (Tb := TX1) (N := 3) (fs := (ld_f1 w) (Z 45)) (fun sz x hx => zX1_lastPart l w Z 0 hx sz) (cwV 1 C.2.2.2.2.1 gX3_takeBackLast_X1_lastPart rfl rfl rfl (by decide +kernel) ⟨Nat.le_of_ble_eq_true rfl, Nat.le_of_ble_eq_true rfl⟩) (by decide) ((fun _ => rfl) _) rfl rfl rfl rfl (Nat.le_of_ble_eq_true rfl) ⟨Nat.le_of_ble_eq_true rfl, Nat.le_of_ble_eq_true rfl⟩ dX3_takeBackLast_42 (fun x42 hx42 => ?_)
  refine lj_sw2 C (t0 := 72) (t1 := 85) (t2 := 98) dX3_takeBackLast_45 (by decide) (by decide) (by decide) ?_ ?_ ?_
  · refine lj_aload_n C rfl rfl dX3_takeBackLast_72 ?_
    refine lj_get C (i := 0) (kk := 0) (G := (ld_f3 w)) (v := .ref (ld_ad w 3)) (Tb := TX3) (N := 7) (by decide) (fun _ => rfl) rfl inX3_takeBackLast_3 (by decide) (List.mem_of_getElem? (i := 2) rfl) rfl rfl dX3_takeBackLast_73 ?_
    refine lj_iload_n C rfl rfl dX3_takeBackLast_76 ?_
    refine lj_iload_n C rfl rfl dX3_takeBackLast_77 ?_
    refine lj_iload_n C rfl rfl dX3_takeBackLast_78 ?_
    refine lj_cVv C (As := [.int x5, .int x14, .int x23]) (rest := []) (i := 3) (ci := 2) (Cn := RX2) (Tb := TX2) (N := 4) (fs := (ld_f2 w) (Z 3)) (fun sz x hx => zX2_setKind l w Z x5 x14 x23 hx sz) (cwV 3 C.2.2.2.2.1 gX3_takeBackLast_X2_setKind rfl rfl rfl (by decide +kernel) ⟨Nat.le_of_ble_eq_true rfl, Nat.le_of_ble_eq_true rfl⟩) (by decide) ((fun _ => rfl) _) rfl rfl rfl rfl (Nat.le_of_ble_eq_true rfl) ⟨Nat.le_of_ble_eq_true rfl, Nat.le_of_ble_eq_true rfl⟩ dX3_takeBackLast_79 (fun x79 hx79 => ?_)
    refine lj_goto C (tgt := 110) dX3_takeBackLast_82 (by decide) ?_
    exact bX3_takeBackLast_110 l w C x79 x5 x14 x23 x32
  · refine lj_aload_n C rfl rfl dX3_takeBackLast_85 ?_
    refine lj_get C (i := 0) (kk := 0) (G := (ld_f3 w)) (v := .ref (ld_ad w 3)) (Tb := TX3) (N := 7) (by decide) (fun _ => rfl) rfl inX3_takeBackLast_3 (by decide) (List.mem_of_getElem? (i := 2) rfl) rfl rfl dX3_takeBackLast_86 ?_
    refine lj_iload_n C rfl rfl dX3_takeBackLast_89 ?_
    refine lj_iload_n C rfl rfl dX3_takeBackLast_90 ?_
    refine lj_iload_n C rfl rfl dX3_takeBackLast_91 ?_
    refine lj_cVv C (As := [.int x5, .int x14, .int x23]) (rest := []) (i := 3) (ci := 2) (Cn := RX2) (Tb := TX2) (N := 4) (fs := (ld_f2 w) (Z 3)) (fun sz x hx => zX2_setChannel l w Z x5 x14 x23 hx sz) (cwV 3 C.2.2.2.2.1 gX3_takeBackLast_X2_setChannel rfl rfl rfl (by decide +kernel) ⟨Nat.le_of_ble_eq_true rfl, Nat.le_of_ble_eq_true rfl⟩) (by decide) ((fun _ => rfl) _) rfl rfl rfl rfl (Nat.le_of_ble_eq_true rfl) ⟨Nat.le_of_ble_eq_true rfl, Nat.le_of_ble_eq_true rfl⟩ dX3_takeBackLast_92 (fun x92 hx92 => ?_)
    refine lj_goto C (tgt := 110) dX3_takeBackLast_95 (by decide) ?_
    exact bX3_takeBackLast_110 l w C x92 x5 x14 x23 x32
  · refine lj_aload_n C rfl rfl dX3_takeBackLast_98 ?_
    refine lj_iload_n C rfl rfl dX3_takeBackLast_99 ?_
    refine lj_cu C (a := x5) (rest := []) (cwV 1 C.2.2.2.2.1 gX3_takeBackLast_X3_cuesOf rfl rfl rfl (by decide +kernel) ⟨Nat.le_of_ble_eq_true rfl, Nat.le_of_ble_eq_true rfl⟩) rfl rfl (Nat.le_of_ble_eq_true rfl) ⟨Nat.le_of_ble_eq_true rfl, Nat.le_of_ble_eq_true rfl⟩ dX3_takeBackLast_100 ?_
    refine lj_iload_n C rfl rfl dX3_takeBackLast_103 ?_
    refine lj_iload_n C rfl rfl dX3_takeBackLast_104 ?_
    refine lj_iload C rfl dX3_takeBackLast_105 ?_
    refine lj_cVv C (As := [.int x14, .int x23, .int x32]) (rest := []) (i := (ld_cu x5)) (ci := 0) (Cn := RX0) (Tb := TX0) (N := 9) (fs := (ld_f0 w (ld_cu x5)) (Z (ld_cu x5))) (fun sz x hx => zX0_tell l w Z (ld_cu x5) x14 x23 x32 (ld_cu_q _) hx sz) (cwV 3 C.2.2.2.2.1 gX3_takeBackLast_X0_tell rfl rfl rfl (by decide +kernel) ⟨Nat.le_of_ble_eq_true rfl, Nat.le_of_ble_eq_true rfl⟩) (ld_q_lt0 (ld_cu_q _)) ((ld_q_cell (ld_cu_q _)) _) rfl rfl rfl rfl (Nat.le_of_ble_eq_true rfl) ⟨Nat.le_of_ble_eq_true rfl, Nat.le_of_ble_eq_true rfl⟩ dX3_takeBackLast_107 (fun x107 hx107 => ?_)
    exact bX3_takeBackLast_110 l w C x107 x5 x14 x23 x32
theorem inX3_noteLatest_0 : ∀ q ∈ u_ws RX0 TX0 9, q ∈ wsX3_noteLatest := fun _ h => List.mem_cons_of_mem _ (List.mem_append_right _ h)
theorem inX3_noteLatest_3 : ∀ q ∈ u_ws RX3 TX3 7, q ∈ wsX3_noteLatest := fun _ h => List.mem_cons_of_mem _ (List.mem_append_left _ (List.mem_append_right _ h))
def kX3_noteLatest_35 (a1 : Int32) (a2 : Int32) (k : ld_M → Int32 → Option (ld_M)) (Z : ld_M) (v4 : Int32) : Option (ld_M) := k Z (v4 + 1)
set_option maxHeartbeats 4000000 in
set_option maxRecDepth 100000 in
theorem bX3_noteLatest_35 {p : Program} {e : Env} {s : State} {m : MethodId} {args : Array Value} {below : List Frame} {meth : Method} {c : Code} (l : Launch) (w : ld_E) (a1 : Int32) (a2 : Int32) {r : ld_M} (C : ld_C p l s m args meth c cX3_noteLatest 5 none wsX3_noteLatest RX3 w) (k : ld_M → Int32 → Option (ld_M)) (hk : ∀ (Z : ld_M) (u0 : Int32), ld_T p l e ({ frames := 2, cells := 0, slots := 0, locals := 43 }) s m args below meth c (MQ below (ld_Q w r s.heap.size none) args s 0 0 (ld_A w s.heap.size)) w r (k Z u0) Z 0 0 9 [some (.ref (ld_ad w 0)), some (.int a1), some (.int a2), some (.ref (ld_ad w (ld_cu a1))), some (.int u0)] []) (Z : ld_M) (v4 : Int32) : ld_T p l e ({ frames := 2, cells := 0, slots := 0, locals := 43 }) s m args below meth c (MQ below (ld_Q w r s.heap.size none) args s 0 0 (ld_A w s.heap.size)) w r (kX3_noteLatest_35 a1 a2 k Z v4) Z 0 0 35 [some (.ref (ld_ad w 0)), some (.int a1), some (.int a2), some (.ref (ld_ad w (ld_cu a1))), some (.int v4)] [] := by
  unfold kX3_noteLatest_35
  refine lj_iinc C (i := 4) (v := (v4 + 1)) (lv2 := [some (.ref (ld_ad w 0)), some (.int a1), some (.int a2), some (.ref (ld_ad w (ld_cu a1))), some (.int (v4 + 1))]) rfl rfl rfl dX3_noteLatest_35 ?_
  refine lj_goto C (tgt := 9) dX3_noteLatest_38 (by decide) ?_
  exact hk Z (v4 + 1)
def kX3_noteLatest_9 (a1 : Int32) (a2 : Int32) : Nat → ld_M → Int32 → Option (ld_M)
  | 0, _, _ => none
  | n + 1, Z, v4 => if (12 : Int32) ≤ v4 then (some Z) else (ld_bd (kX0_told Z (ld_cu a1) a2 v4) (fun x20 => if (x20 : Int32) = (-1) then (kX3_noteLatest_35 a1 a2 (kX3_noteLatest_9 a1 a2 n) Z v4) else (ld_ck (ld_g v4 12) (kX3_noteLatest_35 a1 a2 (kX3_noteLatest_9 a1 a2 n) (ld_up Z 2 v4.toNatClampNeg a1) v4))))
set_option maxHeartbeats 4000000 in
set_option maxRecDepth 100000 in
theorem bX3_noteLatest_9 {p : Program} {e : Env} {s : State} {m : MethodId} {args : Array Value} {below : List Frame} {meth : Method} {c : Code} (l : Launch) (w : ld_E) (a1 : Int32) (a2 : Int32) {r : ld_M} (C : ld_C p l s m args meth c cX3_noteLatest 5 none wsX3_noteLatest RX3 w) : ∀ (n : Nat) (Z : ld_M) (v4 : Int32), ld_T p l e ({ frames := 2, cells := 0, slots := 0, locals := 43 }) s m args below meth c (MQ below (ld_Q w r s.heap.size none) args s 0 0 (ld_A w s.heap.size)) w r (kX3_noteLatest_9 a1 a2 n Z v4) Z 0 0 9 [some (.ref (ld_ad w 0)), some (.int a1), some (.int a2), some (.ref (ld_ad w (ld_cu a1))), some (.int v4)] [] := by
  intro n
  induction n with
  | zero => exact fun _ _ h => nomatch h
  | succ n ih =>
    intro Z v4
    refine lj_iload C rfl dX3_noteLatest_9 ?_
    refine lj_bipush C (v := 12) (by decide) dX3_noteLatest_11 ?_
    refine lj_icmp_ge C (tgt := 41) dX3_noteLatest_13 (by decide) ?_ ?_
    · exact lj_rv C (by decide) (by decide) dX3_noteLatest_41
    · refine lj_aload_n C rfl rfl dX3_noteLatest_16 ?_
      refine lj_iload_n C rfl rfl dX3_noteLatest_17 ?_
      refine lj_iload C rfl dX3_noteLatest_18 ?_
      refine lj_cVa C (As := [.int a2, .int v4]) (rest := []) (i := (ld_cu a1)) (ci := 0) (Cn := RX0) (Tb := TX0) (N := 9) (fs := (ld_f0 w (ld_cu a1)) (Z (ld_cu a1))) (fun sz x hx => zX0_told l w Z (ld_cu a1) a2 v4 (ld_cu_q _) hx sz) (cwV 2 C.2.2.2.2.1 gX3_noteLatest_X0_told rfl rfl rfl (by decide +kernel) ⟨Nat.le_of_ble_eq_true rfl, Nat.le_of_ble_eq_true rfl⟩) (ld_q_lt0 (ld_cu_q _)) ((ld_q_cell (ld_cu_q _)) _) rfl rfl rfl rfl (Nat.le_of_ble_eq_true rfl) ⟨Nat.le_of_ble_eq_true rfl, Nat.le_of_ble_eq_true rfl⟩ dX3_noteLatest_20 (fun x20 hx20 => ?_)
      refine lj_iconst C (v := (-1)) (by decide) dX3_noteLatest_23 ?_
      refine lj_icmp_eq C (tgt := 35) dX3_noteLatest_24 (by decide) ?_ ?_
      · exact bX3_noteLatest_35 l w a1 a2 C (kX3_noteLatest_9 a1 a2 n) (fun Z9 u0 => ih Z9 u0) Z v4
      · refine lj_aload_n C rfl rfl dX3_noteLatest_27 ?_
        refine lj_get C (i := 0) (kk := 5) (G := (ld_f3 w)) (v := .ref (ld_ad w 2)) (Tb := TX3) (N := 7) (by decide) (fun _ => rfl) rfl inX3_noteLatest_3 (by decide) (List.mem_of_getElem? (i := 1) rfl) rfl rfl dX3_noteLatest_28 ?_
        refine lj_iload C rfl dX3_noteLatest_31 ?_
        refine lj_iload_n C rfl rfl dX3_noteLatest_33 ?_
        refine lj_iast C (n := 12) (by decide) (fun _ => rfl) dX3_noteLatest_34 ?_
        exact bX3_noteLatest_35 l w a1 a2 C (kX3_noteLatest_9 a1 a2 n) (fun Z9 u0 => ih Z9 u0) (ld_up Z 2 v4.toNatClampNeg a1) v4
def kX3_noteLatest (Z : ld_M) (a1 : Int32) (a2 : Int32) : Option (ld_M) := kX3_noteLatest_9 a1 a2 ld_fu Z 0
set_option maxHeartbeats 4000000 in
set_option maxRecDepth 100000 in
theorem zX3_noteLatest (l : Launch) (w : ld_E) (Z : ld_M) (a1 : Int32) (a2 : Int32)  {r : ld_M} (hr : kX3_noteLatest Z a1 a2 = some r) (sz : Nat) : Met l yX3_noteLatest wsX3_noteLatest ({ frames := 2, cells := 0, slots := 0, locals := 43 }) (ld_Pc w Z sz [.ref (ld_ad w 0), .int a1, .int a2]) (ld_Q w r sz none) 0 0 (ld_A w sz) := by
  refine ld_ofW (ws := wsX3_noteLatest) (Qc := fun sz9 => ld_Q w r sz9 none) RX3 (by decide +kernel) rfl rfl (by simp [Value.category]) (Nat.le_of_ble_eq_true rfl) sz ?_
  intro p e s m args below meth c C
  revert hr
  show ld_T p l e ({ frames := 2, cells := 0, slots := 0, locals := 43 }) s m args below meth c (MQ below (ld_Q w r s.heap.size none) args s 0 0 (ld_A w s.heap.size)) w r (kX3_noteLatest Z a1 a2) Z 0 0 0 [some (.ref (ld_ad w 0)), some (.int a1), some (.int a2), none, none] []
  unfold kX3_noteLatest
  refine lj_aload_n C rfl rfl dX3_noteLatest_0 ?_
  refine lj_iload_n C rfl rfl dX3_noteLatest_1 ?_
  refine lj_cu C (a := a1) (rest := []) (cwV 1 C.2.2.2.2.1 gX3_noteLatest_X3_cuesOf rfl rfl rfl (by decide +kernel) ⟨Nat.le_of_ble_eq_true rfl, Nat.le_of_ble_eq_true rfl⟩) rfl rfl (Nat.le_of_ble_eq_true rfl) ⟨Nat.le_of_ble_eq_true rfl, Nat.le_of_ble_eq_true rfl⟩ dX3_noteLatest_2 ?_
  refine lj_astore_n C rfl (lv2 := [some (.ref (ld_ad w 0)), some (.int a1), some (.int a2), some (.ref (ld_ad w (ld_cu a1))), none]) (Nat.le_of_ble_eq_true rfl) rfl dX3_noteLatest_5 ?_
  refine lj_iconst C (v := 0) (by decide) dX3_noteLatest_6 ?_
  refine lj_istore C (lv2 := [some (.ref (ld_ad w 0)), some (.int a1), some (.int a2), some (.ref (ld_ad w (ld_cu a1))), some (.int 0)]) (Nat.le_of_ble_eq_true rfl) rfl dX3_noteLatest_7 ?_
  exact bX3_noteLatest_9 l w a1 a2 C ld_fu Z 0
theorem inX3_beginFrom_0 : ∀ q ∈ u_ws RX0 TX0 9, q ∈ wsX3_beginFrom := fun _ h => List.mem_cons_of_mem _ (List.mem_append_right _ h)
theorem inX3_beginFrom_3 : ∀ q ∈ u_ws RX3 TX3 7, q ∈ wsX3_beginFrom := fun _ h => List.mem_cons_of_mem _ (List.mem_append_left _ (List.mem_append_right _ h))
def kX3_beginFrom_61 (a1 : Int32) (a2 : Int32) (Z : ld_M) (v4 : Int32) (v5 : Int32) : Option (Int32 × ld_M) := some (v4, Z)
set_option maxHeartbeats 4000000 in
set_option maxRecDepth 100000 in
theorem bX3_beginFrom_61 {p : Program} {e : Env} {s : State} {m : MethodId} {args : Array Value} {below : List Frame} {meth : Method} {c : Code} (l : Launch) (w : ld_E) (a1 : Int32) (a2 : Int32) {r : Int32 × ld_M} (C : ld_C p l s m args meth c cX3_beginFrom 6 (some .int) wsX3_beginFrom RX3 w) (Z : ld_M) (v4 : Int32) (v5 : Int32) : ld_T p l e ({ frames := 3, cells := 0, slots := 0, locals := 68 }) s m args below meth c (MQ below (ld_Q w r.2 s.heap.size (some (.int r.1))) args s 0 0 (ld_A w s.heap.size)) w r (kX3_beginFrom_61 a1 a2 Z v4 v5) Z 0 0 61 [some (.ref (ld_ad w 0)), some (.int a1), some (.int a2), some (.ref (ld_ad w (ld_cu a1))), some (.int v4), some (.int v5)] [] := by
  unfold kX3_beginFrom_61
  refine lj_iload C rfl dX3_beginFrom_61 ?_
  exact lj_rb C (by decide) (by decide) dX3_beginFrom_63
def kX3_beginFrom_56 (a1 : Int32) (a2 : Int32) (k : ld_M → Int32 → Int32 → Option (Int32 × ld_M)) (Z : ld_M) (v4 : Int32) (v5 : Int32) (t0 : Int32) : Option (Int32 × ld_M) := k Z v4 t0
set_option maxHeartbeats 4000000 in
set_option maxRecDepth 100000 in
theorem bX3_beginFrom_56 {p : Program} {e : Env} {s : State} {m : MethodId} {args : Array Value} {below : List Frame} {meth : Method} {c : Code} (l : Launch) (w : ld_E) (a1 : Int32) (a2 : Int32) {r : Int32 × ld_M} (C : ld_C p l s m args meth c cX3_beginFrom 6 (some .int) wsX3_beginFrom RX3 w) (k : ld_M → Int32 → Int32 → Option (Int32 × ld_M)) (hk : ∀ (Z : ld_M) (u0 : Int32) (u1 : Int32), ld_T p l e ({ frames := 3, cells := 0, slots := 0, locals := 68 }) s m args below meth c (MQ below (ld_Q w r.2 s.heap.size (some (.int r.1))) args s 0 0 (ld_A w s.heap.size)) w r (k Z u0 u1) Z 0 0 12 [some (.ref (ld_ad w 0)), some (.int a1), some (.int a2), some (.ref (ld_ad w (ld_cu a1))), some (.int u0), some (.int u1)] []) (Z : ld_M) (v4 : Int32) (v5 : Int32) (t0 : Int32) : ld_T p l e ({ frames := 3, cells := 0, slots := 0, locals := 68 }) s m args below meth c (MQ below (ld_Q w r.2 s.heap.size (some (.int r.1))) args s 0 0 (ld_A w s.heap.size)) w r (kX3_beginFrom_56 a1 a2 k Z v4 v5 t0) Z 0 0 56 [some (.ref (ld_ad w 0)), some (.int a1), some (.int a2), some (.ref (ld_ad w (ld_cu a1))), some (.int v4), some (.int v5)] [.int t0] := by
  unfold kX3_beginFrom_56
  refine lj_istore C (lv2 := [some (.ref (ld_ad w 0)), some (.int a1), some (.int a2), some (.ref (ld_ad w (ld_cu a1))), some (.int v4), some (.int t0)]) (Nat.le_of_ble_eq_true rfl) rfl dX3_beginFrom_56 ?_
  refine lj_goto C (tgt := 12) dX3_beginFrom_58 (by decide) ?_
  exact hk Z v4 t0
def kX3_beginFrom_12 (a1 : Int32) (a2 : Int32) : Nat → ld_M → Int32 → Int32 → Option (Int32 × ld_M)
  | 0, _, _, _ => none
  | n + 1, Z, v4, v5 => if (v5 : Int32) = (-1) then (kX3_beginFrom_61 a1 a2 Z v4 v5) else (if (10 : Int32) ≤ v4 then (kX3_beginFrom_61 a1 a2 Z v4 v5) else (ld_bd (kX0_begin Z (ld_cu a1) v5) (fun x28 => ld_bd (kX3_noteLatest x28 a1 v5) (fun x35 => ld_bd (kX0_isOver x35 (ld_cu a1)) (fun x42 => if (x42 : Int32) = 0 then (kX3_beginFrom_56 a1 a2 (kX3_beginFrom_12 a1 a2 n) x35 (v4 + 1) v5 (-1)) else (ld_bd (kX0_follower x35 (ld_cu a1)) (fun x49 => kX3_beginFrom_56 a1 a2 (kX3_beginFrom_12 a1 a2 n) x35 (v4 + 1) v5 x49)))))))
set_option maxHeartbeats 4000000 in
set_option maxRecDepth 100000 in
theorem bX3_beginFrom_12 {p : Program} {e : Env} {s : State} {m : MethodId} {args : Array Value} {below : List Frame} {meth : Method} {c : Code} (l : Launch) (w : ld_E) (a1 : Int32) (a2 : Int32) {r : Int32 × ld_M} (C : ld_C p l s m args meth c cX3_beginFrom 6 (some .int) wsX3_beginFrom RX3 w) : ∀ (n : Nat) (Z : ld_M) (v4 : Int32) (v5 : Int32), ld_T p l e ({ frames := 3, cells := 0, slots := 0, locals := 68 }) s m args below meth c (MQ below (ld_Q w r.2 s.heap.size (some (.int r.1))) args s 0 0 (ld_A w s.heap.size)) w r (kX3_beginFrom_12 a1 a2 n Z v4 v5) Z 0 0 12 [some (.ref (ld_ad w 0)), some (.int a1), some (.int a2), some (.ref (ld_ad w (ld_cu a1))), some (.int v4), some (.int v5)] [] := by
  intro n
  induction n with
  | zero => exact fun _ _ _ h => nomatch h
  | succ n ih =>
    intro Z v4 v5
    refine lj_iload C rfl dX3_beginFrom_12 ?_
    refine lj_iconst C (v := (-1)) (by decide) dX3_beginFrom_14 ?_
    refine lj_icmp_eq C (tgt := 61) dX3_beginFrom_15 (by decide) ?_ ?_
    · exact bX3_beginFrom_61 l w a1 a2 C Z v4 v5
    · refine lj_iload C rfl dX3_beginFrom_18 ?_
      refine lj_bipush C (v := 10) (by decide) dX3_beginFrom_20 ?_
      refine lj_icmp_ge C (tgt := 61) dX3_beginFrom_22 (by decide) ?_ ?_
      · exact bX3_beginFrom_61 l w a1 a2 C Z v4 v5
      · refine lj_aload_n C rfl rfl dX3_beginFrom_25 ?_
        refine lj_iload C rfl dX3_beginFrom_26 ?_
        refine lj_cVv C (As := [.int v5]) (rest := []) (i := (ld_cu a1)) (ci := 0) (Cn := RX0) (Tb := TX0) (N := 9) (fs := (ld_f0 w (ld_cu a1)) (Z (ld_cu a1))) (fun sz x hx => zX0_begin l w Z (ld_cu a1) v5 (ld_cu_q _) hx sz) (cwV 1 C.2.2.2.2.1 gX3_beginFrom_X0_begin rfl rfl rfl (by decide +kernel) ⟨Nat.le_of_ble_eq_true rfl, Nat.le_of_ble_eq_true rfl⟩) (ld_q_lt0 (ld_cu_q _)) ((ld_q_cell (ld_cu_q _)) _) rfl rfl rfl rfl (Nat.le_of_ble_eq_true rfl) ⟨Nat.le_of_ble_eq_true rfl, Nat.le_of_ble_eq_true rfl⟩ dX3_beginFrom_28 (fun x28 hx28 => ?_)
        refine lj_aload_n C rfl rfl dX3_beginFrom_31 ?_
        refine lj_iload_n C rfl rfl dX3_beginFrom_32 ?_
        refine lj_iload C rfl dX3_beginFrom_33 ?_
        refine lj_cVv C (As := [.int a1, .int v5]) (rest := []) (i := 0) (ci := 3) (Cn := RX3) (Tb := TX3) (N := 7) (fs := (ld_f3 w) (x28 0)) (fun sz x hx => zX3_noteLatest l w x28 a1 v5 hx sz) (cwV 2 C.2.2.2.2.1 gX3_beginFrom_X3_noteLatest rfl rfl rfl (by decide +kernel) ⟨Nat.le_of_ble_eq_true rfl, Nat.le_of_ble_eq_true rfl⟩) (by decide) ((fun _ => rfl) _) rfl rfl rfl rfl (Nat.le_of_ble_eq_true rfl) ⟨Nat.le_of_ble_eq_true rfl, Nat.le_of_ble_eq_true rfl⟩ dX3_beginFrom_35 (fun x35 hx35 => ?_)
        refine lj_iinc C (i := 4) (v := (v4 + 1)) (lv2 := [some (.ref (ld_ad w 0)), some (.int a1), some (.int a2), some (.ref (ld_ad w (ld_cu a1))), some (.int (v4 + 1)), some (.int v5)]) rfl rfl rfl dX3_beginFrom_38 ?_
        refine lj_aload_n C rfl rfl dX3_beginFrom_41 ?_
        refine lj_cVa C (As := []) (rest := []) (i := (ld_cu a1)) (ci := 0) (Cn := RX0) (Tb := TX0) (N := 9) (fs := (ld_f0 w (ld_cu a1)) (x35 (ld_cu a1))) (fun sz x hx => zX0_isOver l w x35 (ld_cu a1) (ld_cu_q _) hx sz) (cwV 0 C.2.2.2.2.1 gX3_beginFrom_X0_isOver rfl rfl rfl (by decide +kernel) ⟨Nat.le_of_ble_eq_true rfl, Nat.le_of_ble_eq_true rfl⟩) (ld_q_lt0 (ld_cu_q _)) ((ld_q_cell (ld_cu_q _)) _) rfl rfl rfl rfl (Nat.le_of_ble_eq_true rfl) ⟨Nat.le_of_ble_eq_true rfl, Nat.le_of_ble_eq_true rfl⟩ dX3_beginFrom_42 (fun x42 hx42 => ?_)
        refine lj_if_eq C (tgt := 55) dX3_beginFrom_45 (by decide) ?_ ?_
        · refine lj_iconst C (v := (-1)) (by decide) dX3_beginFrom_55 ?_
          exact bX3_beginFrom_56 l w a1 a2 C (kX3_beginFrom_12 a1 a2 n) (fun Z9 u0 u1 => ih Z9 u0 u1) x35 (v4 + 1) v5 (-1)
        · refine lj_aload_n C rfl rfl dX3_beginFrom_48 ?_
          refine lj_cVa C (As := []) (rest := []) (i := (ld_cu a1)) (ci := 0) (Cn := RX0) (Tb := TX0) (N := 9) (fs := (ld_f0 w (ld_cu a1)) (x35 (ld_cu a1))) (fun sz x hx => zX0_follower l w x35 (ld_cu a1) (ld_cu_q _) hx sz) (cwV 0 C.2.2.2.2.1 gX3_beginFrom_X0_follower rfl rfl rfl (by decide +kernel) ⟨Nat.le_of_ble_eq_true rfl, Nat.le_of_ble_eq_true rfl⟩) (ld_q_lt0 (ld_cu_q _)) ((ld_q_cell (ld_cu_q _)) _) rfl rfl rfl rfl (Nat.le_of_ble_eq_true rfl) ⟨Nat.le_of_ble_eq_true rfl, Nat.le_of_ble_eq_true rfl⟩ dX3_beginFrom_49 (fun x49 hx49 => ?_)
          refine lj_goto C (tgt := 56) dX3_beginFrom_52 (by decide) ?_
          exact bX3_beginFrom_56 l w a1 a2 C (kX3_beginFrom_12 a1 a2 n) (fun Z9 u0 u1 => ih Z9 u0 u1) x35 (v4 + 1) v5 x49
def kX3_beginFrom (Z : ld_M) (a1 : Int32) (a2 : Int32) : Option (Int32 × ld_M) := kX3_beginFrom_12 a1 a2 ld_fu Z 0 a2
set_option maxHeartbeats 4000000 in
set_option maxRecDepth 100000 in
theorem zX3_beginFrom (l : Launch) (w : ld_E) (Z : ld_M) (a1 : Int32) (a2 : Int32)  {r : Int32 × ld_M} (hr : kX3_beginFrom Z a1 a2 = some r) (sz : Nat) : Met l yX3_beginFrom wsX3_beginFrom ({ frames := 3, cells := 0, slots := 0, locals := 68 }) (ld_Pc w Z sz [.ref (ld_ad w 0), .int a1, .int a2]) (ld_Q w r.2 sz (some (.int r.1))) 0 0 (ld_A w sz) := by
  refine ld_ofW (ws := wsX3_beginFrom) (Qc := fun sz9 => ld_Q w r.2 sz9 (some (.int r.1))) RX3 (by decide +kernel) rfl rfl (by simp [Value.category]) (Nat.le_of_ble_eq_true rfl) sz ?_
  intro p e s m args below meth c C
  revert hr
  show ld_T p l e ({ frames := 3, cells := 0, slots := 0, locals := 68 }) s m args below meth c (MQ below (ld_Q w r.2 s.heap.size (some (.int r.1))) args s 0 0 (ld_A w s.heap.size)) w r (kX3_beginFrom Z a1 a2) Z 0 0 0 [some (.ref (ld_ad w 0)), some (.int a1), some (.int a2), none, none, none] []
  unfold kX3_beginFrom
  refine lj_aload_n C rfl rfl dX3_beginFrom_0 ?_
  refine lj_iload_n C rfl rfl dX3_beginFrom_1 ?_
  refine lj_cu C (a := a1) (rest := []) (cwV 1 C.2.2.2.2.1 gX3_beginFrom_X3_cuesOf rfl rfl rfl (by decide +kernel) ⟨Nat.le_of_ble_eq_true rfl, Nat.le_of_ble_eq_true rfl⟩) rfl rfl (Nat.le_of_ble_eq_true rfl) ⟨Nat.le_of_ble_eq_true rfl, Nat.le_of_ble_eq_true rfl⟩ dX3_beginFrom_2 ?_
  refine lj_astore_n C rfl (lv2 := [some (.ref (ld_ad w 0)), some (.int a1), some (.int a2), some (.ref (ld_ad w (ld_cu a1))), none, none]) (Nat.le_of_ble_eq_true rfl) rfl dX3_beginFrom_5 ?_
  refine lj_iconst C (v := 0) (by decide) dX3_beginFrom_6 ?_
  refine lj_istore C (lv2 := [some (.ref (ld_ad w 0)), some (.int a1), some (.int a2), some (.ref (ld_ad w (ld_cu a1))), some (.int 0), none]) (Nat.le_of_ble_eq_true rfl) rfl dX3_beginFrom_7 ?_
  refine lj_iload_n C rfl rfl dX3_beginFrom_9 ?_
  refine lj_istore C (lv2 := [some (.ref (ld_ad w 0)), some (.int a1), some (.int a2), some (.ref (ld_ad w (ld_cu a1))), some (.int 0), some (.int a2)]) (Nat.le_of_ble_eq_true rfl) rfl dX3_beginFrom_10 ?_
  exact bX3_beginFrom_12 l w a1 a2 C ld_fu Z 0 a2
theorem inX3_passTenth_0 : ∀ q ∈ u_ws RX0 TX0 9, q ∈ wsX3_passTenth := fun _ h => List.mem_cons_of_mem _ (List.mem_append_right _ h)
theorem inX3_passTenth_3 : ∀ q ∈ u_ws RX3 TX3 7, q ∈ wsX3_passTenth := fun _ h => List.mem_cons_of_mem _ (List.mem_append_left _ (List.mem_append_right _ h))
def kX3_passTenth_26 (a1 : Int32) (Z : ld_M) (t0 : Int32) : Option (Int32 × ld_M) := some (t0, Z)
set_option maxHeartbeats 4000000 in
set_option maxRecDepth 100000 in
theorem bX3_passTenth_26 {p : Program} {e : Env} {s : State} {m : MethodId} {args : Array Value} {below : List Frame} {meth : Method} {c : Code} (l : Launch) (w : ld_E) (a1 : Int32) {r : Int32 × ld_M} (C : ld_C p l s m args meth c cX3_passTenth 3 (some .int) wsX3_passTenth RX3 w) (Z : ld_M) (t0 : Int32) : ld_T p l e ({ frames := 4, cells := 0, slots := 0, locals := 93 }) s m args below meth c (MQ below (ld_Q w r.2 s.heap.size (some (.int r.1))) args s 0 0 (ld_A w s.heap.size)) w r (kX3_passTenth_26 a1 Z t0) Z 0 0 26 [some (.ref (ld_ad w 0)), some (.int a1), some (.ref (ld_ad w (ld_cu a1)))] [.int t0] := by
  unfold kX3_passTenth_26
  exact lj_rb C (by decide) (by decide) dX3_passTenth_26
def kX3_passTenth (Z : ld_M) (a1 : Int32) : Option (Int32 × ld_M) := ld_bd (kX0_endsInNextTenth Z (ld_cu a1)) (fun x7 => if (x7.1 : Int32) = 0 then (kX3_passTenth_26 a1 x7.2 0) else (ld_bd (kX0_follower x7.2 (ld_cu a1)) (fun x16 => ld_bd (kX3_beginFrom x7.2 a1 x16) (fun x19 => kX3_passTenth_26 a1 x19.2 x19.1))))
set_option maxHeartbeats 4000000 in
set_option maxRecDepth 100000 in
theorem zX3_passTenth (l : Launch) (w : ld_E) (Z : ld_M) (a1 : Int32)  {r : Int32 × ld_M} (hr : kX3_passTenth Z a1 = some r) (sz : Nat) : Met l yX3_passTenth wsX3_passTenth ({ frames := 4, cells := 0, slots := 0, locals := 93 }) (ld_Pc w Z sz [.ref (ld_ad w 0), .int a1]) (ld_Q w r.2 sz (some (.int r.1))) 0 0 (ld_A w sz) := by
  refine ld_ofW (ws := wsX3_passTenth) (Qc := fun sz9 => ld_Q w r.2 sz9 (some (.int r.1))) RX3 (by decide +kernel) rfl rfl (by simp [Value.category]) (Nat.le_of_ble_eq_true rfl) sz ?_
  intro p e s m args below meth c C
  revert hr
  show ld_T p l e ({ frames := 4, cells := 0, slots := 0, locals := 93 }) s m args below meth c (MQ below (ld_Q w r.2 s.heap.size (some (.int r.1))) args s 0 0 (ld_A w s.heap.size)) w r (kX3_passTenth Z a1) Z 0 0 0 [some (.ref (ld_ad w 0)), some (.int a1), none] []
  unfold kX3_passTenth
  refine lj_aload_n C rfl rfl dX3_passTenth_0 ?_
  refine lj_iload_n C rfl rfl dX3_passTenth_1 ?_
  refine lj_cu C (a := a1) (rest := []) (cwV 1 C.2.2.2.2.1 gX3_passTenth_X3_cuesOf rfl rfl rfl (by decide +kernel) ⟨Nat.le_of_ble_eq_true rfl, Nat.le_of_ble_eq_true rfl⟩) rfl rfl (Nat.le_of_ble_eq_true rfl) ⟨Nat.le_of_ble_eq_true rfl, Nat.le_of_ble_eq_true rfl⟩ dX3_passTenth_2 ?_
  refine lj_astore_n C rfl (lv2 := [some (.ref (ld_ad w 0)), some (.int a1), some (.ref (ld_ad w (ld_cu a1)))]) (Nat.le_of_ble_eq_true rfl) rfl dX3_passTenth_5 ?_
  refine lj_aload_n C rfl rfl dX3_passTenth_6 ?_
  refine lj_cVb C (As := []) (rest := []) (i := (ld_cu a1)) (ci := 0) (Cn := RX0) (Tb := TX0) (N := 9) (fs := (ld_f0 w (ld_cu a1)) (Z (ld_cu a1))) (fun sz x hx => zX0_endsInNextTenth l w Z (ld_cu a1) (ld_cu_q _) hx sz) (cwV 0 C.2.2.2.2.1 gX3_passTenth_X0_endsInNextTenth rfl rfl rfl (by decide +kernel) ⟨Nat.le_of_ble_eq_true rfl, Nat.le_of_ble_eq_true rfl⟩) (ld_q_lt0 (ld_cu_q _)) ((ld_q_cell (ld_cu_q _)) _) rfl rfl rfl rfl (Nat.le_of_ble_eq_true rfl) ⟨Nat.le_of_ble_eq_true rfl, Nat.le_of_ble_eq_true rfl⟩ dX3_passTenth_7 (fun x7 hx7 => ?_)
  refine lj_if_eq C (tgt := 25) dX3_passTenth_10 (by decide) ?_ ?_
  · refine lj_iconst C (v := 0) (by decide) dX3_passTenth_25 ?_
    exact bX3_passTenth_26 l w a1 C x7.2 0
  · refine lj_aload_n C rfl rfl dX3_passTenth_13 ?_
    refine lj_iload_n C rfl rfl dX3_passTenth_14 ?_
    refine lj_aload_n C rfl rfl dX3_passTenth_15 ?_
    refine lj_cVa C (As := []) (rest := [.int a1, .ref (ld_ad w 0)]) (i := (ld_cu a1)) (ci := 0) (Cn := RX0) (Tb := TX0) (N := 9) (fs := (ld_f0 w (ld_cu a1)) (x7.2 (ld_cu a1))) (fun sz x hx => zX0_follower l w x7.2 (ld_cu a1) (ld_cu_q _) hx sz) (cwV 0 C.2.2.2.2.1 gX3_passTenth_X0_follower rfl rfl rfl (by decide +kernel) ⟨Nat.le_of_ble_eq_true rfl, Nat.le_of_ble_eq_true rfl⟩) (ld_q_lt0 (ld_cu_q _)) ((ld_q_cell (ld_cu_q _)) _) rfl rfl rfl rfl (Nat.le_of_ble_eq_true rfl) ⟨Nat.le_of_ble_eq_true rfl, Nat.le_of_ble_eq_true rfl⟩ dX3_passTenth_16 (fun x16 hx16 => ?_)
    refine lj_cVb C (As := [.int a1, .int x16]) (rest := []) (i := 0) (ci := 3) (Cn := RX3) (Tb := TX3) (N := 7) (fs := (ld_f3 w) (x7.2 0)) (fun sz x hx => zX3_beginFrom l w x7.2 a1 x16 hx sz) (cwV 2 C.2.2.2.2.1 gX3_passTenth_X3_beginFrom rfl rfl rfl (by decide +kernel) ⟨Nat.le_of_ble_eq_true rfl, Nat.le_of_ble_eq_true rfl⟩) (by decide) ((fun _ => rfl) _) rfl rfl rfl rfl (Nat.le_of_ble_eq_true rfl) ⟨Nat.le_of_ble_eq_true rfl, Nat.le_of_ble_eq_true rfl⟩ dX3_passTenth_19 (fun x19 hx19 => ?_)
    refine lj_goto C (tgt := 26) dX3_passTenth_22 (by decide) ?_
    exact bX3_passTenth_26 l w a1 C x19.2 x19.1
theorem inX3_mergedNow_0 : ∀ q ∈ u_ws RX0 TX0 9, q ∈ wsX3_mergedNow := fun _ h => List.mem_cons_of_mem _ (List.mem_append_right _ h)
theorem inX3_mergedNow_3 : ∀ q ∈ u_ws RX3 TX3 7, q ∈ wsX3_mergedNow := fun _ h => List.mem_cons_of_mem _ (List.mem_append_left _ (List.mem_append_right _ h))
def kX3_mergedNow_49 (a1 : Int32) (Z : ld_M) (v2 : Int32) (v3 : Int32) : Option (Int32) := some (if v2 < v3 then v3 else v2)
set_option maxHeartbeats 4000000 in
set_option maxRecDepth 100000 in
theorem bX3_mergedNow_49 {p : Program} {e : Env} {s : State} {m : MethodId} {args : Array Value} {below : List Frame} {meth : Method} {c : Code} (l : Launch) (w : ld_E) (a1 : Int32)   {r : Int32} (C : ld_C p l s m args meth c cX3_mergedNow 4 (some .int) wsX3_mergedNow RX3 w) (Z : ld_M) (v2 : Int32) (v3 : Int32) : ld_T p l e ({ frames := 2, cells := 0, slots := 0, locals := 44 }) s m args below meth c (MQ below (ld_Q w Z s.heap.size (some (.int r))) args s 0 0 (ld_A w s.heap.size)) w r (kX3_mergedNow_49 a1 Z v2 v3) Z 0 0 49 [some (.ref (ld_ad w 0)), some (.int a1), some (.int v2), some (.int v3)] [] := by
  unfold kX3_mergedNow_49
  refine lj_iload_n C rfl rfl dX3_mergedNow_49 ?_
  refine lj_iload_n C rfl rfl dX3_mergedNow_50 ?_
  refine lj_max C rfl (List.mem_of_getElem? (i := 5) rfl) (List.mem_of_getElem? (i := 6) rfl) (List.mem_of_getElem? (i := 7) rfl) (List.mem_of_getElem? (i := 8) rfl) (Nat.le_of_ble_eq_true rfl) (Nat.le_of_ble_eq_true rfl) (Nat.le_of_ble_eq_true rfl) (Nat.le_of_ble_eq_true rfl) dX3_mergedNow_51 ?_
  exact lj_ra C (by decide) (by decide) dX3_mergedNow_54
def kX3_mergedNow_48 (a1 : Int32) (Z : ld_M) (v2 : Int32) (v3 : Int32) (t0 : Int32) : Option (Int32) := some t0
set_option maxHeartbeats 4000000 in
set_option maxRecDepth 100000 in
theorem bX3_mergedNow_48 {p : Program} {e : Env} {s : State} {m : MethodId} {args : Array Value} {below : List Frame} {meth : Method} {c : Code} (l : Launch) (w : ld_E) (a1 : Int32)   {r : Int32} (C : ld_C p l s m args meth c cX3_mergedNow 4 (some .int) wsX3_mergedNow RX3 w) (Z : ld_M) (v2 : Int32) (v3 : Int32) (t0 : Int32) : ld_T p l e ({ frames := 2, cells := 0, slots := 0, locals := 44 }) s m args below meth c (MQ below (ld_Q w Z s.heap.size (some (.int r))) args s 0 0 (ld_A w s.heap.size)) w r (kX3_mergedNow_48 a1 Z v2 v3 t0) Z 0 0 48 [some (.ref (ld_ad w 0)), some (.int a1), some (.int v2), some (.int v3)] [.int t0] := by
  unfold kX3_mergedNow_48
  exact lj_ra C (by decide) (by decide) dX3_mergedNow_48
def kX3_mergedNow (Z : ld_M) (a1 : Int32) : Option (Int32) := ld_bd (kX0_levelNow Z 11 a1) (fun x5 => ld_bd (kX0_levelNow Z 28 a1) (fun x14 => ld_bd (kX3_isChannel Z a1) (fun x19 => if (x19 : Int32) = 0 then (kX3_mergedNow_49 a1 Z x5 x14) else (ld_ck (ld_g a1 12) (if ((Z 1 a1.toNatClampNeg) : Int32) = 0 then (kX3_mergedNow_49 a1 Z x5 x14) else (ld_ck (ld_g a1 12) (if ((Z 2 a1.toNatClampNeg) : Int32) = 0 then (kX3_mergedNow_48 a1 Z x5 x14 x5) else (kX3_mergedNow_48 a1 Z x5 x14 x14))))))))
set_option maxHeartbeats 4000000 in
set_option maxRecDepth 100000 in
theorem zX3_mergedNow (l : Launch) (w : ld_E) (Z : ld_M) (a1 : Int32)  {r : Int32} (hr : kX3_mergedNow Z a1 = some r) (sz : Nat) : Met l yX3_mergedNow wsX3_mergedNow ({ frames := 2, cells := 0, slots := 0, locals := 44 }) (ld_Pc w Z sz [.ref (ld_ad w 0), .int a1]) (ld_Q w Z sz (some (.int r))) 0 0 (ld_A w sz) := by
  refine ld_ofW (ws := wsX3_mergedNow) (Qc := fun sz9 => ld_Q w Z sz9 (some (.int r))) RX3 (by decide +kernel) rfl rfl (by simp [Value.category]) (Nat.le_of_ble_eq_true rfl) sz ?_
  intro p e s m args below meth c C
  revert hr
  show ld_T p l e ({ frames := 2, cells := 0, slots := 0, locals := 44 }) s m args below meth c (MQ below (ld_Q w Z s.heap.size (some (.int r))) args s 0 0 (ld_A w s.heap.size)) w r (kX3_mergedNow Z a1) Z 0 0 0 [some (.ref (ld_ad w 0)), some (.int a1), none, none] []
  unfold kX3_mergedNow
  refine lj_aload_n C rfl rfl dX3_mergedNow_0 ?_
  refine lj_get C (i := 0) (kk := 1) (G := (ld_f3 w)) (v := .ref (ld_ad w 11)) (Tb := TX3) (N := 7) (by decide) (fun _ => rfl) rfl inX3_mergedNow_3 (by decide) (List.mem_of_getElem? (i := 1) rfl) rfl rfl dX3_mergedNow_1 ?_
  refine lj_iload_n C rfl rfl dX3_mergedNow_4 ?_
  refine lj_cVa C (As := [.int a1]) (rest := []) (i := 11) (ci := 0) (Cn := RX0) (Tb := TX0) (N := 9) (fs := (ld_f0 w 11) (Z 11)) (fun sz x hx => zX0_levelNow l w Z 11 a1 (Or.inl rfl) hx sz) (cwV 1 C.2.2.2.2.1 gX3_mergedNow_X0_levelNow rfl rfl rfl (by decide +kernel) ⟨Nat.le_of_ble_eq_true rfl, Nat.le_of_ble_eq_true rfl⟩) (ld_q_lt0 (Or.inl rfl)) ((ld_q_cell (Or.inl rfl)) _) rfl rfl rfl rfl (Nat.le_of_ble_eq_true rfl) ⟨Nat.le_of_ble_eq_true rfl, Nat.le_of_ble_eq_true rfl⟩ dX3_mergedNow_5 (fun x5 hx5 => ?_)
  refine lj_istore_n C rfl (lv2 := [some (.ref (ld_ad w 0)), some (.int a1), some (.int x5), none]) (Nat.le_of_ble_eq_true rfl) rfl dX3_mergedNow_8 ?_
  refine lj_aload_n C rfl rfl dX3_mergedNow_9 ?_
  refine lj_get C (i := 0) (kk := 2) (G := (ld_f3 w)) (v := .ref (ld_ad w 28)) (Tb := TX3) (N := 7) (by decide) (fun _ => rfl) rfl inX3_mergedNow_3 (by decide) (List.mem_of_getElem? (i := 2) rfl) rfl rfl dX3_mergedNow_10 ?_
  refine lj_iload_n C rfl rfl dX3_mergedNow_13 ?_
  refine lj_cVa C (As := [.int a1]) (rest := []) (i := 28) (ci := 0) (Cn := RX0) (Tb := TX0) (N := 9) (fs := (ld_f0 w 28) (Z 28)) (fun sz x hx => zX0_levelNow l w Z 28 a1 (Or.inr rfl) hx sz) (cwV 1 C.2.2.2.2.1 gX3_mergedNow_X0_levelNow rfl rfl rfl (by decide +kernel) ⟨Nat.le_of_ble_eq_true rfl, Nat.le_of_ble_eq_true rfl⟩) (ld_q_lt0 (Or.inr rfl)) ((ld_q_cell (Or.inr rfl)) _) rfl rfl rfl rfl (Nat.le_of_ble_eq_true rfl) ⟨Nat.le_of_ble_eq_true rfl, Nat.le_of_ble_eq_true rfl⟩ dX3_mergedNow_14 (fun x14 hx14 => ?_)
  refine lj_istore_n C rfl (lv2 := [some (.ref (ld_ad w 0)), some (.int a1), some (.int x5), some (.int x14)]) (Nat.le_of_ble_eq_true rfl) rfl dX3_mergedNow_17 ?_
  refine lj_iload_n C rfl rfl dX3_mergedNow_18 ?_
  refine lj_cSa C (As := [.int a1]) (rest := []) (fun sz x hx => zX3_isChannel l w Z a1 hx sz) (va_cwS 1 C.2.2.2.2.1 gX3_mergedNow_X3_isChannel rfl rfl rfl (by decide +kernel) ⟨Nat.le_of_ble_eq_true rfl, Nat.le_of_ble_eq_true rfl⟩) rfl rfl rfl (Nat.le_of_ble_eq_true rfl) ⟨Nat.le_of_ble_eq_true rfl, Nat.le_of_ble_eq_true rfl⟩ dX3_mergedNow_19 (fun x19 hx19 => ?_)
  refine lj_if_eq C (tgt := 49) dX3_mergedNow_22 (by decide) ?_ ?_
  · exact bX3_mergedNow_49 l w a1 C Z x5 x14
  · refine lj_aload_n C rfl rfl dX3_mergedNow_25 ?_
    refine lj_get C (i := 0) (kk := 4) (G := (ld_f3 w)) (v := .ref (ld_ad w 1)) (Tb := TX3) (N := 7) (by decide) (fun _ => rfl) rfl inX3_mergedNow_3 (by decide) (List.mem_of_getElem? (i := 3) rfl) rfl rfl dX3_mergedNow_26 ?_
    refine lj_iload_n C rfl rfl dX3_mergedNow_29 ?_
    refine lj_zald C (n := 12) (by decide) (fun _ => rfl) dX3_mergedNow_30 ?_
    refine lj_if_eq C (tgt := 49) dX3_mergedNow_31 (by decide) ?_ ?_
    · exact bX3_mergedNow_49 l w a1 C Z x5 x14
    · refine lj_aload_n C rfl rfl dX3_mergedNow_34 ?_
      refine lj_get C (i := 0) (kk := 5) (G := (ld_f3 w)) (v := .ref (ld_ad w 2)) (Tb := TX3) (N := 7) (by decide) (fun _ => rfl) rfl inX3_mergedNow_3 (by decide) (List.mem_of_getElem? (i := 4) rfl) rfl rfl dX3_mergedNow_35 ?_
      refine lj_iload_n C rfl rfl dX3_mergedNow_38 ?_
      refine lj_iald C (n := 12) (by decide) (fun _ => rfl) dX3_mergedNow_39 ?_
      refine lj_if_ne C (tgt := 47) dX3_mergedNow_40 (by decide) ?_ ?_
      · refine lj_iload_n C rfl rfl dX3_mergedNow_47 ?_
        exact bX3_mergedNow_48 l w a1 C Z x5 x14 x14
      · refine lj_iload_n C rfl rfl dX3_mergedNow_43 ?_
        refine lj_goto C (tgt := 48) dX3_mergedNow_44 (by decide) ?_
        exact bX3_mergedNow_48 l w a1 C Z x5 x14 x5
theorem inX3_countTouched_0 : ∀ q ∈ u_ws RX0 TX0 9, q ∈ wsX3_countTouched := fun _ h => List.mem_cons_of_mem _ (List.mem_append_left _ (List.mem_append_right _ h))
theorem inX3_countTouched_2 : ∀ q ∈ u_ws RX2 TX2 4, q ∈ wsX3_countTouched := fun _ h => List.mem_cons_of_mem _ (List.mem_append_right _ h)
theorem inX3_countTouched_3 : ∀ q ∈ u_ws RX3 TX3 7, q ∈ wsX3_countTouched := fun _ h => List.mem_cons_of_mem _ (List.mem_append_left _ (List.mem_append_left _ (List.mem_append_right _ h)))
def kX3_countTouched_49 (b : Nat) (a2 : Int32) (a3 : Int32) (a4 : Int32) (a5 : Int32) (k : ld_M → Int32 → Int32 → Option (Int32)) (Z : ld_M) (v6 : Int32) (v7 : Int32) (v8 : Int32) : Option (Int32) := k Z v6 (v7 + 1)
set_option maxHeartbeats 4000000 in
set_option maxRecDepth 100000 in
theorem bX3_countTouched_49 {p : Program} {e : Env} {s : State} {m : MethodId} {args : Array Value} {below : List Frame} {meth : Method} {c : Code} (l : Launch) (w : ld_E) (b : Nat) (a2 : Int32) (a3 : Int32) (a4 : Int32) (a5 : Int32) (hb : b = 11 ∨ b = 28)  {r : Int32} (C : ld_C p l s m args meth c cX3_countTouched 9 (some .int) wsX3_countTouched RX3 w) (k : ld_M → Int32 → Int32 → Option (Int32)) (hk : ∀ (Z : ld_M) (u0 : Int32) (u1 : Int32), ld_T p l e ({ frames := 3, cells := 0, slots := 0, locals := 65 }) s m args below meth c (MQ below (ld_Q w Z s.heap.size (some (.int r))) args s 0 0 (ld_A w s.heap.size)) w r (k Z u0 u1) Z 0 0 6 [some (.ref (ld_ad w 0)), some (.ref (ld_ad w b)), some (.int a2), some (.int a3), some (.int a4), some (.int a5), some (.int u0), some (.int u1), none] []) (Z : ld_M) (v6 : Int32) (v7 : Int32) (v8 : Int32) : ld_T p l e ({ frames := 3, cells := 0, slots := 0, locals := 65 }) s m args below meth c (MQ below (ld_Q w Z s.heap.size (some (.int r))) args s 0 0 (ld_A w s.heap.size)) w r (kX3_countTouched_49 b a2 a3 a4 a5 k Z v6 v7 v8) Z 0 0 49 [some (.ref (ld_ad w 0)), some (.ref (ld_ad w b)), some (.int a2), some (.int a3), some (.int a4), some (.int a5), some (.int v6), some (.int v7), some (.int v8)] [] := by
  unfold kX3_countTouched_49
  refine lj_iinc C (i := 7) (v := (v7 + 1)) (lv2 := [some (.ref (ld_ad w 0)), some (.ref (ld_ad w b)), some (.int a2), some (.int a3), some (.int a4), some (.int a5), some (.int v6), some (.int (v7 + 1)), some (.int v8)]) rfl rfl rfl dX3_countTouched_49 ?_
  refine lj_goto C (tgt := 6) dX3_countTouched_52 (by decide) ?_
  refine lj_forget (lv2 := [some (.ref (ld_ad w 0)), some (.ref (ld_ad w b)), some (.int a2), some (.int a3), some (.int a4), some (.int a5), some (.int v6), some (.int (v7 + 1)), none]) (by simp [ld_le]) ?_
  exact hk Z v6 (v7 + 1)
def kX3_countTouched_6 (b : Nat) (a2 : Int32) (a3 : Int32) (a4 : Int32) (a5 : Int32) : Nat → ld_M → Int32 → Int32 → Option (Int32)
  | 0, _, _, _ => none
  | n + 1, Z, v6, v7 => ld_bd (kX0_size Z b) (fun x9 => if (x9 : Int32) ≤ v7 then (some v6) else (ld_bd (kX0_toldOrZero Z b v7 a5) (fun x20 => ld_bd (kX2_shine Z a2 x20) (fun x32 => ld_bd (kX2_shineOfKind Z a3 a4 x20) (fun x40 => if (x32 : Int32) = x40 then (kX3_countTouched_49 b a2 a3 a4 a5 (kX3_countTouched_6 b a2 a3 a4 a5 n) Z v6 v7 x20) else (kX3_countTouched_49 b a2 a3 a4 a5 (kX3_countTouched_6 b a2 a3 a4 a5 n) Z (v6 + 1) v7 x20))))))
set_option maxHeartbeats 4000000 in
set_option maxRecDepth 100000 in
theorem bX3_countTouched_6 {p : Program} {e : Env} {s : State} {m : MethodId} {args : Array Value} {below : List Frame} {meth : Method} {c : Code} (l : Launch) (w : ld_E) (b : Nat) (a2 : Int32) (a3 : Int32) (a4 : Int32) (a5 : Int32) (hb : b = 11 ∨ b = 28)  {r : Int32} (C : ld_C p l s m args meth c cX3_countTouched 9 (some .int) wsX3_countTouched RX3 w) : ∀ (n : Nat) (Z : ld_M) (v6 : Int32) (v7 : Int32), ld_T p l e ({ frames := 3, cells := 0, slots := 0, locals := 65 }) s m args below meth c (MQ below (ld_Q w Z s.heap.size (some (.int r))) args s 0 0 (ld_A w s.heap.size)) w r (kX3_countTouched_6 b a2 a3 a4 a5 n Z v6 v7) Z 0 0 6 [some (.ref (ld_ad w 0)), some (.ref (ld_ad w b)), some (.int a2), some (.int a3), some (.int a4), some (.int a5), some (.int v6), some (.int v7), none] [] := by
  intro n
  induction n with
  | zero => exact fun _ _ _ h => nomatch h
  | succ n ih =>
    intro Z v6 v7
    refine lj_iload C rfl dX3_countTouched_6 ?_
    refine lj_aload_n C rfl rfl dX3_countTouched_8 ?_
    refine lj_cVa C (As := []) (rest := [.int v7]) (i := b) (ci := 0) (Cn := RX0) (Tb := TX0) (N := 9) (fs := (ld_f0 w b) (Z b)) (fun sz x hx => zX0_size l w Z b hb hx sz) (cwV 0 C.2.2.2.2.1 gX3_countTouched_X0_size rfl rfl rfl (by decide +kernel) ⟨Nat.le_of_ble_eq_true rfl, Nat.le_of_ble_eq_true rfl⟩) (ld_q_lt0 hb) ((ld_q_cell hb) _) rfl rfl rfl rfl (Nat.le_of_ble_eq_true rfl) ⟨Nat.le_of_ble_eq_true rfl, Nat.le_of_ble_eq_true rfl⟩ dX3_countTouched_9 (fun x9 hx9 => ?_)
    refine lj_icmp_ge C (tgt := 55) dX3_countTouched_12 (by decide) ?_ ?_
    · refine lj_iload C rfl dX3_countTouched_55 ?_
      exact lj_ra C (by decide) (by decide) dX3_countTouched_57
    · refine lj_aload_n C rfl rfl dX3_countTouched_15 ?_
      refine lj_iload C rfl dX3_countTouched_16 ?_
      refine lj_iload C rfl dX3_countTouched_18 ?_
      refine lj_cVa C (As := [.int v7, .int a5]) (rest := []) (i := b) (ci := 0) (Cn := RX0) (Tb := TX0) (N := 9) (fs := (ld_f0 w b) (Z b)) (fun sz x hx => zX0_toldOrZero l w Z b v7 a5 hb hx sz) (cwV 2 C.2.2.2.2.1 gX3_countTouched_X0_toldOrZero rfl rfl rfl (by decide +kernel) ⟨Nat.le_of_ble_eq_true rfl, Nat.le_of_ble_eq_true rfl⟩) (ld_q_lt0 hb) ((ld_q_cell hb) _) rfl rfl rfl rfl (Nat.le_of_ble_eq_true rfl) ⟨Nat.le_of_ble_eq_true rfl, Nat.le_of_ble_eq_true rfl⟩ dX3_countTouched_20 (fun x20 hx20 => ?_)
      refine lj_istore C (lv2 := [some (.ref (ld_ad w 0)), some (.ref (ld_ad w b)), some (.int a2), some (.int a3), some (.int a4), some (.int a5), some (.int v6), some (.int v7), some (.int x20)]) (Nat.le_of_ble_eq_true rfl) rfl dX3_countTouched_23 ?_
      refine lj_aload_n C rfl rfl dX3_countTouched_25 ?_
      refine lj_get C (i := 0) (kk := 0) (G := (ld_f3 w)) (v := .ref (ld_ad w 3)) (Tb := TX3) (N := 7) (by decide) (fun _ => rfl) rfl inX3_countTouched_3 (by decide) (List.mem_of_getElem? (i := 1) rfl) rfl rfl dX3_countTouched_26 ?_
      refine lj_iload_n C rfl rfl dX3_countTouched_29 ?_
      refine lj_iload C rfl dX3_countTouched_30 ?_
      refine lj_cVa C (As := [.int a2, .int x20]) (rest := []) (i := 3) (ci := 2) (Cn := RX2) (Tb := TX2) (N := 4) (fs := (ld_f2 w) (Z 3)) (fun sz x hx => zX2_shine l w Z a2 x20 hx sz) (cwV 2 C.2.2.2.2.1 gX3_countTouched_X2_shine rfl rfl rfl (by decide +kernel) ⟨Nat.le_of_ble_eq_true rfl, Nat.le_of_ble_eq_true rfl⟩) (by decide) ((fun _ => rfl) _) rfl rfl rfl rfl (Nat.le_of_ble_eq_true rfl) ⟨Nat.le_of_ble_eq_true rfl, Nat.le_of_ble_eq_true rfl⟩ dX3_countTouched_32 (fun x32 hx32 => ?_)
      refine lj_iload_n C rfl rfl dX3_countTouched_35 ?_
      refine lj_iload C rfl dX3_countTouched_36 ?_
      refine lj_iload C rfl dX3_countTouched_38 ?_
      refine lj_cSa C (As := [.int a3, .int a4, .int x20]) (rest := [.int x32]) (fun sz x hx => zX2_shineOfKind l w Z a3 a4 x20 hx sz) (va_cwS 3 C.2.2.2.2.1 gX3_countTouched_X2_shineOfKind rfl rfl rfl (by decide +kernel) ⟨Nat.le_of_ble_eq_true rfl, Nat.le_of_ble_eq_true rfl⟩) rfl rfl rfl (Nat.le_of_ble_eq_true rfl) ⟨Nat.le_of_ble_eq_true rfl, Nat.le_of_ble_eq_true rfl⟩ dX3_countTouched_40 (fun x40 hx40 => ?_)
      refine lj_icmp_eq C (tgt := 49) dX3_countTouched_43 (by decide) ?_ ?_
      · exact bX3_countTouched_49 l w b a2 a3 a4 a5 hb C (kX3_countTouched_6 b a2 a3 a4 a5 n) (fun Z9 u0 u1 => ih Z9 u0 u1) Z v6 v7 x20
      · refine lj_iinc C (i := 6) (v := (v6 + 1)) (lv2 := [some (.ref (ld_ad w 0)), some (.ref (ld_ad w b)), some (.int a2), some (.int a3), some (.int a4), some (.int a5), some (.int (v6 + 1)), some (.int v7), some (.int x20)]) rfl rfl rfl dX3_countTouched_46 ?_
        exact bX3_countTouched_49 l w b a2 a3 a4 a5 hb C (kX3_countTouched_6 b a2 a3 a4 a5 n) (fun Z9 u0 u1 => ih Z9 u0 u1) Z (v6 + 1) v7 x20
def kX3_countTouched (Z : ld_M) (b : Nat) (a2 : Int32) (a3 : Int32) (a4 : Int32) (a5 : Int32) : Option (Int32) := kX3_countTouched_6 b a2 a3 a4 a5 ld_fu Z 0 0
set_option maxHeartbeats 4000000 in
set_option maxRecDepth 100000 in
theorem zX3_countTouched (l : Launch) (w : ld_E) (Z : ld_M) (b : Nat) (a2 : Int32) (a3 : Int32) (a4 : Int32) (a5 : Int32) (hb : b = 11 ∨ b = 28) {r : Int32} (hr : kX3_countTouched Z b a2 a3 a4 a5 = some r) (sz : Nat) : Met l yX3_countTouched wsX3_countTouched ({ frames := 3, cells := 0, slots := 0, locals := 65 }) (ld_Pc w Z sz [.ref (ld_ad w 0), .ref (ld_ad w b), .int a2, .int a3, .int a4, .int a5]) (ld_Q w Z sz (some (.int r))) 0 0 (ld_A w sz) := by
  refine ld_ofW (ws := wsX3_countTouched) (Qc := fun sz9 => ld_Q w Z sz9 (some (.int r))) RX3 (by decide +kernel) rfl rfl (by simp [Value.category]) (Nat.le_of_ble_eq_true rfl) sz ?_
  intro p e s m args below meth c C
  revert hr
  show ld_T p l e ({ frames := 3, cells := 0, slots := 0, locals := 65 }) s m args below meth c (MQ below (ld_Q w Z s.heap.size (some (.int r))) args s 0 0 (ld_A w s.heap.size)) w r (kX3_countTouched Z b a2 a3 a4 a5) Z 0 0 0 [some (.ref (ld_ad w 0)), some (.ref (ld_ad w b)), some (.int a2), some (.int a3), some (.int a4), some (.int a5), none, none, none] []
  unfold kX3_countTouched
  refine lj_iconst C (v := 0) (by decide) dX3_countTouched_0 ?_
  refine lj_istore C (lv2 := [some (.ref (ld_ad w 0)), some (.ref (ld_ad w b)), some (.int a2), some (.int a3), some (.int a4), some (.int a5), some (.int 0), none, none]) (Nat.le_of_ble_eq_true rfl) rfl dX3_countTouched_1 ?_
  refine lj_iconst C (v := 0) (by decide) dX3_countTouched_3 ?_
  refine lj_istore C (lv2 := [some (.ref (ld_ad w 0)), some (.ref (ld_ad w b)), some (.int a2), some (.int a3), some (.int a4), some (.int a5), some (.int 0), some (.int 0), none]) (Nat.le_of_ble_eq_true rfl) rfl dX3_countTouched_4 ?_
  exact bX3_countTouched_6 l w b a2 a3 a4 a5 hb C ld_fu Z 0 0
