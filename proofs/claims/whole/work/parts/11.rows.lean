section LDR
variable {p : Program} {l : Launch} {e : Env} {R : Room} {s : State} {m : MethodId} {args : Array Value} {below : List Frame} {meth : Method} {c : Code} {Q : State → Prop} {cells slots pc : Nat} {cc : ByteArray} {nL : Nat} {ret : Option FieldType} {Ts : List Cond} {own : String} {w : ld_E} {Z : ld_M} {lv : List (Option Value)} {st : List Value} {ρ : Type} {F : Option ρ} {r : ρ}
theorem lj_iconst (C : ld_C p l s m args meth c cc nL ret Ts own w) {n : Int} {v : Int32} (hv : Int32.ofInt n = v) (d : decode cc pc = .ok (.iconst n, 1))
    (k : ld_T p l e R s m args below meth c Q w r F Z cells slots (pc + 1) lv (.int v :: st)) : ld_T p l e R s m args below meth c Q w r F Z cells slots pc lv st :=
  fun hF H locs ls hP hS hL => lv_iconst C.1 C.2.1 d hv (k hF H locs ls hP hS hL)
theorem lj_bipush (C : ld_C p l s m args meth c cc nL ret Ts own w) {n : Int} {v : Int32} (hv : (Int8.ofInt n).toInt32 = v) (d : decode cc pc = .ok (.bipush n, 2))
    (k : ld_T p l e R s m args below meth c Q w r F Z cells slots (pc + 2) lv (.int v :: st)) : ld_T p l e R s m args below meth c Q w r F Z cells slots pc lv st :=
  fun hF H locs ls hP hS hL => lv_bipush C.1 C.2.1 d hv (k hF H locs ls hP hS hL)
theorem lj_sipush (C : ld_C p l s m args meth c cc nL ret Ts own w) {n : Int} {v : Int32} (hv : (Int16.ofInt n).toInt32 = v) (d : decode cc pc = .ok (.sipush n, 3))
    (k : ld_T p l e R s m args below meth c Q w r F Z cells slots (pc + 3) lv (.int v :: st)) : ld_T p l e R s m args below meth c Q w r F Z cells slots pc lv st :=
  fun hF H locs ls hP hS hL => lv_sipush C.1 C.2.1 d hv (k hF H locs ls hP hS hL)
theorem lj_lconst (C : ld_C p l s m args meth c cc nL ret Ts own w) {n : Fin 2} {v : Int64} (hv : Int64.ofNat (n : Nat) = v) (d : decode cc pc = .ok (.lconst n, 1))
    (k : ld_T p l e R s m args below meth c Q w r F Z cells slots (pc + 1) lv (.long v :: st)) : ld_T p l e R s m args below meth c Q w r F Z cells slots pc lv st :=
  fun hF H locs ls hP hS hL => lv_lconst C.1 C.2.1 d hv (k hF H locs ls hP hS hL)
theorem lj_iload_n (C : ld_C p l s m args meth c cc nL ret Ts own w) {k9 : Fin 4} {i : Nat} {x : Int32} (hi : (k9 : Nat) = i) (hx : lv[i]? = some (some (.int x))) (d : decode cc pc = .ok (.iload_n k9, 1))
    (k : ld_T p l e R s m args below meth c Q w r F Z cells slots (pc + 1) lv (.int x :: st)) : ld_T p l e R s m args below meth c Q w r F Z cells slots pc lv st :=
  fun hF H locs ls hP hS hL => lv_iload_n C.1 C.2.1 d hi (hL.2.2 _ _ hx).1 (k hF H locs ls hP hS hL)
theorem lj_iload (C : ld_C p l s m args meth c cc nL ret Ts own w) {i : Nat} {x : Int32} (hx : lv[i]? = some (some (.int x))) (d : decode cc pc = .ok (.iload i, 2))
    (k : ld_T p l e R s m args below meth c Q w r F Z cells slots (pc + 2) lv (.int x :: st)) : ld_T p l e R s m args below meth c Q w r F Z cells slots pc lv st :=
  fun hF H locs ls hP hS hL => lv_iload C.1 C.2.1 d (hL.2.2 _ _ hx).1 (k hF H locs ls hP hS hL)
theorem lj_aload_n (C : ld_C p l s m args meth c cc nL ret Ts own w) {k9 : Fin 4} {i : Nat} {x : Nat} (hi : (k9 : Nat) = i) (hx : lv[i]? = some (some (.ref x))) (d : decode cc pc = .ok (.aload_n k9, 1))
    (k : ld_T p l e R s m args below meth c Q w r F Z cells slots (pc + 1) lv (.ref x :: st)) : ld_T p l e R s m args below meth c Q w r F Z cells slots pc lv st :=
  fun hF H locs ls hP hS hL => lv_aload_n C.1 C.2.1 d hi (hL.2.2 _ _ hx).1 (k hF H locs ls hP hS hL)
theorem lj_aload (C : ld_C p l s m args meth c cc nL ret Ts own w) {i : Nat} {x : Nat} (hx : lv[i]? = some (some (.ref x))) (d : decode cc pc = .ok (.aload i, 2))
    (k : ld_T p l e R s m args below meth c Q w r F Z cells slots (pc + 2) lv (.ref x :: st)) : ld_T p l e R s m args below meth c Q w r F Z cells slots pc lv st :=
  fun hF H locs ls hP hS hL => lv_aload C.1 C.2.1 d (hL.2.2 _ _ hx).1 (k hF H locs ls hP hS hL)
theorem lj_iadd (C : ld_C p l s m args meth c cc nL ret Ts own w) {x y : Int32} (d : decode cc pc = .ok (.iadd, 1))
    (k : ld_T p l e R s m args below meth c Q w r F Z cells slots (pc + 1) lv (.int (x + y) :: st)) : ld_T p l e R s m args below meth c Q w r F Z cells slots pc lv (.int y :: .int x :: st) :=
  fun hF H locs ls hP hS hL => lv_iadd C.1 C.2.1 d (k hF H locs ls hP hS hL)
theorem lj_isub (C : ld_C p l s m args meth c cc nL ret Ts own w) {x y : Int32} (d : decode cc pc = .ok (.isub, 1))
    (k : ld_T p l e R s m args below meth c Q w r F Z cells slots (pc + 1) lv (.int (x - y) :: st)) : ld_T p l e R s m args below meth c Q w r F Z cells slots pc lv (.int y :: .int x :: st) :=
  fun hF H locs ls hP hS hL => lv_isub C.1 C.2.1 d (k hF H locs ls hP hS hL)
theorem lj_imul (C : ld_C p l s m args meth c cc nL ret Ts own w) {x y : Int32} (d : decode cc pc = .ok (.imul, 1))
    (k : ld_T p l e R s m args below meth c Q w r F Z cells slots (pc + 1) lv (.int (x * y) :: st)) : ld_T p l e R s m args below meth c Q w r F Z cells slots pc lv (.int y :: .int x :: st) :=
  fun hF H locs ls hP hS hL => lv_imul C.1 C.2.1 d (k hF H locs ls hP hS hL)
theorem lj_iand (C : ld_C p l s m args meth c cc nL ret Ts own w) {x y : Int32} (d : decode cc pc = .ok (.iand, 1))
    (k : ld_T p l e R s m args below meth c Q w r F Z cells slots (pc + 1) lv (.int (x &&& y) :: st)) : ld_T p l e R s m args below meth c Q w r F Z cells slots pc lv (.int y :: .int x :: st) :=
  fun hF H locs ls hP hS hL => lv_iand C.1 C.2.1 d (k hF H locs ls hP hS hL)
theorem lj_ineg (C : ld_C p l s m args meth c cc nL ret Ts own w) {x : Int32} (d : decode cc pc = .ok (.ineg, 1))
    (k : ld_T p l e R s m args below meth c Q w r F Z cells slots (pc + 1) lv (.int (-x) :: st)) : ld_T p l e R s m args below meth c Q w r F Z cells slots pc lv (.int x :: st) :=
  fun hF H locs ls hP hS hL => lv_ineg C.1 C.2.1 d (k hF H locs ls hP hS hL)
theorem lj_i2l (C : ld_C p l s m args meth c cc nL ret Ts own w) {x : Int32} {v : Int64} (hv : x.toInt64 = v) (d : decode cc pc = .ok (.i2l, 1))
    (k : ld_T p l e R s m args below meth c Q w r F Z cells slots (pc + 1) lv (.long v :: st)) : ld_T p l e R s m args below meth c Q w r F Z cells slots pc lv (.int x :: st) :=
  fun hF H locs ls hP hS hL => lv_i2l C.1 C.2.1 d hv (k hF H locs ls hP hS hL)
theorem lj_dup (C : ld_C p l s m args meth c cc nL ret Ts own w) {va : Value} (hc : va.category = 1) (d : decode cc pc = .ok (.dup, 1))
    (k : ld_T p l e R s m args below meth c Q w r F Z cells slots (pc + 1) lv (va :: va :: st)) : ld_T p l e R s m args below meth c Q w r F Z cells slots pc lv (va :: st) :=
  fun hF H locs ls hP hS hL => lv_dup C.1 C.2.1 d hc (k hF H locs ls hP hS hL)
theorem lj_pop (C : ld_C p l s m args meth c cc nL ret Ts own w) {va : Value} (hc : va.category = 1) (d : decode cc pc = .ok (.pop, 1))
    (k : ld_T p l e R s m args below meth c Q w r F Z cells slots (pc + 1) lv st) : ld_T p l e R s m args below meth c Q w r F Z cells slots pc lv (va :: st) :=
  fun hF H locs ls hP hS hL => lv_pop C.1 C.2.1 d hc (k hF H locs ls hP hS hL)
theorem lj_dup_x1 (C : ld_C p l s m args meth c cc nL ret Ts own w) {va vb : Value} (hc : va.category = 1) (hc2 : vb.category = 1) (d : decode cc pc = .ok (.dup_x1, 1))
    (k : ld_T p l e R s m args below meth c Q w r F Z cells slots (pc + 1) lv (va :: vb :: va :: st)) : ld_T p l e R s m args below meth c Q w r F Z cells slots pc lv (va :: vb :: st) :=
  fun hF H locs ls hP hS hL => lv_dup_x1 C.1 C.2.1 d hc hc2 (k hF H locs ls hP hS hL)
theorem lj_dup2 (C : ld_C p l s m args meth c cc nL ret Ts own w) {va vb : Value} (hc : va.category = 1) (hc2 : vb.category = 1) (d : decode cc pc = .ok (.dup2, 1))
    (k : ld_T p l e R s m args below meth c Q w r F Z cells slots (pc + 1) lv (va :: vb :: va :: vb :: st)) : ld_T p l e R s m args below meth c Q w r F Z cells slots pc lv (va :: vb :: st) :=
  fun hF H locs ls hP hS hL => lv_dup2_11 C.1 C.2.1 d hc hc2 (k hF H locs ls hP hS hL)
theorem lj_idiv (C : ld_C p l s m args meth c cc nL ret Ts own w) {x y : Int32} (d : decode cc pc = .ok (.idiv, 1)) (k : ld_T p l e R s m args below meth c Q w r F Z cells slots (pc + 1) lv (.int (x / y) :: st)) : ld_T p l e R s m args below meth c Q w r (ld_ck (decide (¬ y = 0)) F) Z cells slots pc lv (.int y :: .int x :: st) :=
  fun hF H locs ls hP hS hL => lv_idiv C.1 C.2.1 d (of_decide_eq_true (ld_ck_of hF).1) (k (ld_ck_of hF).2 H locs ls hP hS hL)
theorem lj_irem (C : ld_C p l s m args meth c cc nL ret Ts own w) {x y : Int32} (d : decode cc pc = .ok (.irem, 1)) (k : ld_T p l e R s m args below meth c Q w r F Z cells slots (pc + 1) lv (.int (x - x / y * y) :: st)) : ld_T p l e R s m args below meth c Q w r (ld_ck (decide (¬ y = 0)) F) Z cells slots pc lv (.int y :: .int x :: st) :=
  fun hF H locs ls hP hS hL => lv_irem C.1 C.2.1 d (of_decide_eq_true (ld_ck_of hF).1) (k (ld_ck_of hF).2 H locs ls hP hS hL)
theorem lj_istore_n (C : ld_C p l s m args meth c cc nL ret Ts own w) {k9 : Fin 4} {i : Nat} (h9 : (k9 : Nat) = i) {x : Int32} {lv2 : List (Option Value)} (hi : i < lv.length) (h2 : lv.set i (some (.int x)) = lv2) (d : decode cc pc = .ok (.istore_n k9, 1)) (k : ld_T p l e R s m args below meth c Q w r F Z cells slots (pc + 1) lv2 st) : ld_T p l e R s m args below meth c Q w r F Z cells slots pc lv (.int x :: st) := by
  intro hF H locs ls hP hS hL
  obtain ⟨ls2, e2, hL2⟩ := ld_L_store (v := .int x) hL hi rfl
  rw [h2] at hL2
  obtain ⟨hexec, hb, -⟩ := C
  subst h9
  intro T9 hT X
  obtain ⟨t, a, b⟩ := k hF H locs ls2 hP hS hL2 T9 hT X
  refine ⟨t, ?_, b⟩
  jvm_step X.here [X.here.top, ↓top_set X.here.top, hexec, hb, d, e2]
  exact a
theorem lj_istore (C : ld_C p l s m args meth c cc nL ret Ts own w) {i : Nat} {x : Int32} {lv2 : List (Option Value)} (hi : i < lv.length) (h2 : lv.set i (some (.int x)) = lv2) (d : decode cc pc = .ok (.istore i, 2)) (k : ld_T p l e R s m args below meth c Q w r F Z cells slots (pc + 2) lv2 st) : ld_T p l e R s m args below meth c Q w r F Z cells slots pc lv (.int x :: st) := by
  intro hF H locs ls hP hS hL
  obtain ⟨ls2, e2, hL2⟩ := ld_L_store (v := .int x) hL hi rfl
  rw [h2] at hL2
  obtain ⟨hexec, hb, -⟩ := C
  intro T9 hT X
  obtain ⟨t, a, b⟩ := k hF H locs ls2 hP hS hL2 T9 hT X
  refine ⟨t, ?_, b⟩
  jvm_step X.here [X.here.top, ↓top_set X.here.top, hexec, hb, d, e2]
  exact a
theorem lj_astore_n (C : ld_C p l s m args meth c cc nL ret Ts own w) {k9 : Fin 4} {i : Nat} (h9 : (k9 : Nat) = i) {x : Nat} {lv2 : List (Option Value)} (hi : i < lv.length) (h2 : lv.set i (some (.ref x)) = lv2) (d : decode cc pc = .ok (.astore_n k9, 1)) (k : ld_T p l e R s m args below meth c Q w r F Z cells slots (pc + 1) lv2 st) : ld_T p l e R s m args below meth c Q w r F Z cells slots pc lv (.ref x :: st) := by
  intro hF H locs ls hP hS hL
  obtain ⟨ls2, e2, hL2⟩ := ld_L_store (v := .ref x) hL hi rfl
  rw [h2] at hL2
  obtain ⟨hexec, hb, -⟩ := C
  subst h9
  intro T9 hT X
  obtain ⟨t, a, b⟩ := k hF H locs ls2 hP hS hL2 T9 hT X
  refine ⟨t, ?_, b⟩
  jvm_step X.here [X.here.top, ↓top_set X.here.top, hexec, hb, d, e2, Value.isRef]
  exact a
theorem lj_astore (C : ld_C p l s m args meth c cc nL ret Ts own w) {i : Nat} {x : Nat} {lv2 : List (Option Value)} (hi : i < lv.length) (h2 : lv.set i (some (.ref x)) = lv2) (d : decode cc pc = .ok (.astore i, 2)) (k : ld_T p l e R s m args below meth c Q w r F Z cells slots (pc + 2) lv2 st) : ld_T p l e R s m args below meth c Q w r F Z cells slots pc lv (.ref x :: st) := by
  intro hF H locs ls hP hS hL
  obtain ⟨ls2, e2, hL2⟩ := ld_L_store (v := .ref x) hL hi rfl
  rw [h2] at hL2
  obtain ⟨hexec, hb, -⟩ := C
  intro T9 hT X
  obtain ⟨t, a, b⟩ := k hF H locs ls2 hP hS hL2 T9 hT X
  refine ⟨t, ?_, b⟩
  jvm_step X.here [X.here.top, ↓top_set X.here.top, hexec, hb, d, e2, Value.isRef]
  exact a
theorem lj_iinc (C : ld_C p l s m args meth c cc nL ret Ts own w) {i : Nat} {n : Int} {x v : Int32} {lv2 : List (Option Value)} (hx : lv[i]? = some (some (.int x))) (hv : x + Int32.ofInt n = v) (h2 : lv.set i (some (.int v)) = lv2) (d : decode cc pc = .ok (.iinc i n, 3)) (k : ld_T p l e R s m args below meth c Q w r F Z cells slots (pc + 3) lv2 st) : ld_T p l e R s m args below meth c Q w r F Z cells slots pc lv st := by
  intro hF H locs ls hP hS hL
  subst hv
  have hi : i < lv.length := (List.getElem?_eq_some_iff.mp hx).1
  have hg := (hL.2.2 _ _ hx).1
  obtain ⟨ls2, e2, hL2⟩ := ld_L_store (v := .int (x + Int32.ofInt n)) hL hi rfl
  rw [h2] at hL2
  obtain ⟨hexec, hb, -⟩ := C
  intro T9 hT X
  obtain ⟨t, a, b⟩ := k hF H locs ls2 hP hS hL2 T9 hT X
  refine ⟨t, ?_, b⟩
  jvm_step X.here [X.here.top, ↓top_set X.here.top, hexec, hb, d, hg, e2]
  exact a
theorem lj_if_eq (C : ld_C p l s m args meth c cc nL ret Ts own w) {x : Int32} {off : Int} {tgt : Nat} {G1 G2 : Option ρ} (d : decode cc pc = .ok (.ifCond .eq off, 3)) (ht : (pc : Int) + off = (tgt : Int)) (kt : ld_T p l e R s m args below meth c Q w r G1 Z cells slots tgt lv st) (kf : ld_T p l e R s m args below meth c Q w r G2 Z cells slots (pc + 3) lv st) : ld_T p l e R s m args below meth c Q w r (if x = 0 then G1 else G2) Z cells slots pc lv (.int x :: st) :=
  fun hF H locs ls hP hS hL => lv_if_eq C.1 C.2.1 d ht (fun q => kt (by rw [if_pos q] at hF; exact hF) H locs ls hP hS hL) (fun q => kf (by rw [if_neg q] at hF; exact hF) H locs ls hP hS hL)
theorem lj_if_ne (C : ld_C p l s m args meth c cc nL ret Ts own w) {x : Int32} {off : Int} {tgt : Nat} {G1 G2 : Option ρ} (d : decode cc pc = .ok (.ifCond .ne off, 3)) (ht : (pc : Int) + off = (tgt : Int)) (kt : ld_T p l e R s m args below meth c Q w r G2 Z cells slots tgt lv st) (kf : ld_T p l e R s m args below meth c Q w r G1 Z cells slots (pc + 3) lv st) : ld_T p l e R s m args below meth c Q w r (if x = 0 then G1 else G2) Z cells slots pc lv (.int x :: st) :=
  fun hF H locs ls hP hS hL => lv_if_ne C.1 C.2.1 d ht (fun q => kt (by rw [if_neg q] at hF; exact hF) H locs ls hP hS hL) (fun q => kf (by rw [if_pos q] at hF; exact hF) H locs ls hP hS hL)
theorem lj_if_lt (C : ld_C p l s m args meth c cc nL ret Ts own w) {x : Int32} {off : Int} {tgt : Nat} {G1 G2 : Option ρ} (d : decode cc pc = .ok (.ifCond .lt off, 3)) (ht : (pc : Int) + off = (tgt : Int)) (kt : ld_T p l e R s m args below meth c Q w r G1 Z cells slots tgt lv st) (kf : ld_T p l e R s m args below meth c Q w r G2 Z cells slots (pc + 3) lv st) : ld_T p l e R s m args below meth c Q w r (if x < 0 then G1 else G2) Z cells slots pc lv (.int x :: st) :=
  fun hF H locs ls hP hS hL => lv_if_lt C.1 C.2.1 d ht (fun q => kt (by rw [if_pos q] at hF; exact hF) H locs ls hP hS hL) (fun q => kf (by rw [if_neg q] at hF; exact hF) H locs ls hP hS hL)
theorem lj_if_ge (C : ld_C p l s m args meth c cc nL ret Ts own w) {x : Int32} {off : Int} {tgt : Nat} {G1 G2 : Option ρ} (d : decode cc pc = .ok (.ifCond .ge off, 3)) (ht : (pc : Int) + off = (tgt : Int)) (kt : ld_T p l e R s m args below meth c Q w r G1 Z cells slots tgt lv st) (kf : ld_T p l e R s m args below meth c Q w r G2 Z cells slots (pc + 3) lv st) : ld_T p l e R s m args below meth c Q w r (if 0 ≤ x then G1 else G2) Z cells slots pc lv (.int x :: st) :=
  fun hF H locs ls hP hS hL => lv_if_ge C.1 C.2.1 d ht (fun q => kt (by rw [if_pos q] at hF; exact hF) H locs ls hP hS hL) (fun q => kf (by rw [if_neg q] at hF; exact hF) H locs ls hP hS hL)
theorem lj_if_gt (C : ld_C p l s m args meth c cc nL ret Ts own w) {x : Int32} {off : Int} {tgt : Nat} {G1 G2 : Option ρ} (d : decode cc pc = .ok (.ifCond .gt off, 3)) (ht : (pc : Int) + off = (tgt : Int)) (kt : ld_T p l e R s m args below meth c Q w r G1 Z cells slots tgt lv st) (kf : ld_T p l e R s m args below meth c Q w r G2 Z cells slots (pc + 3) lv st) : ld_T p l e R s m args below meth c Q w r (if 0 < x then G1 else G2) Z cells slots pc lv (.int x :: st) :=
  fun hF H locs ls hP hS hL => lv_if_gt C.1 C.2.1 d ht (fun q => kt (by rw [if_pos q] at hF; exact hF) H locs ls hP hS hL) (fun q => kf (by rw [if_neg q] at hF; exact hF) H locs ls hP hS hL)
theorem lj_if_le (C : ld_C p l s m args meth c cc nL ret Ts own w) {x : Int32} {off : Int} {tgt : Nat} {G1 G2 : Option ρ} (d : decode cc pc = .ok (.ifCond .le off, 3)) (ht : (pc : Int) + off = (tgt : Int)) (kt : ld_T p l e R s m args below meth c Q w r G1 Z cells slots tgt lv st) (kf : ld_T p l e R s m args below meth c Q w r G2 Z cells slots (pc + 3) lv st) : ld_T p l e R s m args below meth c Q w r (if x ≤ 0 then G1 else G2) Z cells slots pc lv (.int x :: st) :=
  fun hF H locs ls hP hS hL => lv_if_le C.1 C.2.1 d ht (fun q => kt (by rw [if_pos q] at hF; exact hF) H locs ls hP hS hL) (fun q => kf (by rw [if_neg q] at hF; exact hF) H locs ls hP hS hL)
theorem lj_icmp_eq (C : ld_C p l s m args meth c cc nL ret Ts own w) {x y : Int32} {off : Int} {tgt : Nat} {G1 G2 : Option ρ} (d : decode cc pc = .ok (.if_icmp .eq off, 3)) (ht : (pc : Int) + off = (tgt : Int)) (kt : ld_T p l e R s m args below meth c Q w r G1 Z cells slots tgt lv st) (kf : ld_T p l e R s m args below meth c Q w r G2 Z cells slots (pc + 3) lv st) : ld_T p l e R s m args below meth c Q w r (if x = y then G1 else G2) Z cells slots pc lv (.int y :: .int x :: st) :=
  fun hF H locs ls hP hS hL => lv_icmp_eq C.1 C.2.1 d ht (fun q => kt (by rw [if_pos q] at hF; exact hF) H locs ls hP hS hL) (fun q => kf (by rw [if_neg q] at hF; exact hF) H locs ls hP hS hL)
theorem lj_icmp_ne (C : ld_C p l s m args meth c cc nL ret Ts own w) {x y : Int32} {off : Int} {tgt : Nat} {G1 G2 : Option ρ} (d : decode cc pc = .ok (.if_icmp .ne off, 3)) (ht : (pc : Int) + off = (tgt : Int)) (kt : ld_T p l e R s m args below meth c Q w r G2 Z cells slots tgt lv st) (kf : ld_T p l e R s m args below meth c Q w r G1 Z cells slots (pc + 3) lv st) : ld_T p l e R s m args below meth c Q w r (if x = y then G1 else G2) Z cells slots pc lv (.int y :: .int x :: st) :=
  fun hF H locs ls hP hS hL => lv_icmp_ne C.1 C.2.1 d ht (fun q => kt (by rw [if_neg q] at hF; exact hF) H locs ls hP hS hL) (fun q => kf (by rw [if_pos q] at hF; exact hF) H locs ls hP hS hL)
theorem lj_icmp_lt (C : ld_C p l s m args meth c cc nL ret Ts own w) {x y : Int32} {off : Int} {tgt : Nat} {G1 G2 : Option ρ} (d : decode cc pc = .ok (.if_icmp .lt off, 3)) (ht : (pc : Int) + off = (tgt : Int)) (kt : ld_T p l e R s m args below meth c Q w r G1 Z cells slots tgt lv st) (kf : ld_T p l e R s m args below meth c Q w r G2 Z cells slots (pc + 3) lv st) : ld_T p l e R s m args below meth c Q w r (if x < y then G1 else G2) Z cells slots pc lv (.int y :: .int x :: st) :=
  fun hF H locs ls hP hS hL => lv_icmp_lt C.1 C.2.1 d ht (fun q => kt (by rw [if_pos q] at hF; exact hF) H locs ls hP hS hL) (fun q => kf (by rw [if_neg q] at hF; exact hF) H locs ls hP hS hL)
theorem lj_icmp_ge (C : ld_C p l s m args meth c cc nL ret Ts own w) {x y : Int32} {off : Int} {tgt : Nat} {G1 G2 : Option ρ} (d : decode cc pc = .ok (.if_icmp .ge off, 3)) (ht : (pc : Int) + off = (tgt : Int)) (kt : ld_T p l e R s m args below meth c Q w r G1 Z cells slots tgt lv st) (kf : ld_T p l e R s m args below meth c Q w r G2 Z cells slots (pc + 3) lv st) : ld_T p l e R s m args below meth c Q w r (if y ≤ x then G1 else G2) Z cells slots pc lv (.int y :: .int x :: st) :=
  fun hF H locs ls hP hS hL => lv_icmp_ge C.1 C.2.1 d ht (fun q => kt (by rw [if_pos q] at hF; exact hF) H locs ls hP hS hL) (fun q => kf (by rw [if_neg q] at hF; exact hF) H locs ls hP hS hL)
theorem lj_icmp_gt (C : ld_C p l s m args meth c cc nL ret Ts own w) {x y : Int32} {off : Int} {tgt : Nat} {G1 G2 : Option ρ} (d : decode cc pc = .ok (.if_icmp .gt off, 3)) (ht : (pc : Int) + off = (tgt : Int)) (kt : ld_T p l e R s m args below meth c Q w r G1 Z cells slots tgt lv st) (kf : ld_T p l e R s m args below meth c Q w r G2 Z cells slots (pc + 3) lv st) : ld_T p l e R s m args below meth c Q w r (if y < x then G1 else G2) Z cells slots pc lv (.int y :: .int x :: st) :=
  fun hF H locs ls hP hS hL => lv_icmp_gt C.1 C.2.1 d ht (fun q => kt (by rw [if_pos q] at hF; exact hF) H locs ls hP hS hL) (fun q => kf (by rw [if_neg q] at hF; exact hF) H locs ls hP hS hL)
theorem lj_icmp_le (C : ld_C p l s m args meth c cc nL ret Ts own w) {x y : Int32} {off : Int} {tgt : Nat} {G1 G2 : Option ρ} (d : decode cc pc = .ok (.if_icmp .le off, 3)) (ht : (pc : Int) + off = (tgt : Int)) (kt : ld_T p l e R s m args below meth c Q w r G1 Z cells slots tgt lv st) (kf : ld_T p l e R s m args below meth c Q w r G2 Z cells slots (pc + 3) lv st) : ld_T p l e R s m args below meth c Q w r (if x ≤ y then G1 else G2) Z cells slots pc lv (.int y :: .int x :: st) :=
  fun hF H locs ls hP hS hL => lv_icmp_le C.1 C.2.1 d ht (fun q => kt (by rw [if_pos q] at hF; exact hF) H locs ls hP hS hL) (fun q => kf (by rw [if_neg q] at hF; exact hF) H locs ls hP hS hL)
theorem lj_goto (C : ld_C p l s m args meth c cc nL ret Ts own w) {off : Int} {tgt : Nat} (d : decode cc pc = .ok (.goto off, 3)) (ht : (pc : Int) + off = (tgt : Int)) (k : ld_T p l e R s m args below meth c Q w r F Z cells slots tgt lv st) : ld_T p l e R s m args below meth c Q w r F Z cells slots pc lv st :=
  fun hF H locs ls hP hS hL => lv_goto C.1 C.2.1 d ht (k hF H locs ls hP hS hL)
theorem lj_get (C : ld_C p l s m args meth c cc nL ret Ts own w) {ref Cn : String} {Tb : u_T} {N ci index i kk : Nat} {G : (Nat → Int32) → List Value} (hi : i < 87) (he : ∀ z, ld_cell w i z = .inr (ci, G z)) (hc : vwCl[ci]? = some (Cn, Tb, N)) (hin : ∀ q ∈ u_ws Cn Tb N, q ∈ Ts) (hk : kk < N) (hlink : Cond.fieldLink own index ref (Tb kk).2.1 (Tb kk).2.2.1 ∈ Ts) (hsame : (Tb kk).1 = ref) {v : Value} (hv : (G (Z i))[kk]? = some v) (d : decode cc pc = .ok (.getfield index, 3)) (k : ld_T p l e R s m args below meth c Q w r F Z cells slots (pc + 3) lv (v :: st)) : ld_T p l e R s m args below meth c Q w r F Z cells slots pc lv (.ref (ld_ad w i) :: st) :=
  fun hF H locs ls hP hS hL => va_get (D := w.1) (cl := vwCl) (ci := ci) (C := Cn) (T := Tb) (N := N) C.1 C.2.1 C.2.2.2.2.1 hin C.2.2.2.1 C.2.2.2.2.2.1 hP i ((ld_at hi).trans (by rw [he])) hc kk hk (C.2.2.2.2.1 _ hlink) (fun x h => by rw [← hsame]; exact h) hv d (k hF H locs ls hP hS hL)
theorem lj_put (C : ld_C p l s m args meth c cc nL ret Ts own w) {ref Cn : String} {Tb : u_T} {N ci index i kk : Nat} {G : (Nat → Int32) → List Value} (hi : i < 87) (he : ∀ z, ld_cell w i z = .inr (ci, G z)) (hc : vwCl[ci]? = some (Cn, Tb, N)) (hin : ∀ q ∈ u_ws Cn Tb N, q ∈ Ts) (hk : kk < N) (hlink : Cond.fieldLink own index ref (Tb kk).2.1 (Tb kk).2.2.1 ∈ Ts) (hsame : (Tb kk).1 = ref) (ty0 : Nat → FieldType) (hty : ∀ k, k < N → parseFieldDescriptor (Tb k).2.2.1 = some (ty0 k)) (hnm : ∀ a, a < N → ∀ b, b < N → a ≠ b → (Tb a).2.1 ≠ (Tb b).2.1) {x : Int32} (hfin : (Tb kk).2.2.2 = false) (hd : parseFieldDescriptor (Tb kk).2.2.1 = some .int) (hl : kk < (G (Z i)).length) (hset : (G (Z i)).set kk (.int x) = G (upd (Z i) kk x)) (d : decode cc pc = .ok (.putfield index, 3)) (k : ld_T p l e R s m args below meth c Q w r F (ld_up Z i kk x) cells slots (pc + 3) lv st) : ld_T p l e R s m args below meth c Q w r F Z cells slots pc lv (.int x :: .ref (ld_ad w i) :: st) :=
  fun hF H locs ls hP hS hL => va_put (D := w.1) (cl := vwCl) (A := ld_A w s.heap.size) (ci := ci) (v := .int x) (ty := .int) (C := Cn) (T := Tb) (N := N) C.1 C.2.1 C.2.2.2.2.1 hin ty0 hty hnm C.2.2.2.1 C.2.2.2.2.2.1 hP (ld_DA C.2.2.2.2.2.2.2.2.2.2 _ Z) hS i ((ld_at hi).trans (by rw [he])) hc kk hk (C.2.2.2.2.1 _ hlink) (fun x h => by rw [← hsame]; exact h) hfin hd rfl rfl hl d (fun H1 locs1 hP1 _ hS1 => k hF H1 locs1 ls (by rw [hset, ← he, ld_set hi] at hP1; exact hP1) hS1 hL)
theorem lj_iald (C : ld_C p l s m args meth c cc nL ret Ts own w) {i n : Nat} {x : Int32} (hi : i < 87) (he : ∀ z, ld_cell w i z = .inl (w.2.1 0, n, .inl z)) (d : decode cc pc = .ok (.iaload, 1)) (k : ld_T p l e R s m args below meth c Q w r F Z cells slots (pc + 1) lv (.int (Z i x.toNatClampNeg) :: st)) : ld_T p l e R s m args below meth c Q w r (ld_ck (ld_g x n) F) Z cells slots pc lv (.int x :: .ref (ld_ad w i) :: st) :=
  fun hF H locs ls hP hS hL => va_iald (D := w.1) (cl := vwCl) (tys := ld_tys w) C.1 C.2.1 C.2.2.2.2.2.1 hP i 0 ((ld_at hi).trans (by rw [he])) rfl (ld_g_in (ld_ck_of hF).1) d (k (ld_ck_of hF).2 H locs ls hP hS hL)
theorem lj_zald (C : ld_C p l s m args meth c cc nL ret Ts own w) {i n : Nat} {x : Int32} (hi : i < 87) (he : ∀ z, ld_cell w i z = .inl (w.2.1 1, n, .inl z)) (d : decode cc pc = .ok (.baload, 1)) (k : ld_T p l e R s m args below meth c Q w r F Z cells slots (pc + 1) lv (.int (Z i x.toNatClampNeg) :: st)) : ld_T p l e R s m args below meth c Q w r (ld_ck (ld_g x n) F) Z cells slots pc lv (.int x :: .ref (ld_ad w i) :: st) :=
  fun hF H locs ls hP hS hL => va_zald (D := w.1) (cl := vwCl) (tys := ld_tys w) C.1 C.2.1 C.2.2.2.2.2.1 hP i 1 ((ld_at hi).trans (by rw [he])) rfl (ld_g_in (ld_ck_of hF).1) d (k (ld_ck_of hF).2 H locs ls hP hS hL)
theorem lj_iast (C : ld_C p l s m args meth c cc nL ret Ts own w) {i n : Nat} {x y : Int32} (hi : i < 87) (he : ∀ z, ld_cell w i z = .inl (w.2.1 0, n, .inl z)) (d : decode cc pc = .ok (.iastore, 1)) (k : ld_T p l e R s m args below meth c Q w r F (ld_up Z i x.toNatClampNeg y) cells slots (pc + 1) lv st) : ld_T p l e R s m args below meth c Q w r (ld_ck (ld_g x n) F) Z cells slots pc lv (.int y :: .int x :: .ref (ld_ad w i) :: st) :=
  fun hF H locs ls hP hS hL => va_iast (D := w.1) (cl := vwCl) (tys := ld_tys w) (A := ld_A w s.heap.size) C.1 C.2.1 C.2.2.2.2.2.1 hP (ld_DA C.2.2.2.2.2.2.2.2.2.2 _ Z) hS i 0 ((ld_at hi).trans (by rw [he])) rfl (ld_g_in (ld_ck_of hF).1) d (fun H1 locs1 hP1 _ hS1 => k (ld_ck_of hF).2 H1 locs1 ls (by rw [← he, ld_set hi] at hP1; exact hP1) hS1 hL)
theorem lj_zast (C : ld_C p l s m args meth c cc nL ret Ts own w) {i n : Nat} {x y : Int32} (hi : i < 87) (he : ∀ z, ld_cell w i z = .inl (w.2.1 1, n, .inl z)) (d : decode cc pc = .ok (.bastore, 1)) (k : ld_T p l e R s m args below meth c Q w r F (ld_up Z i x.toNatClampNeg y) cells slots (pc + 1) lv st) : ld_T p l e R s m args below meth c Q w r (ld_ck (ld_g x n && ld_b y) F) Z cells slots pc lv (.int y :: .int x :: .ref (ld_ad w i) :: st) :=
  fun hF H locs ls hP hS hL => by
    have h1 := (ld_ck_of hF).1
    rw [Bool.and_eq_true] at h1
    refine va_zast (D := w.1) (cl := vwCl) (tys := ld_tys w) (A := ld_A w s.heap.size) C.1 C.2.1 C.2.2.2.2.2.1 hP (ld_DA C.2.2.2.2.2.2.2.2.2.2 _ Z) hS i 1 ((ld_at hi).trans (by rw [he])) rfl (ld_g_in h1.1) d (fun H1 locs1 hP1 _ hS1 => k (ld_ck_of hF).2 H1 locs1 ls ?_ hS1 hL)
    rw [(ld_b_nar h1.2).2.1, ← he, ld_set hi] at hP1
    exact hP1
theorem lj_lald (C : ld_C p l s m args meth c cc nL ret Ts own w) {i : Nat} {x : Int32} (hi : i = 86) (d : decode cc pc = .ok (.laload, 1)) (k : ld_T p l e R s m args below meth c Q w r F Z cells slots (pc + 1) lv (.long (Z i x.toNatClampNeg).toInt64 :: st)) : ld_T p l e R s m args below meth c Q w r (ld_ck (ld_g x 1) F) Z cells slots pc lv (.int x :: .ref (ld_ad w i) :: st) :=
  fun hF H locs ls hP hS hL => by
    subst hi
    exact va_lald (D := w.1) (cl := vwCl) (tys := ld_tys w) (f := fun j => (Z 86 j).toInt64) (n := 1) C.1 C.2.1 C.2.2.2.2.2.1 hP 86 2 (ld_at (by decide)) rfl (ld_g_in (ld_ck_of hF).1) d (k (ld_ck_of hF).2 H locs ls hP hS hL)
theorem lj_last (C : ld_C p l s m args meth c cc nL ret Ts own w) {i : Nat} {x y : Int32} {v : Int64} (hv : v = y.toInt64) (hi : i = 86) (d : decode cc pc = .ok (.lastore, 1)) (k : ld_T p l e R s m args below meth c Q w r F (ld_up Z i x.toNatClampNeg y) cells slots (pc + 1) lv st) : ld_T p l e R s m args below meth c Q w r (ld_ck (ld_g x 1) F) Z cells slots pc lv (.long v :: .int x :: .ref (ld_ad w i) :: st) :=
  fun hF H locs ls hP hS hL => by
    subst hi
    subst hv
    have hz : ∀ f : Nat → Int32, vp_updL (fun j => (f j).toInt64) x.toNatClampNeg y.toInt64 = fun j => (upd f x.toNatClampNeg y j).toInt64 := fun f => funext fun j => by
      simp only [vp_updL, upd]
      by_cases hj : j = x.toNatClampNeg
      · rw [if_pos hj, if_pos hj]
      · rw [if_neg hj, if_neg hj]
    refine va_last (D := w.1) (cl := vwCl) (tys := ld_tys w) (f := fun j => (Z 86 j).toInt64) (n := 1) (A := ld_A w s.heap.size) C.1 C.2.1 C.2.2.2.2.2.1 hP (ld_DA C.2.2.2.2.2.2.2.2.2.2 _ Z) hS 86 2 (ld_at (by decide)) rfl (ld_g_in (ld_ck_of hF).1) d (fun H1 locs1 hP1 _ hS1 => k (ld_ck_of hF).2 H1 locs1 ls ?_ hS1 hL)
    rw [hz] at hP1
    have h9 : (ld_W w Z).set 86 (ld_ad w 86, ld_cell w 86 (upd (Z 86) x.toNatClampNeg y)) = ld_W w (ld_up Z 86 x.toNatClampNeg y) := ld_set (by decide)
    rw [← h9]
    exact hP1
theorem lj_aald (C : ld_C p l s m args meth c cc nL ret Ts own w) {i n b : Nat} {x : Int32} (hi : i < 87) (he : ∀ z, ld_cell w i z = .inl (w.2.1 3, n, .inr (.inr (.inr (.inr (fun j => some (ld_ad w (b + j)))))))) (d : decode cc pc = .ok (.aaload, 1)) (k : x.toNatClampNeg < n → ld_T p l e R s m args below meth c Q w r F Z cells slots (pc + 1) lv (.ref (ld_ad w (b + x.toNatClampNeg)) :: st)) : ld_T p l e R s m args below meth c Q w r (ld_ck (ld_g x n) F) Z cells slots pc lv (.int x :: .ref (ld_ad w i) :: st) :=
  fun hF H locs ls hP hS hL => by
    have hg := (ld_ck_of hF).1
    have hlt := ld_g_lt hg
    have hin := ld_g_in hg
    have ha := hP i _ ((ld_at hi).trans (by rw [he]))
    have hK := C.2.2.2.2.2.1
    exact W.aald (v := va_rf ((fun j => some (ld_ad w (b + j))) x.toNatClampNeg)) (ty := .array .int) C.1 C.2.1 ha ((hK.2 3 _ rfl).1 n (fun j => va_rf ((fun j => some (ld_ad w (b + j))) j))) rfl (fun q => by cases q) (by show ¬ (x < 0 ∨ (arrV _ _ _).slots.size ≤ _); rw [arrV_size]; exact hin) (by show (arrV _ _ _).slots[_]? = _; rw [arrV_read _ _ hlt]) rfl rfl d (k hlt (ld_ck_of hF).2 H locs ls hP hS hL)
theorem lj_max (C : ld_C p l s m args meth c cc nL ret Ts own w) {index : Nat} {x y : Int32} (hlen : lv.length = nL) (hlink : Cond.methodLink own index Lib.Math.max.name ∈ Ts) (hstat : Cond.static Lib.Math.max.name ∈ Ts) (hini : Cond.initialized "java/lang/Math" ∈ Ts) (hcode : Cond.code Lib.Math.max.name Lib.Math.max.code 2 (some .int) ∈ Ts) (hframes : 1 ≤ R.frames) (hlocals : (st.map fun v => v.category).sum + 13 ≤ R.locals) (hc : cells ≤ R.cells) (hs : slots ≤ R.slots) (d : decode cc pc = .ok (.invokestatic index, 3)) (k : ld_T p l e R s m args below meth c Q w r F Z cells slots (pc + 3) lv (.int (if x < y then y else x) :: st)) : ld_T p l e R s m args below meth c Q w r F Z cells slots pc lv (.int y :: .int x :: st) :=
  fun hF H locs ls hP hS hL => va_mmax C.1 C.2.1 (C.2.2.1.trans (hlen.symm.trans hL.1.symm)) C.2.2.2.1 (C.2.2.2.2.1 _ hlink) (C.2.2.2.2.1 _ hstat) (C.2.2.2.2.1 _ hini) (C.2.2.2.2.1 _ hcode) hframes hlocals hc hs d (k hF H locs ls hP hS hL)
theorem lj_min (C : ld_C p l s m args meth c cc nL ret Ts own w) {index : Nat} {x y : Int32} (hlen : lv.length = nL) (hlink : Cond.methodLink own index Lib.Math.min.name ∈ Ts) (hstat : Cond.static Lib.Math.min.name ∈ Ts) (hini : Cond.initialized "java/lang/Math" ∈ Ts) (hcode : Cond.code Lib.Math.min.name Lib.Math.min.code 2 (some .int) ∈ Ts) (hframes : 1 ≤ R.frames) (hlocals : (st.map fun v => v.category).sum + 13 ≤ R.locals) (hc : cells ≤ R.cells) (hs : slots ≤ R.slots) (d : decode cc pc = .ok (.invokestatic index, 3)) (k : ld_T p l e R s m args below meth c Q w r F Z cells slots (pc + 3) lv (.int (if y < x then y else x) :: st)) : ld_T p l e R s m args below meth c Q w r F Z cells slots pc lv (.int y :: .int x :: st) :=
  fun hF H locs ls hP hS hL => va_mmin C.1 C.2.1 (C.2.2.1.trans (hlen.symm.trans hL.1.symm)) C.2.2.2.1 (C.2.2.2.2.1 _ hlink) (C.2.2.2.2.1 _ hstat) (C.2.2.2.2.1 _ hini) (C.2.2.2.2.1 _ hcode) hframes hlocals hc hs d (k hF H locs ls hP hS hL)
/-- a value gets a name -/
theorem lj_nm {x : Int32} (k : ∀ y : Int32, y = x → ld_T p l e R s m args below meth c Q w r F Z cells slots pc lv (.int y :: st)) : ld_T p l e R s m args below meth c Q w r F Z cells slots pc lv (.int x :: st) := k x rfl
theorem lj_eq {F2 : Option ρ} (h : F = F2) (k : ld_T p l e R s m args below meth c Q w r F2 Z cells slots pc lv st) : ld_T p l e R s m args below meth c Q w r F Z cells slots pc lv st := h ▸ k
theorem lj_wide {k n : Nat} (h1 : cells ≤ k) (h2 : slots ≤ n) (kk : ld_T p l e R s m args below meth c Q w r F Z k n pc lv st) : ld_T p l e R s m args below meth c Q w r F Z cells slots pc lv st := fun hF H locs ls hP hS hL => W.widen h1 h2 (kk hF H locs ls hP hS hL)
/-- fewer locals are known -/
def ld_le : List (Option Value) → List (Option Value) → Prop | [], [] => True | a :: l, b :: k => (b = none ∨ b = a) ∧ ld_le l k | _, _ => False
theorem ld_le_len : ∀ {l k : List (Option Value)}, ld_le l k → k.length = l.length
  | [], [], _ => rfl
  | _ :: l, _ :: k, h => by rw [List.length_cons, List.length_cons, ld_le_len h.2]
  | [], _ :: _, h => h.elim
  | _ :: _, [], h => h.elim
theorem ld_le_at : ∀ {l k : List (Option Value)}, ld_le l k → ∀ (i : Nat) (v : Value), k[i]? = some (some v) → l[i]? = some (some v)
  | a :: l, b :: k, h, 0, v, e => by
    rw [List.getElem?_cons_zero] at e ⊢
    rcases h.1 with q | q
    · rw [q] at e; cases e
    · rw [← q]; exact e
  | _ :: l, _ :: k, h, i + 1, v, e => by
    rw [List.getElem?_cons_succ] at e ⊢
    exact ld_le_at h.2 i v e
  | [], [], _, i, v, e => by simp at e
theorem lj_forget {lv2 : List (Option Value)} (h : ld_le lv lv2) (k : ld_T p l e R s m args below meth c Q w r F Z cells slots pc lv2 st) : ld_T p l e R s m args below meth c Q w r F Z cells slots pc lv st := fun hF H locs ls hP hS hL => k hF H locs ls hP hS ⟨hL.1.trans (ld_le_len h).symm, hL.2.1, fun i v e => hL.2.2 i v (ld_le_at h i v e)⟩
theorem lj_sw2 (C : ld_C p l s m args meth c cc nL ret Ts own w) {x : Int32} {dflt o0 o1 : Int} {len t0 t1 t2 : Nat} {G0 G1 G2 : Option ρ} (d : decode cc pc = .ok (.lookupswitch dflt #[(0, o0), (1, o1)], len)) (h0 : (pc : Int) + o0 = (t0 : Int)) (h1 : (pc : Int) + o1 = (t1 : Int)) (h2 : (pc : Int) + dflt = (t2 : Int)) (k0 : ld_T p l e R s m args below meth c Q w r G0 Z cells slots t0 lv st) (k1 : ld_T p l e R s m args below meth c Q w r G1 Z cells slots t1 lv st) (k2 : ld_T p l e R s m args below meth c Q w r G2 Z cells slots t2 lv st) : ld_T p l e R s m args below meth c Q w r (if x = 0 then G0 else if x = 1 then G1 else G2) Z cells slots pc lv (.int x :: st) := by
  intro hF H locs ls hP hS hL
  by_cases g0 : x = 0
  · rw [if_pos g0] at hF
    exact lv_lookup C.1 C.2.1 d (by simp) (by subst g0; rfl) h0 (k0 hF H locs ls hP hS hL)
  · rw [if_neg g0] at hF
    by_cases g1 : x = 1
    · rw [if_pos g1] at hF
      exact lv_lookup C.1 C.2.1 d (by simp) (by subst g1; rfl) h1 (k1 hF H locs ls hP hS hL)
    · rw [if_neg g1] at hF
      refine lv_lookup C.1 C.2.1 d (by simp) ?_ h2 (k2 hF H locs ls hP hS hL)
      show Op.lookupswitch.offset [(0, o0), (1, o1)] dflt x.toInt = dflt
      exact (lv_osw (a := 0) (k := 0) g0 (by decide)).trans ((lv_osw (a := 1) (k := 1) g1 (by decide)).trans rfl)
end LDR
