/-! the makers: worlds as lists -/
def ld_C0 (p : Program) (l : Launch) (s : State) (m : MethodId) (args : Array Value) (meth : Method) (c : Code) (cc : ByteArray) (nL : Nat) (ret : Option FieldType) (Ts : List Cond) (own : String) (w : va_G × (Nat → ClassId)) (A : Nat → Prop) : Prop :=
  p.tables.exec = Jvm.exec ∧ c.code = cc ∧ c.maxLocals = nL ∧ s.vm.findClass own = some m.cls ∧ (∀ q ∈ Ts, q.before args s = true) ∧ va_K w.1 vwCl [(w.2 0, .int), (w.2 1, .boolean), (w.2 2, .long), (w.2 3, .array .int)] s ∧ meth.locks = false ∧ meth.sig.returnType = ret ∧ (∀ q, s.heap.size ≤ q → A q) ∧ va_AOA .int s ∧ va_Nw (.methodLinkNest RX3 28 yX1_init RX3) s
def ld_K (p : Program) (l : Launch) (e : Env) (R : Room) (s : State) (m : MethodId) (args : Array Value) (below : List Frame) (meth : Method) (c : Code) (Q : State → Prop) (w : va_G × (Nat → ClassId)) (A : Nat → Prop) (ws : va_W) (cells slots pc : Nat) (lv : List (Option Value)) (st : List Value) : Prop :=
  ∀ (H : Heap) (locs : List Loc) (ls : Array Slot), va_P w.1 vwCl ws H → va_D A ws → va_S A s.heap H locs → ld_L ls lv → W p l e R s m args below meth c H locs cells slots Q (F0 m pc ls st)
theorem ld_arr {cI : ClassId} {N : Nat} {f g : Nat → Value} (h : ∀ j, j < N → f j = g j) : arrV cI N f = arrV cI N g := by
  unfold arrV
  congr 1
  apply Array.ext
  · simp
  · intro i h1 h2
    have : i < N := by simpa using h1
    simpa using h i this
theorem ld_P_at {D : va_G} {cl : List vw_C} {ws : va_W} {H : Heap} {k a : Nat} {e e' : va_E} (h : va_P D cl ws H) (hk : ws[k]? = some (a, e)) (he : va_at D cl (a, e) H → va_at D cl (a, e') H) : va_P D cl (ws.set k (a, e')) H := by
  intro j q hq
  have hl := (List.getElem?_eq_some_iff.mp hk).1
  by_cases hjk : j = k
  · subst hjk
    rw [List.getElem?_set_self hl] at hq
    cases hq
    exact he (h _ _ hk)
  · rw [List.getElem?_set_ne (Ne.symm hjk)] at hq
    exact h j q hq
section LDC
variable {p : Program} {l : Launch} {e : Env} {R : Room} {s : State} {m : MethodId} {args : Array Value} {below : List Frame} {meth : Method} {c : Code} {Q : State → Prop} {cells slots pc : Nat} {cc : ByteArray} {nL : Nat} {ret : Option FieldType} {Ts : List Cond} {own : String} {w : va_G × (Nat → ClassId)} {A : Nat → Prop} {ws : va_W} {lv : List (Option Value)} {st : List Value}
theorem lk_iconst (C : ld_C0 p l s m args meth c cc nL ret Ts own w A) {n : Int} {v : Int32} (hv : Int32.ofInt n = v) (d : decode cc pc = .ok (.iconst n, 1)) (k : ld_K p l e R s m args below meth c Q w A ws cells slots (pc + 1) lv (.int v :: st)) : ld_K p l e R s m args below meth c Q w A ws cells slots pc lv st := fun H locs ls hP hD hS hL => lv_iconst C.1 C.2.1 d hv (k H locs ls hP hD hS hL)
theorem lk_bipush (C : ld_C0 p l s m args meth c cc nL ret Ts own w A) {n : Int} {v : Int32} (hv : (Int8.ofInt n).toInt32 = v) (d : decode cc pc = .ok (.bipush n, 2)) (k : ld_K p l e R s m args below meth c Q w A ws cells slots (pc + 2) lv (.int v :: st)) : ld_K p l e R s m args below meth c Q w A ws cells slots pc lv st := fun H locs ls hP hD hS hL => lv_bipush C.1 C.2.1 d hv (k H locs ls hP hD hS hL)
theorem lk_sipush (C : ld_C0 p l s m args meth c cc nL ret Ts own w A) {n : Int} {v : Int32} (hv : (Int16.ofInt n).toInt32 = v) (d : decode cc pc = .ok (.sipush n, 3)) (k : ld_K p l e R s m args below meth c Q w A ws cells slots (pc + 3) lv (.int v :: st)) : ld_K p l e R s m args below meth c Q w A ws cells slots pc lv st := fun H locs ls hP hD hS hL => lv_sipush C.1 C.2.1 d hv (k H locs ls hP hD hS hL)
theorem lk_iload_n (C : ld_C0 p l s m args meth c cc nL ret Ts own w A) {k9 : Fin 4} {i : Nat} {x : Int32} (hi : (k9 : Nat) = i) (hx : lv[i]? = some (some (.int x))) (d : decode cc pc = .ok (.iload_n k9, 1)) (k : ld_K p l e R s m args below meth c Q w A ws cells slots (pc + 1) lv (.int x :: st)) : ld_K p l e R s m args below meth c Q w A ws cells slots pc lv st := fun H locs ls hP hD hS hL => lv_iload_n C.1 C.2.1 d hi (hL.2.2 _ _ hx).1 (k H locs ls hP hD hS hL)
theorem lk_aload_n (C : ld_C0 p l s m args meth c cc nL ret Ts own w A) {k9 : Fin 4} {i : Nat} {x : Nat} (hi : (k9 : Nat) = i) (hx : lv[i]? = some (some (.ref x))) (d : decode cc pc = .ok (.aload_n k9, 1)) (k : ld_K p l e R s m args below meth c Q w A ws cells slots (pc + 1) lv (.ref x :: st)) : ld_K p l e R s m args below meth c Q w A ws cells slots pc lv st := fun H locs ls hP hD hS hL => lv_aload_n C.1 C.2.1 d hi (hL.2.2 _ _ hx).1 (k H locs ls hP hD hS hL)
theorem lk_dup (C : ld_C0 p l s m args meth c cc nL ret Ts own w A) {va : Value} (hc : va.category = 1) (d : decode cc pc = .ok (.dup, 1)) (k : ld_K p l e R s m args below meth c Q w A ws cells slots (pc + 1) lv (va :: va :: st)) : ld_K p l e R s m args below meth c Q w A ws cells slots pc lv (va :: st) := fun H locs ls hP hD hS hL => lv_dup C.1 C.2.1 d hc (k H locs ls hP hD hS hL)
theorem lk_istore_n (C : ld_C0 p l s m args meth c cc nL ret Ts own w A) {k9 : Fin 4} {i : Nat} (h9 : (k9 : Nat) = i) {x : Int32} {lv2 : List (Option Value)} (hi : i < lv.length) (h2 : lv.set i (some (.int x)) = lv2) (d : decode cc pc = .ok (.istore_n k9, 1)) (k : ld_K p l e R s m args below meth c Q w A ws cells slots (pc + 1) lv2 st) : ld_K p l e R s m args below meth c Q w A ws cells slots pc lv (.int x :: st) := by
  intro H locs ls hP hD hS hL
  obtain ⟨ls2, e2, hL2⟩ := ld_L_store (v := .int x) hL hi rfl
  rw [h2] at hL2
  obtain ⟨hexec, hb, -⟩ := C
  subst h9
  intro T9 hT X
  obtain ⟨t, a, b⟩ := k H locs ls2 hP hD hS hL2 T9 hT X
  refine ⟨t, ?_, b⟩
  jvm_step X.here [X.here.top, ↓top_set X.here.top, hexec, hb, d, e2]
  exact a
theorem lk_iinc (C : ld_C0 p l s m args meth c cc nL ret Ts own w A) {i : Nat} {n : Int} {x v : Int32} {lv2 : List (Option Value)} (hx : lv[i]? = some (some (.int x))) (hv : x + Int32.ofInt n = v) (h2 : lv.set i (some (.int v)) = lv2) (d : decode cc pc = .ok (.iinc i n, 3)) (k : ld_K p l e R s m args below meth c Q w A ws cells slots (pc + 3) lv2 st) : ld_K p l e R s m args below meth c Q w A ws cells slots pc lv st := by
  intro H locs ls hP hD hS hL
  subst hv
  have hi : i < lv.length := (List.getElem?_eq_some_iff.mp hx).1
  have hg := (hL.2.2 _ _ hx).1
  obtain ⟨ls2, e2, hL2⟩ := ld_L_store (v := .int (x + Int32.ofInt n)) hL hi rfl
  rw [h2] at hL2
  obtain ⟨hexec, hb, -⟩ := C
  intro T9 hT X
  obtain ⟨t, a, b⟩ := k H locs ls2 hP hD hS hL2 T9 hT X
  refine ⟨t, ?_, b⟩
  jvm_step X.here [X.here.top, ↓top_set X.here.top, hexec, hb, d, hg, e2]
  exact a
theorem lk_goto (C : ld_C0 p l s m args meth c cc nL ret Ts own w A) {off : Int} {tgt : Nat} (d : decode cc pc = .ok (.goto off, 3)) (ht : (pc : Int) + off = (tgt : Int)) (k : ld_K p l e R s m args below meth c Q w A ws cells slots tgt lv st) : ld_K p l e R s m args below meth c Q w A ws cells slots pc lv st := fun H locs ls hP hD hS hL => lv_goto C.1 C.2.1 d ht (k H locs ls hP hD hS hL)
theorem lk_ge_t (C : ld_C0 p l s m args meth c cc nL ret Ts own w A) {x y : Int32} {off : Int} {tgt : Nat} (d : decode cc pc = .ok (.if_icmp .ge off, 3)) (ht : (pc : Int) + off = (tgt : Int)) (h : y ≤ x) (k : ld_K p l e R s m args below meth c Q w A ws cells slots tgt lv st) : ld_K p l e R s m args below meth c Q w A ws cells slots pc lv (.int y :: .int x :: st) := fun H locs ls hP hD hS hL => lv_icmp_ge C.1 C.2.1 d ht (fun _ => (k H locs ls hP hD hS hL)) (fun q => absurd h q)
theorem lk_ge_f (C : ld_C0 p l s m args meth c cc nL ret Ts own w A) {x y : Int32} {off : Int} {tgt : Nat} (d : decode cc pc = .ok (.if_icmp .ge off, 3)) (ht : (pc : Int) + off = (tgt : Int)) (h : ¬ y ≤ x) (k : ld_K p l e R s m args below meth c Q w A ws cells slots (pc + 3) lv st) : ld_K p l e R s m args below meth c Q w A ws cells slots pc lv (.int y :: .int x :: st) := fun H locs ls hP hD hS hL => lv_icmp_ge C.1 C.2.1 d ht (fun q => absurd q h) (fun _ => (k H locs ls hP hD hS hL))
theorem lk_obj (C : ld_C0 p l s m args meth c cc nL ret Ts own w A) {idx : Nat} (hlen : lv.length = nL) (hlink : Cond.methodLink own idx objectInit ∈ Ts) (hinst : Cond.instanceMethod objectInit ∈ Ts) (hcode : Cond.code objectInit ⟨#[0xb1]⟩ 1 none ∈ Ts) {a : Nat} (hf : 1 ≤ R.frames) (hl : (st.map fun v => v.category).sum + 12 ≤ R.locals) (d : decode cc pc = .ok (.invokespecial idx, 3)) (k : ld_K p l e R s m args below meth c Q w A ws cells slots (pc + 3) lv st) : ld_K p l e R s m args below meth c Q w A ws cells slots pc lv (.ref a :: st) := fun H locs ls hP hD hS hL =>
  W.objInit C.1 C.2.1 C.2.2.2.1 (C.2.2.2.2.1 _ hlink) (C.2.2.2.2.1 _ hinst) (C.2.2.2.2.1 _ hcode) rfl (hL.1.trans (hlen.trans C.2.2.1.symm)) rfl d hf (by show 2 * 0 + _ + 12 ≤ _; omega) (k H locs ls hP hD hS hL)
theorem lk_new (C : ld_C0 p l s m args meth c cc nL ret Ts own w A) {Cn : String} {Tb : u_T} {N ci index : Nat} (ty : Nat → FieldType) (hty : ∀ k, k < N → parseFieldDescriptor (Tb k).2.2.1 = some (ty k)) (hin : ∀ q ∈ u_ws Cn Tb N, q ∈ Ts) (hcl : Cond.classLink own index Cn ∈ Ts) (hinst : Cond.instantiable Cn N ∈ Ts) (hini : Cond.initialized Cn ∈ Ts) (hc : vwCl[ci]? = some (Cn, Tb, N)) {fs : List Value} (hfs : ∀ j, j < N → defaultValue (ty j) = vp_V fs j) (hcells : cells + 1 ≤ R.cells) (hslots : slots + N ≤ R.slots) (d : decode cc pc = .ok (.new index, 3)) (k : ∀ q : Nat, ld_K p l e R s m args below meth c Q w A (ws ++ [(q, .inr (ci, fs))]) (cells + 1) (slots + N) (pc + 3) lv (.ref q :: st)) : ld_K p l e R s m args below meth c Q w A ws cells slots pc lv st := fun H locs ls hP hD hS hL =>
  va_new (ci := ci) (fs := fs) (C := Cn) (T := Tb) (N := N) C.1 C.2.1 C.2.2.2.2.1 hin ty hty C.2.2.2.1 (C.2.2.2.2.1 _ hcl) (C.2.2.2.2.1 _ hinst) (C.2.2.2.2.1 _ hini) C.2.2.2.2.2.1 hP hD hS C.2.2.2.2.2.2.2.2.1 hc hfs hcells hslots d (fun q H1 hP1 hD1 hS1 => k q H1 locs ls hP1 hD1 hS1 hL)
theorem lk_newI (C : ld_C0 p l s m args meth c cc nL ret Ts own w A) {n : Int32} {N : Nat} (harr : Cond.arrayClass .int ∈ Ts) (hn : ¬ n < 0) (hN : n.toNatClampNeg = N) (hb : N * componentBytes .int ≤ 536870912) (hcells : cells + 1 ≤ R.cells) (hslots : slots + N ≤ R.slots) (d : decode cc pc = .ok (.newarray .int, 2)) (k : ∀ q : Nat, ld_K p l e R s m args below meth c Q w A (ws ++ [(q, .inl (w.2 0, N, .inl (fun _ => 0)))]) (cells + 1) (slots + N) (pc + 2) lv (.ref q :: st)) : ld_K p l e R s m args below meth c Q w A ws cells slots pc lv (.int n :: st) := fun H locs ls hP hD hS hL =>
  va_newa (atype := .int) (ty := .int) (a0 := (N, .inl (fun _ => 0))) C.1 C.2.1 (C.2.2.2.2.1 _ harr) rfl C.2.2.2.2.2.1 hP hD hS C.2.2.2.2.2.2.2.2.1 (fun cA => rfl) hn hN hb hcells hslots d (fun q cA H1 hK1 hP1 hD1 hS1 => by
    have e1 : s.vm.findClass ("[" ++ (.int : FieldType).toString) = some cA := (hK1.2 4 (cA, .int) rfl).2
    have e2 : s.vm.findClass ("[" ++ (.int : FieldType).toString) = some (w.2 0) := (C.2.2.2.2.2.1.2 0 _ rfl).2
    have e3 : cA = w.2 0 := Option.some.inj (e1.symm.trans e2)
    subst e3
    exact k q H1 locs ls hP1 hD1 hS1 hL)
theorem lk_newZ (C : ld_C0 p l s m args meth c cc nL ret Ts own w A) {n : Int32} {N : Nat} (harr : Cond.arrayClass .boolean ∈ Ts) (hn : ¬ n < 0) (hN : n.toNatClampNeg = N) (hb : N * componentBytes .boolean ≤ 536870912) (hcells : cells + 1 ≤ R.cells) (hslots : slots + N ≤ R.slots) (d : decode cc pc = .ok (.newarray .boolean, 2)) (k : ∀ q : Nat, ld_K p l e R s m args below meth c Q w A (ws ++ [(q, .inl (w.2 1, N, .inl (fun _ => 0)))]) (cells + 1) (slots + N) (pc + 2) lv (.ref q :: st)) : ld_K p l e R s m args below meth c Q w A ws cells slots pc lv (.int n :: st) := fun H locs ls hP hD hS hL =>
  va_newa (atype := .boolean) (ty := .boolean) (a0 := (N, .inl (fun _ => 0))) C.1 C.2.1 (C.2.2.2.2.1 _ harr) rfl C.2.2.2.2.2.1 hP hD hS C.2.2.2.2.2.2.2.2.1 (fun cA => rfl) hn hN hb hcells hslots d (fun q cA H1 hK1 hP1 hD1 hS1 => by
    have e1 : s.vm.findClass ("[" ++ (.boolean : FieldType).toString) = some cA := (hK1.2 4 (cA, .boolean) rfl).2
    have e2 : s.vm.findClass ("[" ++ (.boolean : FieldType).toString) = some (w.2 1) := (C.2.2.2.2.2.1.2 1 _ rfl).2
    have e3 : cA = w.2 1 := Option.some.inj (e1.symm.trans e2)
    subst e3
    exact k q H1 locs ls hP1 hD1 hS1 hL)
theorem lk_newJ (C : ld_C0 p l s m args meth c cc nL ret Ts own w A) {n : Int32} {N : Nat} (harr : Cond.arrayClass .long ∈ Ts) (hn : ¬ n < 0) (hN : n.toNatClampNeg = N) (hb : N * componentBytes .long ≤ 536870912) (hcells : cells + 1 ≤ R.cells) (hslots : slots + N ≤ R.slots) (d : decode cc pc = .ok (.newarray .long, 2)) (k : ∀ q : Nat, ld_K p l e R s m args below meth c Q w A (ws ++ [(q, .inl (w.2 2, N, .inr (.inl (fun _ => 0))))]) (cells + 1) (slots + N) (pc + 2) lv (.ref q :: st)) : ld_K p l e R s m args below meth c Q w A ws cells slots pc lv (.int n :: st) := fun H locs ls hP hD hS hL =>
  va_newa (atype := .long) (ty := .long) (a0 := (N, .inr (.inl (fun _ => 0)))) C.1 C.2.1 (C.2.2.2.2.1 _ harr) rfl C.2.2.2.2.2.1 hP hD hS C.2.2.2.2.2.2.2.2.1 (fun cA => rfl) hn hN hb hcells hslots d (fun q cA H1 hK1 hP1 hD1 hS1 => by
    have e1 : s.vm.findClass ("[" ++ (.long : FieldType).toString) = some cA := (hK1.2 4 (cA, .long) rfl).2
    have e2 : s.vm.findClass ("[" ++ (.long : FieldType).toString) = some (w.2 2) := (C.2.2.2.2.2.1.2 2 _ rfl).2
    have e3 : cA = w.2 2 := Option.some.inj (e1.symm.trans e2)
    subst e3
    exact k q H1 locs ls hP1 hD1 hS1 hL)
theorem lk_ws {ws2 : va_W} (h : ws = ws2) (k : ld_K p l e R s m args below meth c Q w A ws2 cells slots pc lv st) : ld_K p l e R s m args below meth c Q w A ws cells slots pc lv st := h ▸ k
theorem lk_alen (C : ld_C0 p l s m args meth c cc nL ret Ts own w A) (q0 : Nat) {a : Nat} {x : vp_A} (he : ws[q0]? = some (a, .inl (w.2 0, x))) {v : Int32} (hv : Int32.ofNat x.1 = v) (d : decode cc pc = .ok (.arraylength, 1)) (k : ld_K p l e R s m args below meth c Q w A ws cells slots (pc + 1) lv (.int v :: st)) : ld_K p l e R s m args below meth c Q w A ws cells slots pc lv (.ref a :: st) := fun H locs ls hP hD hS hL => va_alen (D := w.1) (cl := vwCl) C.1 C.2.1 C.2.2.2.2.2.1 hP q0 0 he (ty := .int) rfl hv d (k H locs ls hP hD hS hL)
theorem lk_ge (C : ld_C0 p l s m args meth c cc nL ret Ts own w A) {x y : Int32} {off : Int} {tgt : Nat} (d : decode cc pc = .ok (.if_icmp .ge off, 3)) (ht : (pc : Int) + off = (tgt : Int)) (k1 : y ≤ x → ld_K p l e R s m args below meth c Q w A ws cells slots tgt lv st) (k2 : ¬ y ≤ x → ld_K p l e R s m args below meth c Q w A ws cells slots (pc + 3) lv st) : ld_K p l e R s m args below meth c Q w A ws cells slots pc lv (.int y :: .int x :: st) := fun H locs ls hP hD hS hL => lv_icmp_ge C.1 C.2.1 d ht (fun q => k1 q H locs ls hP hD hS hL) (fun q => k2 q H locs ls hP hD hS hL)
theorem ld_rows {r : Nat → Nat} {N : Nat} {f : Nat → va_E} {e : va_E} : va_pl ([] ++ (List.range N).map r) (vr_up f ((List.range N).map r) e) = (List.range N).map (fun i => (r i, e)) := by
  unfold va_pl
  rw [List.nil_append, List.map_map]
  apply List.map_congr_left
  intro i hi
  show (r i, vr_up f _ e (r i)) = (r i, e)
  rw [vr_up_in (List.mem_map.mpr ⟨i, hi, rfl⟩)]
theorem lk_mna (C : ld_C0 p l s m args meth c cc nL ret Ts own w A) {n k9 : Int32} {N M index : Nat} (hcl : Cond.classLink own index "[[I" ∈ Ts) (harr : Cond.arrayClass .int ∈ Ts) (hn : ¬ n < 0) (hk : ¬ k9 < 0) (hN : n.toNatClampNeg = N) (hM : k9.toNatClampNeg = M) (hb1 : N * 4 ≤ 536870912) (hb2 : M * componentBytes .int ≤ 536870912) (hb3 : M ≤ 536870912) (hcells : cells + (1 + N) ≤ R.cells) (hslots : slots + (N + N * M) ≤ R.slots) (d : decode cc pc = .ok (.multianewarray index 2, 4)) (k : ∀ (q : Nat) (r : Nat → Nat), ld_K p l e R s m args below meth c Q w A (ws ++ [(q, .inl (w.2 3, N, .inr (.inr (.inr (.inr (fun i => some (r i)))))))] ++ (List.range N).map (fun i => (r i, .inl (w.2 0, M, .inl (fun _ => 0))))) (cells + 1 + N) (slots + N + N * M) (pc + 4) lv (.ref q :: st)) : ld_K p l e R s m args below meth c Q w A ws cells slots pc lv (.int k9 :: .int n :: st) := fun H locs ls hP hD hS hL => by
  have ew : ws ++ va_pl [] (fun _ => .inr (0, [])) = ws := List.append_nil ws
  have e2 : s.vm.findClass ("[" ++ (FieldType.int).toString) = some (w.2 0) := (C.2.2.2.2.2.1.2 0 _ rfl).2
  refine va_mna (X := ws) (L := []) (f := fun _ => .inr (0, [])) (z := (M, .inl (fun _ => 0))) (ty := .int) (N' := N) (K' := M) C.1 C.2.1 C.2.2.2.1 (C.2.2.2.2.1 _ hcl) C.2.2.2.2.2.2.2.2.2.1 (C.2.2.2.2.1 _ harr) e2 C.2.2.2.2.2.1 (by rw [ew]; exact hP) (by rw [ew]; exact hD) hS C.2.2.2.2.2.2.2.2.1 hn hk hN hM hb1 hb2 hb3 rfl rfl hcells hslots (fun cI => ?_) d (fun q r cA H1 _ _ hK1 hP1 hD1 hS1 => ?_)
  · show ({ cls := cI, slots := Array.replicate M (defaultValue .int), vm := .none } : Cell) = _
    rw [arrV_new]
    rfl
  · have e1 : s.vm.findClass ("[" ++ (FieldType.array .int).toString) = some cA := (hK1.2 4 (cA, .array .int) rfl).2
    have e4 : s.vm.findClass ("[" ++ (FieldType.array .int).toString) = some (w.2 3) := (C.2.2.2.2.2.1.2 3 _ rfl).2
    have e3 : cA = w.2 3 := Option.some.inj (e1.symm.trans e4)
    subst e3
    rw [ld_rows] at hP1 hD1
    have hlen : (ws ++ [(q, (.inl (w.2 3, N, .inr (.inr (.inr (.inr (fun i => if i < N then some (r i) else none))))) : va_E))] ++ (List.range N).map (fun i => (r i, (.inl (w.2 0, M, .inl (fun _ => 0)) : va_E))))[ws.length]? = some (q, .inl (w.2 3, N, .inr (.inr (.inr (.inr (fun i => if i < N then some (r i) else none)))))) := by
      rw [List.getElem?_append_left (by simp), List.getElem?_append_right (Nat.le_refl _), Nat.sub_self]
      rfl
    have hset : (ws ++ [(q, (.inl (w.2 3, N, .inr (.inr (.inr (.inr (fun i => if i < N then some (r i) else none))))) : va_E))] ++ (List.range N).map (fun i => (r i, (.inl (w.2 0, M, .inl (fun _ => 0)) : va_E)))).set ws.length (q, .inl (w.2 3, N, .inr (.inr (.inr (.inr (fun i => some (r i))))))) = ws ++ [(q, .inl (w.2 3, N, .inr (.inr (.inr (.inr (fun i => some (r i)))))))] ++ (List.range N).map (fun i => (r i, .inl (w.2 0, M, .inl (fun _ => 0)))) := by
      rw [List.set_append_left _ _ (by simp), List.set_append_right _ _ (Nat.le_refl _), Nat.sub_self]
      rfl
    have hP2 := ld_P_at hP1 hlen (e' := .inl (w.2 3, N, .inr (.inr (.inr (.inr (fun i => some (r i))))))) (fun h => by
      show H1[q]? = some (vp_cell _ _)
      have h' : H1[q]? = some (vp_cell _ _) := h
      rw [h']
      congr 1
      show arrV (w.2 3) N (fun j => va_rf (if j < N then some (r j) else none)) = arrV (w.2 3) N (fun j => va_rf (some (r j)))
      exact ld_arr (fun j hj => by rw [if_pos hj]))
    have hD2 := hD1.set hlen (e := .inl (w.2 3, N, .inr (.inr (.inr (.inr (fun i => some (r i)))))))
    rw [hset] at hP2 hD2
    exact k q r H1 locs ls hP2 hD2 hS1 hL
theorem lk_get (C : ld_C0 p l s m args meth c cc nL ret Ts own w A) {ref Cn : String} {Tb : u_T} {N ci index kk : Nat} (q0 : Nat) {a : Nat} {fs : List Value} (he : ws[q0]? = some (a, .inr (ci, fs))) (hc : vwCl[ci]? = some (Cn, Tb, N)) (hin : ∀ q ∈ u_ws Cn Tb N, q ∈ Ts) (hk : kk < N) (hlink : Cond.fieldLink own index ref (Tb kk).2.1 (Tb kk).2.2.1 ∈ Ts) (hsame : (Tb kk).1 = ref) {v : Value} (hv : fs[kk]? = some v) (d : decode cc pc = .ok (.getfield index, 3)) (k : ld_K p l e R s m args below meth c Q w A ws cells slots (pc + 3) lv (v :: st)) : ld_K p l e R s m args below meth c Q w A ws cells slots pc lv (.ref a :: st) := fun H locs ls hP hD hS hL =>
  va_get (D := w.1) (cl := vwCl) (ci := ci) (C := Cn) (T := Tb) (N := N) C.1 C.2.1 C.2.2.2.2.1 hin C.2.2.2.1 C.2.2.2.2.2.1 hP q0 he hc kk hk (C.2.2.2.2.1 _ hlink) (fun x h => by rw [← hsame]; exact h) hv d (k H locs ls hP hD hS hL)
theorem lk_put (C : ld_C0 p l s m args meth c cc nL ret Ts own w A) {ref Cn : String} {Tb : u_T} {N ci index kk : Nat} (q0 : Nat) {a : Nat} {fs : List Value} {ws2 : va_W} (ty0 : Nat → FieldType) (hty : ∀ k, k < N → parseFieldDescriptor (Tb k).2.2.1 = some (ty0 k)) (hnm : ∀ a, a < N → ∀ b, b < N → a ≠ b → (Tb a).2.1 ≠ (Tb b).2.1) (he : ws[q0]? = some (a, .inr (ci, fs))) (hc : vwCl[ci]? = some (Cn, Tb, N)) (hin : ∀ q ∈ u_ws Cn Tb N, q ∈ Ts) (hk : kk < N) (hlink : Cond.fieldLink own index ref (Tb kk).2.1 (Tb kk).2.2.1 ∈ Ts) (hsame : (Tb kk).1 = ref) (hfin : (Tb kk).2.2.2 = false) {ty : FieldType} {v : Value} (hd : parseFieldDescriptor (Tb kk).2.2.1 = some ty) (hn : narrow ty v = v) (hfit : fits ty v = true) (hl : kk < fs.length) (hw : ws.set q0 (a, .inr (ci, fs.set kk v)) = ws2) (d : decode cc pc = .ok (.putfield index, 3)) (k : ld_K p l e R s m args below meth c Q w A ws2 cells slots (pc + 3) lv st) : ld_K p l e R s m args below meth c Q w A ws cells slots pc lv (v :: .ref a :: st) := fun H locs ls hP hD hS hL =>
  va_put (D := w.1) (cl := vwCl) (A := A) (ci := ci) (v := v) (ty := ty) (C := Cn) (T := Tb) (N := N) C.1 C.2.1 C.2.2.2.2.1 hin ty0 hty hnm C.2.2.2.1 C.2.2.2.2.2.1 hP hD hS q0 he hc kk hk (C.2.2.2.2.1 _ hlink) (fun x h => by rw [← hsame]; exact h) hfin hd hn hfit hl d (fun H1 locs1 hP1 hD1 hS1 => k H1 locs1 ls (by rw [hw] at hP1; exact hP1) (by rw [hw] at hD1; exact hD1) hS1 hL)
theorem lk_putF (C : ld_C0 p l s m args meth c cc nL ret Ts own w A) {ref Cn : String} {Tb : u_T} {N ci index kk : Nat} (q0 : Nat) {a : Nat} {fs : List Value} {ws2 : va_W} (ty0 : Nat → FieldType) (hty : ∀ k, k < N → parseFieldDescriptor (Tb k).2.2.1 = some (ty0 k)) (hnm : ∀ a, a < N → ∀ b, b < N → a ≠ b → (Tb a).2.1 ≠ (Tb b).2.1) (hmn : meth.name = "<init>") (he : ws[q0]? = some (a, .inr (ci, fs))) (hc : vwCl[ci]? = some (Cn, Tb, N)) (hin : ∀ q ∈ u_ws Cn Tb N, q ∈ Ts) (hk : kk < N) (hlink : Cond.fieldLink own index ref (Tb kk).2.1 (Tb kk).2.2.1 ∈ Ts) (hsame : (Tb kk).1 = ref) (hfin : (Tb kk).2.2.2 = true) (hdecl : (Tb kk).1 = own) {ty : FieldType} {v : Value} (hd : parseFieldDescriptor (Tb kk).2.2.1 = some ty) (hn : narrow ty v = v) (hfit : fits ty v = true) (hl : kk < fs.length) (hw : ws.set q0 (a, .inr (ci, fs.set kk v)) = ws2) (d : decode cc pc = .ok (.putfield index, 3)) (k : ld_K p l e R s m args below meth c Q w A ws2 cells slots (pc + 3) lv st) : ld_K p l e R s m args below meth c Q w A ws cells slots pc lv (v :: .ref a :: st) := fun H locs ls hP hD hS hL =>
  va_putF (D := w.1) (cl := vwCl) (A := A) (ci := ci) (v := v) (ty := ty) (C := Cn) (T := Tb) (N := N) C.1 C.2.1 C.2.2.2.2.1 hin ty0 hty hnm C.2.2.2.1 C.2.2.2.2.2.1 hP hD hS q0 he hc kk hk (C.2.2.2.2.1 _ hlink) (fun x h => by rw [← hsame]; exact h) hfin hmn hdecl hd hn hfit hl d (fun H1 locs1 hP1 hD1 hS1 => k H1 locs1 ls (by rw [hw] at hP1; exact hP1) (by rw [hw] at hD1; exact hD1) hS1 hL)
theorem lk_iast (C : ld_C0 p l s m args meth c cc nL ret Ts own w A) (q0 : Nat) {a n : Nat} {f : Nat → Int32} {x y : Int32} {ws2 : va_W} (he : ws[q0]? = some (a, .inl (w.2 0, n, .inl f))) (hin : vp_in x n) (hw : ws.set q0 (a, .inl (w.2 0, n, .inl (upd f x.toNatClampNeg y))) = ws2) (d : decode cc pc = .ok (.iastore, 1)) (k : ld_K p l e R s m args below meth c Q w A ws2 cells slots (pc + 1) lv st) : ld_K p l e R s m args below meth c Q w A ws cells slots pc lv (.int y :: .int x :: .ref a :: st) := fun H locs ls hP hD hS hL =>
  va_iast (D := w.1) (cl := vwCl) (A := A) C.1 C.2.1 C.2.2.2.2.2.1 hP hD hS q0 0 he rfl hin d (fun H1 locs1 hP1 hD1 hS1 => k H1 locs1 ls (by rw [hw] at hP1; exact hP1) (by rw [hw] at hD1; exact hD1) hS1 hL)
theorem lk_aald (C : ld_C0 p l s m args meth c cc nL ret Ts own w A) (q0 : Nat) {a n j : Nat} {f : Nat → Option Nat} {x : Int32} {b : Nat} (he : ws[q0]? = some (a, .inl (w.2 3, n, .inr (.inr (.inr (.inr f)))))) (hin : vp_in x n) (hj : x.toNatClampNeg = j) (hb : f j = some b) (d : decode cc pc = .ok (.aaload, 1)) (k : ld_K p l e R s m args below meth c Q w A ws cells slots (pc + 1) lv (.ref b :: st)) : ld_K p l e R s m args below meth c Q w A ws cells slots pc lv (.int x :: .ref a :: st) := fun H locs ls hP hD hS hL => by
  subst hj
  have hlt : x.toNatClampNeg < n := Nat.not_le.mp fun q => hin (Or.inr q)
  have ha := hP q0 _ he
  have hK := C.2.2.2.2.2.1
  refine W.aald (v := va_rf (f x.toNatClampNeg)) (ty := .array .int) C.1 C.2.1 ha ((hK.2 3 _ rfl).1 n (fun j => va_rf (f j))) rfl (fun q => by cases q) (by show ¬ (x < 0 ∨ (arrV _ _ _).slots.size ≤ _); rw [arrV_size]; exact hin) (by show (arrV _ _ _).slots[_]? = _; rw [arrV_read _ _ hlt]) rfl rfl d ?_
  rw [hb]
  exact (k H locs ls hP hD hS hL)
def ld_Bc (w : va_G × (Nat → ClassId)) (ws : va_W) (sz : Nat) (U : State) : Prop := U.heap.size = sz ∧ va_P w.1 vwCl ws U.heap ∧ va_K w.1 vwCl [(w.2 0, .int), (w.2 1, .boolean), (w.2 2, .long), (w.2 3, .array .int)] U ∧ va_D (fun _ => True) ws ∧ va_AOA .int U ∧ va_Nw (.methodLinkNest RX3 28 yX1_init RX3) U
theorem va_AOA.moved9 {t : FieldType} {u U : State} (hvm : u.vm.Alike U.vm) (h : va_AOA t u) : va_AOA t U := by
  obtain ⟨comp, c, k, h1, h2, h3, h4, h5⟩ := arrayOverA_spec h
  obtain ⟨k', hk', he⟩ := hvm.2.2 _ _ h3
  have hi : (U.vm.classes.findIdx? fun (x : Class) => match x.kind with | .array component _ => component == comp | _ => false) = some c := by
    refine (va_idx_bare U.vm comp).symm.trans ?_
    first | rw [hvm.bare_eq] | rw [← hvm.bare_eq]
    exact (va_idx_bare u.vm comp).trans h2
  have hkind : k'.kind = .array comp (.array t) := by rw [he]; exact h4
  have f1 : U.vm.findClass (FieldType.array t).toString = some comp := by rw [hvm.findClass]; exact h1
  have f2 : U.vm.findClass ("[" ++ (FieldType.array t).toString) = some c := by rw [hvm.findClass]; exact h5
  unfold va_AOA Cond.before Cond.holds
  simp only [Cond.value]
  rw [f1, Option.bind_some]
  refine (congrArg (fun o : Option Nat => (o.bind (fun c => (U.vm.classes[c]?).map fun (k : Class) => match k.kind with | .array _ ty => decide (ty = FieldType.array t) && decide (U.vm.findClass ("[" ++ (FieldType.array t).toString) = some c) | _ => false) == some true)) hi).trans ?_
  simp [hk', hkind, f2]
theorem ld_Bc.blind {w : va_G × (Nat → ClassId)} {ws : va_W} {sz : Nat} {av : List Value} : FrameBlind (va_Pc av (ld_Bc w ws sz)) := fun a U g mk h => ⟨h.1, h.2.1, h.2.2.1, va_K.moved (u := U) (U := U.calling g mk a) (Vm.Alike.refl U.vm) h.2.2.2.1, h.2.2.2.2.1, va_AOA.moved9 (u := U) (U := U.calling g mk a) (Vm.Alike.refl U.vm) h.2.2.2.2.2.1, va_Nw.same (u := U) (U := U.calling g mk a) rfl rfl h.2.2.2.2.2.2⟩
theorem lk_call {S : Type} (C : ld_C0 p l s m args meth c cc nL ret Ts own w A) {mc ms : Nat} {As rest st0 : List Value} {wc wr : va_W} {post : S → Prop} {W2 : S → va_W} (is ir : List Nat) (hC : is.map (fun i => ws[i]?) = wc.map some) (hsub : is.filterMap (fun i => ws[i]?) = wc) (hnd : va_nd is = true) (hR : ir.map (fun i => ws[i]?) = wr.map some) (hnr : va_nd ir = true) (hdis : ∀ i ∈ ir, i ∉ is)
    (hrun : ∀ (H : Heap) (locs : List Loc) (ls : Array Slot), ls.size = nL → PreS s H (va_Pc As (ld_Bc w wc H.size)) As → va_Run p l e R s m args below meth c H locs cells slots mc ms (F0 m pc ls st0) rest (va_Qv post (fun u t => va_P w.1 vwCl (W2 u) t.heap ∧ va_D (va_A wc H.size) (W2 u)) (va_A wc H.size) As.toArray) (va_A wc H.size)) (hlen : lv.length = nL)
    (k : ∀ u : S, post u → ld_K p l e R s m args below meth c Q w A (wr ++ W2 u) (cells + mc) (slots + ms) (pc + 3) lv rest) : ld_K p l e R s m args below meth c Q w A ws cells slots pc lv st0 := by
  intro H locs ls hP hD hS hL
  have hPc := hP.sub (ws' := wc) is hsub
  have hDc := hD.sub (ws' := wc) is hnd hC
  have hFc := va_free (wc := wc) hD hS C.2.2.2.2.2.2.2.2.1 is hC
  refine va_callv (hrun H locs ls (hL.1.trans hlen) ⟨ld_Bc.blind, fun U hU hW => ⟨rfl, by rw [hU], by rw [hU]; exact hPc, va_K.moved hW.alike C.2.2.2.2.2.1, hDc.weaken (fun _ _ _ _ => trivial), va_AOA.moved9 hW.alike C.2.2.2.2.2.2.2.2.2.1, va_Nw.warmM hW C.2.2.2.2.2.2.2.2.2.2⟩⟩) hS (fun q _ h => hFc q h) hFc (fun u t H1 locs1 ht hvm hw hB hz1 hk1 hS1 => ?_)
  obtain ⟨hP1, hD1⟩ := hB
  rw [ht] at hP1
  obtain ⟨hP2, hD2⟩ := va_join (wr := wr) (w1 := W2 u) hP hD is ir hC hR hnr hdis hk1 hFc hP1 hD1
  exact k u hw H1 locs1 ls hP2 hD2 hS1 hL
theorem lk_vret {S : Type} {mc ms : Nat} {post : S → Prop} {W2 : S → va_W} {A9 : Nat → Prop} (C : ld_C0 p l s m args meth c cc nL none Ts own w A9) (u : S) (hu : post u) (is : List Nat) (hn : va_nd is = true) (hsub : is.filterMap (fun i => ws[i]?) = W2 u) (hm : is.map (fun i => ws[i]?) = (W2 u).map some) (hc : cells ≤ mc) (hs : slots ≤ ms) (d : decode cc pc = .ok (.return_, 1)) : ld_K p l e R s m args below meth c (MQ below (va_Qv post (fun u t => va_P w.1 vwCl (W2 u) t.heap ∧ va_D A9 (W2 u)) A9) args s mc ms A9) w A9 ws cells slots pc lv [] := by
  intro H locs ls hP hD hS hL
  refine W.widen hc hs ?_
  exact W.vret C.1 C.2.1 C.2.2.2.2.2.2.2.1 (fun t ht _ => ⟨⟨u, rfl, hu, by rw [ht]; exact hP.sub is hsub, hD.sub is hn hm⟩, hS.F ht⟩) hS.2.2 d C.2.2.2.2.2.2.1
end LDC
theorem ld_ofC {l : Launch} {y : MethodName} {ws ws' : List Cond} {rm : Room} {cc : ByteArray} {maxL mc ms : Nat} {w : va_G × (Nat → ClassId)} {wc : va_W} {av : List Value} {S : Type} {post : S → Prop} {W2 : S → va_W} (own : String) (hy : plainName y.cls = true) (hw : ws = Cond.code y cc maxL none :: ws') (hown : y.cls = own) (hc : ∀ v ∈ av, v.category = 1) (hn : av.length ≤ maxL) (sz : Nat)
    (body : ∀ p e s m args below meth c, meth.name = y.name → s.heap.size = sz → ld_C0 p l s m args meth c cc maxL none ws own w (va_A wc sz) → ld_K p l e rm s m args below meth c (MQ below (va_Qv post (fun u t => va_P w.1 vwCl (W2 u) t.heap ∧ va_D (va_A wc sz) (W2 u)) (va_A wc sz)) args s mc ms (va_A wc sz)) w (va_A wc sz) wc 0 0 0 (av.map some ++ List.replicate (maxL - av.length) none) []) : Met l y ws rm (va_Pc av (ld_Bc w wc sz)) (va_Qv post (fun u t => va_P w.1 vwCl (W2 u) t.heap ∧ va_D (va_A wc sz) (W2 u)) (va_A wc sz)) mc ms (va_A wc sz) := by
  refine Met.ofW (cc := cc) (maxL := maxL) (ret := none) hy hw ?_
  intro p e s m args below meth c s₁ B hml hv
  obtain ⟨rfl, hsz, hP, hK, hD, hO, hN⟩ := hv
  have hlen : (lg_sl av).length ≤ maxL := by
    have h1 : ∀ us : List Value, (∀ v ∈ us, v.category = 1) → (lg_sl us).length = us.length := by
      intro us
      induction us with
      | nil => intro _; rfl
      | cons v us ih =>
        intro hu
        have h1 : v.category = 1 := hu v List.mem_cons_self
        have h2 : ¬ v.category = 2 := by omega
        have h3 := ih (fun x hx => hu x (List.mem_cons_of_mem _ hx))
        simp only [lg_sl, List.flatMap_cons, if_neg h2, List.length_append, List.length_cons, List.length_nil] at h3 ⊢
        omega
    rw [h1 av hc]
    exact hn
  rw [lg_entry_eq]
  exact body p e s m av.toArray below meth c (name_of_methodNamed B.named B.method).1 hsz ⟨B.exec, B.bytes, hml, by rw [← hown]; exact findClass_of_methodNamed B.named, atoms_spec (ws := ws) B.pre, hK, B.notSynchronized, B.returns, fun q hq => Or.inr (by rw [← hsz]; exact hq), hO, hN⟩ s.heap [] _ hP (hD.self) va_S.rf (ld_L_entry av hlen hc)
