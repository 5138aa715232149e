section LDK
variable {p : Program} {l : Launch} {e : Env} {R : Room} {s : State} {m : MethodId} {args : Array Value} {below : List Frame} {meth : Method} {c : Code} {Q : State → Prop} {cells slots pc : Nat} {cc : ByteArray} {nL : Nat} {ret : Option FieldType} {Ts : List Cond} {own : String} {w : ld_E} {Z : ld_M} {lv : List (Option Value)} {st : List Value} {ρ : Type} {F : Option ρ} {r : ρ}
theorem ld_Asub {a b : Nat} (h : a ≤ b) : ∀ q, ld_A w b q → ld_A w a q := fun q hq => hq.elim Or.inl (fun h2 => Or.inr (Nat.le_trans h h2))
theorem ld_pre {av : List Value} {H : Heap} {locs : List Loc} (C : ld_C p l s m args meth c cc nL ret Ts own w) (hP : va_P w.1 vwCl (ld_W w Z) H) (hS : va_S (ld_A w s.heap.size) s.heap H locs) {U : State} (hU : U.heap = H) (hW : s.WarmedH U.vm) : ld_Pc w Z H.size av av.toArray U := by
  obtain ⟨-, -, -, -, -, hK, -, -, hX, hY, hJ⟩ := C
  refine ⟨rfl, by rw [hU], by rw [hU]; exact hP, va_K.moved hW.alike hK, ld_X.warm hW hX, ⟨?_, ?_⟩, hJ⟩
  · rw [hU]
    exact vx_Zq.moved hW.alike ((hY.1.kept hS.2.1).narrow (ld_Asub hS.1))
  · rw [hU]
    exact vx_Zq.moved hW.alike ((hY.2.kept hS.2.1).narrow (ld_Asub hS.1))
theorem ld_S2 {H : Heap} {locs L : List Loc} {st₀ t : State} (hS : va_S (ld_A w s.heap.size) s.heap H locs) (h0 : st₀.heap = H) (hF : va_F (ld_A w H.size) st₀ t) (hL : ∀ q ∈ L, ld_A w H.size q.base) : va_S (ld_A w s.heap.size) s.heap t.heap (locs ++ L) := by
  obtain ⟨hz, hk⟩ := hF
  rw [h0] at hz hk
  refine ⟨Nat.le_trans hS.1 hz, fun q h1 h2 => ?_, fun q hq => ?_⟩
  · rw [hk q (Nat.lt_of_lt_of_le h1 hS.1) (fun z => h2 (ld_Asub hS.1 q z))]
    exact hS.2.1 q h1 h2
  · rcases List.mem_append.mp hq with h | h
    · exact hS.2.2 q h
    · exact ld_Asub hS.1 _ (hL q h)
theorem lj_back {mc ms : Nat} {Z2 : ld_M} {v : Option Value} {a : Array Value} {rest st0 : List Value} (hr : ∀ (H : Heap) (locs : List Loc) (ls : Array Slot), va_P w.1 vwCl (ld_W w Z) H → va_S (ld_A w s.heap.size) s.heap H locs → ld_L ls lv → va_Run p l e R s m args below meth c H locs cells slots mc ms (F0 m pc ls st0) rest (ld_Q w Z2 H.size v a) (ld_A w H.size)) (k : ld_J p l e R s m args below meth c Q w Z2 (cells + mc) (slots + ms) (pc + 3) lv (v.toList ++ rest)) : ld_J p l e R s m args below meth c Q w Z cells slots pc lv st0 := by
  intro H locs ls hP hS hL T hT X
  obtain ⟨v', st₀, t, T', L, h0, X', hL', e1, e2, ⟨hv, hP2, hF⟩, stp⟩ := hr H locs ls hP hS hL T hT X
  cases hv
  obtain ⟨t2, a1, b1⟩ := k t.heap (locs ++ L) ls hP2 (ld_S2 hS h0 hF hL') hL T' e1 X'
  exact ⟨t2, stp t2 a1, b1⟩
theorem lj_cVa (C : ld_C p l s m args meth c cc nL ret Ts own w) {y : MethodName} {bytes : ByteArray} {maxL index n mc ms : Nat} {rt : Option FieldType} {ws : List Cond} {rm : Room} {As rest st0 : List Value} {i ci : Nat} {Cn : String} {Tb : u_T} {N : Nat} {fs : List Value} {G : Option (Int32)} {f : Int32 → Option ρ} (hM : ∀ (sz : Nat) (x : Int32), G = some x → Met l y ws rm (ld_Pc w Z sz (.ref (ld_ad w i) :: As)) (ld_Q w Z sz (some (.int x))) mc ms (ld_A w sz)) (cw : CallW R s args own Cn index y bytes maxL rt ws rm mc ms n) (hi : i < 87) (hcell : ld_cell w i (Z i) = .inr (ci, fs)) (hc : vwCl[ci]? = some (Cn, Tb, N)) (hn : As.length = n) (hlen : lv.length = nL) (hst : st0 = As.reverse ++ .ref (ld_ad w i) :: rest) (hcat : (rest.map fun v => v.category).sum ≤ 8) (hf : cells + mc ≤ R.cells ∧ slots + ms ≤ R.slots) (d : decode cc pc = .ok (.invokevirtual index, 3))
    (k : ∀ x : Int32, G = some x → ld_T p l e R s m args below meth c Q w r (f x) Z (cells + mc) (slots + ms) (pc + 3) lv (.int x :: rest)) : ld_T p l e R s m args below meth c Q w r (ld_bd G f) Z cells slots pc lv st0 := by
  intro hF
  obtain ⟨x, hG, hF2⟩ := ld_bd_of hF
  have hM := fun sz => hM sz x hG
  subst hst
  exact lj_back (fun H locs ls hP hS hL => va_runV (As := As) (rest := rest) ⟨C.1, C.2.1, C.2.2.1, C.2.2.2.1, C.2.2.2.2.1⟩ (hM H.size) cw ⟨ld_blind, va_recv C.2.2.2.2.2.1 hP hc ((ld_at hi).trans (by rw [hcell])), fun U hU hW => ld_pre C hP hS hU hW⟩ rfl hn (hL.1.trans hlen) rfl (lv_room hcat) d hf) (k x hG hF2)
theorem lj_cSa (C : ld_C p l s m args meth c cc nL ret Ts own w) {y : MethodName} {bytes : ByteArray} {maxL index n mc ms : Nat} {rt : Option FieldType} {ws : List Cond} {rm : Room} {As rest st0 : List Value}  {G : Option (Int32)} {f : Int32 → Option ρ} (hM : ∀ (sz : Nat) (x : Int32), G = some x → Met l y ws rm (ld_Pc w Z sz As) (ld_Q w Z sz (some (.int x))) mc ms (ld_A w sz)) (cw : CallB R s args own index y bytes maxL rt ws rm mc ms n ∧ (Cond.static y).before args s = true) (hn : As.length = n) (hlen : lv.length = nL) (hst : st0 = As.reverse ++ rest) (hcat : (rest.map fun v => v.category).sum ≤ 8) (hf : cells + mc ≤ R.cells ∧ slots + ms ≤ R.slots) (d : decode cc pc = .ok (.invokestatic index, 3))
    (k : ∀ x : Int32, G = some x → ld_T p l e R s m args below meth c Q w r (f x) Z (cells + mc) (slots + ms) (pc + 3) lv (.int x :: rest)) : ld_T p l e R s m args below meth c Q w r (ld_bd G f) Z cells slots pc lv st0 := by
  intro hF
  obtain ⟨x, hG, hF2⟩ := ld_bd_of hF
  have hM := fun sz => hM sz x hG
  subst hst
  exact lj_back (fun H locs ls hP hS hL => va_runS (As := As) (rest := rest) ⟨C.1, C.2.1, C.2.2.1, C.2.2.2.1, C.2.2.2.2.1⟩ (hM H.size) cw ⟨ld_blind, fun U hU hW => ld_pre C hP hS hU hW⟩ rfl hn (hL.1.trans hlen) rfl (lv_room hcat) d hf) (k x hG hF2)
theorem lj_cVv (C : ld_C p l s m args meth c cc nL ret Ts own w) {y : MethodName} {bytes : ByteArray} {maxL index n mc ms : Nat} {rt : Option FieldType} {ws : List Cond} {rm : Room} {As rest st0 : List Value} {i ci : Nat} {Cn : String} {Tb : u_T} {N : Nat} {fs : List Value} {G : Option (ld_M)} {f : ld_M → Option ρ} (hM : ∀ (sz : Nat) (x : ld_M), G = some x → Met l y ws rm (ld_Pc w Z sz (.ref (ld_ad w i) :: As)) (ld_Q w (x) sz (none)) mc ms (ld_A w sz)) (cw : CallW R s args own Cn index y bytes maxL rt ws rm mc ms n) (hi : i < 87) (hcell : ld_cell w i (Z i) = .inr (ci, fs)) (hc : vwCl[ci]? = some (Cn, Tb, N)) (hn : As.length = n) (hlen : lv.length = nL) (hst : st0 = As.reverse ++ .ref (ld_ad w i) :: rest) (hcat : (rest.map fun v => v.category).sum ≤ 8) (hf : cells + mc ≤ R.cells ∧ slots + ms ≤ R.slots) (d : decode cc pc = .ok (.invokevirtual index, 3))
    (k : ∀ x : ld_M, G = some x → ld_T p l e R s m args below meth c Q w r (f x) (x) (cells + mc) (slots + ms) (pc + 3) lv rest) : ld_T p l e R s m args below meth c Q w r (ld_bd G f) Z cells slots pc lv st0 := by
  intro hF
  obtain ⟨x, hG, hF2⟩ := ld_bd_of hF
  have hM := fun sz => hM sz x hG
  subst hst
  exact lj_back (fun H locs ls hP hS hL => va_runV (As := As) (rest := rest) ⟨C.1, C.2.1, C.2.2.1, C.2.2.2.1, C.2.2.2.2.1⟩ (hM H.size) cw ⟨ld_blind, va_recv C.2.2.2.2.2.1 hP hc ((ld_at hi).trans (by rw [hcell])), fun U hU hW => ld_pre C hP hS hU hW⟩ rfl hn (hL.1.trans hlen) rfl (lv_room hcat) d hf) (k x hG hF2)
theorem lj_cSv (C : ld_C p l s m args meth c cc nL ret Ts own w) {y : MethodName} {bytes : ByteArray} {maxL index n mc ms : Nat} {rt : Option FieldType} {ws : List Cond} {rm : Room} {As rest st0 : List Value}  {G : Option (ld_M)} {f : ld_M → Option ρ} (hM : ∀ (sz : Nat) (x : ld_M), G = some x → Met l y ws rm (ld_Pc w Z sz As) (ld_Q w (x) sz (none)) mc ms (ld_A w sz)) (cw : CallB R s args own index y bytes maxL rt ws rm mc ms n ∧ (Cond.static y).before args s = true) (hn : As.length = n) (hlen : lv.length = nL) (hst : st0 = As.reverse ++ rest) (hcat : (rest.map fun v => v.category).sum ≤ 8) (hf : cells + mc ≤ R.cells ∧ slots + ms ≤ R.slots) (d : decode cc pc = .ok (.invokestatic index, 3))
    (k : ∀ x : ld_M, G = some x → ld_T p l e R s m args below meth c Q w r (f x) (x) (cells + mc) (slots + ms) (pc + 3) lv rest) : ld_T p l e R s m args below meth c Q w r (ld_bd G f) Z cells slots pc lv st0 := by
  intro hF
  obtain ⟨x, hG, hF2⟩ := ld_bd_of hF
  have hM := fun sz => hM sz x hG
  subst hst
  exact lj_back (fun H locs ls hP hS hL => va_runS (As := As) (rest := rest) ⟨C.1, C.2.1, C.2.2.1, C.2.2.2.1, C.2.2.2.2.1⟩ (hM H.size) cw ⟨ld_blind, fun U hU hW => ld_pre C hP hS hU hW⟩ rfl hn (hL.1.trans hlen) rfl (lv_room hcat) d hf) (k x hG hF2)
theorem lj_cVb (C : ld_C p l s m args meth c cc nL ret Ts own w) {y : MethodName} {bytes : ByteArray} {maxL index n mc ms : Nat} {rt : Option FieldType} {ws : List Cond} {rm : Room} {As rest st0 : List Value} {i ci : Nat} {Cn : String} {Tb : u_T} {N : Nat} {fs : List Value} {G : Option (Int32 × ld_M)} {f : Int32 × ld_M → Option ρ} (hM : ∀ (sz : Nat) (x : Int32 × ld_M), G = some x → Met l y ws rm (ld_Pc w Z sz (.ref (ld_ad w i) :: As)) (ld_Q w (x.2) sz (some (.int x.1))) mc ms (ld_A w sz)) (cw : CallW R s args own Cn index y bytes maxL rt ws rm mc ms n) (hi : i < 87) (hcell : ld_cell w i (Z i) = .inr (ci, fs)) (hc : vwCl[ci]? = some (Cn, Tb, N)) (hn : As.length = n) (hlen : lv.length = nL) (hst : st0 = As.reverse ++ .ref (ld_ad w i) :: rest) (hcat : (rest.map fun v => v.category).sum ≤ 8) (hf : cells + mc ≤ R.cells ∧ slots + ms ≤ R.slots) (d : decode cc pc = .ok (.invokevirtual index, 3))
    (k : ∀ x : Int32 × ld_M, G = some x → ld_T p l e R s m args below meth c Q w r (f x) (x.2) (cells + mc) (slots + ms) (pc + 3) lv (.int x.1 :: rest)) : ld_T p l e R s m args below meth c Q w r (ld_bd G f) Z cells slots pc lv st0 := by
  intro hF
  obtain ⟨x, hG, hF2⟩ := ld_bd_of hF
  have hM := fun sz => hM sz x hG
  subst hst
  exact lj_back (fun H locs ls hP hS hL => va_runV (As := As) (rest := rest) ⟨C.1, C.2.1, C.2.2.1, C.2.2.2.1, C.2.2.2.2.1⟩ (hM H.size) cw ⟨ld_blind, va_recv C.2.2.2.2.2.1 hP hc ((ld_at hi).trans (by rw [hcell])), fun U hU hW => ld_pre C hP hS hU hW⟩ rfl hn (hL.1.trans hlen) rfl (lv_room hcat) d hf) (k x hG hF2)
theorem lj_cSb (C : ld_C p l s m args meth c cc nL ret Ts own w) {y : MethodName} {bytes : ByteArray} {maxL index n mc ms : Nat} {rt : Option FieldType} {ws : List Cond} {rm : Room} {As rest st0 : List Value}  {G : Option (Int32 × ld_M)} {f : Int32 × ld_M → Option ρ} (hM : ∀ (sz : Nat) (x : Int32 × ld_M), G = some x → Met l y ws rm (ld_Pc w Z sz As) (ld_Q w (x.2) sz (some (.int x.1))) mc ms (ld_A w sz)) (cw : CallB R s args own index y bytes maxL rt ws rm mc ms n ∧ (Cond.static y).before args s = true) (hn : As.length = n) (hlen : lv.length = nL) (hst : st0 = As.reverse ++ rest) (hcat : (rest.map fun v => v.category).sum ≤ 8) (hf : cells + mc ≤ R.cells ∧ slots + ms ≤ R.slots) (d : decode cc pc = .ok (.invokestatic index, 3))
    (k : ∀ x : Int32 × ld_M, G = some x → ld_T p l e R s m args below meth c Q w r (f x) (x.2) (cells + mc) (slots + ms) (pc + 3) lv (.int x.1 :: rest)) : ld_T p l e R s m args below meth c Q w r (ld_bd G f) Z cells slots pc lv st0 := by
  intro hF
  obtain ⟨x, hG, hF2⟩ := ld_bd_of hF
  have hM := fun sz => hM sz x hG
  subst hst
  exact lj_back (fun H locs ls hP hS hL => va_runS (As := As) (rest := rest) ⟨C.1, C.2.1, C.2.2.1, C.2.2.2.1, C.2.2.2.2.1⟩ (hM H.size) cw ⟨ld_blind, fun U hU hW => ld_pre C hP hS hU hW⟩ rfl hn (hL.1.trans hlen) rfl (lv_room hcat) d hf) (k x hG hF2)
theorem lj_cVr (C : ld_C p l s m args meth c cc nL ret Ts own w) {y : MethodName} {bytes : ByteArray} {maxL index n mc ms : Nat} {rt : Option FieldType} {ws : List Cond} {rm : Room} {As rest st0 : List Value} {i ci : Nat} {Cn : String} {Tb : u_T} {N : Nat} {fs : List Value} {G : Option (Nat)} {f : Nat → Option ρ} (hM : ∀ (sz : Nat) (x : Nat), G = some x → Met l y ws rm (ld_Pc w Z sz (.ref (ld_ad w i) :: As)) (ld_Q w Z sz (some (.ref (ld_ad w x)))) mc ms (ld_A w sz)) (cw : CallW R s args own Cn index y bytes maxL rt ws rm mc ms n) (hi : i < 87) (hcell : ld_cell w i (Z i) = .inr (ci, fs)) (hc : vwCl[ci]? = some (Cn, Tb, N)) (hn : As.length = n) (hlen : lv.length = nL) (hst : st0 = As.reverse ++ .ref (ld_ad w i) :: rest) (hcat : (rest.map fun v => v.category).sum ≤ 8) (hf : cells + mc ≤ R.cells ∧ slots + ms ≤ R.slots) (d : decode cc pc = .ok (.invokevirtual index, 3))
    (k : ∀ x : Nat, G = some x → ld_T p l e R s m args below meth c Q w r (f x) Z (cells + mc) (slots + ms) (pc + 3) lv (.ref (ld_ad w x) :: rest)) : ld_T p l e R s m args below meth c Q w r (ld_bd G f) Z cells slots pc lv st0 := by
  intro hF
  obtain ⟨x, hG, hF2⟩ := ld_bd_of hF
  have hM := fun sz => hM sz x hG
  subst hst
  exact lj_back (fun H locs ls hP hS hL => va_runV (As := As) (rest := rest) ⟨C.1, C.2.1, C.2.2.1, C.2.2.2.1, C.2.2.2.2.1⟩ (hM H.size) cw ⟨ld_blind, va_recv C.2.2.2.2.2.1 hP hc ((ld_at hi).trans (by rw [hcell])), fun U hU hW => ld_pre C hP hS hU hW⟩ rfl hn (hL.1.trans hlen) rfl (lv_room hcat) d hf) (k x hG hF2)
theorem lj_cSr (C : ld_C p l s m args meth c cc nL ret Ts own w) {y : MethodName} {bytes : ByteArray} {maxL index n mc ms : Nat} {rt : Option FieldType} {ws : List Cond} {rm : Room} {As rest st0 : List Value}  {G : Option (Nat)} {f : Nat → Option ρ} (hM : ∀ (sz : Nat) (x : Nat), G = some x → Met l y ws rm (ld_Pc w Z sz As) (ld_Q w Z sz (some (.ref (ld_ad w x)))) mc ms (ld_A w sz)) (cw : CallB R s args own index y bytes maxL rt ws rm mc ms n ∧ (Cond.static y).before args s = true) (hn : As.length = n) (hlen : lv.length = nL) (hst : st0 = As.reverse ++ rest) (hcat : (rest.map fun v => v.category).sum ≤ 8) (hf : cells + mc ≤ R.cells ∧ slots + ms ≤ R.slots) (d : decode cc pc = .ok (.invokestatic index, 3))
    (k : ∀ x : Nat, G = some x → ld_T p l e R s m args below meth c Q w r (f x) Z (cells + mc) (slots + ms) (pc + 3) lv (.ref (ld_ad w x) :: rest)) : ld_T p l e R s m args below meth c Q w r (ld_bd G f) Z cells slots pc lv st0 := by
  intro hF
  obtain ⟨x, hG, hF2⟩ := ld_bd_of hF
  have hM := fun sz => hM sz x hG
  subst hst
  exact lj_back (fun H locs ls hP hS hL => va_runS (As := As) (rest := rest) ⟨C.1, C.2.1, C.2.2.1, C.2.2.2.1, C.2.2.2.2.1⟩ (hM H.size) cw ⟨ld_blind, fun U hU hW => ld_pre C hP hS hU hW⟩ rfl hn (hL.1.trans hlen) rfl (lv_room hcat) d hf) (k x hG hF2)
theorem lj_cVs (C : ld_C p l s m args meth c cc nL ret Ts own w) {y : MethodName} {bytes : ByteArray} {maxL index n mc ms : Nat} {rt : Option FieldType} {ws : List Cond} {rm : Room} {As rest st0 : List Value} {i ci : Nat} {Cn : String} {Tb : u_T} {N : Nat} {fs : List Value} {G : Option (Nat × ld_M)} {f : Nat × ld_M → Option ρ} (hM : ∀ (sz : Nat) (x : Nat × ld_M), G = some x → Met l y ws rm (ld_Pc w Z sz (.ref (ld_ad w i) :: As)) (ld_Q w (x.2) sz (some (.ref (ld_ad w x.1)))) mc ms (ld_A w sz)) (cw : CallW R s args own Cn index y bytes maxL rt ws rm mc ms n) (hi : i < 87) (hcell : ld_cell w i (Z i) = .inr (ci, fs)) (hc : vwCl[ci]? = some (Cn, Tb, N)) (hn : As.length = n) (hlen : lv.length = nL) (hst : st0 = As.reverse ++ .ref (ld_ad w i) :: rest) (hcat : (rest.map fun v => v.category).sum ≤ 8) (hf : cells + mc ≤ R.cells ∧ slots + ms ≤ R.slots) (d : decode cc pc = .ok (.invokevirtual index, 3))
    (k : ∀ x : Nat × ld_M, G = some x → ld_T p l e R s m args below meth c Q w r (f x) (x.2) (cells + mc) (slots + ms) (pc + 3) lv (.ref (ld_ad w x.1) :: rest)) : ld_T p l e R s m args below meth c Q w r (ld_bd G f) Z cells slots pc lv st0 := by
  intro hF
  obtain ⟨x, hG, hF2⟩ := ld_bd_of hF
  have hM := fun sz => hM sz x hG
  subst hst
  exact lj_back (fun H locs ls hP hS hL => va_runV (As := As) (rest := rest) ⟨C.1, C.2.1, C.2.2.1, C.2.2.2.1, C.2.2.2.2.1⟩ (hM H.size) cw ⟨ld_blind, va_recv C.2.2.2.2.2.1 hP hc ((ld_at hi).trans (by rw [hcell])), fun U hU hW => ld_pre C hP hS hU hW⟩ rfl hn (hL.1.trans hlen) rfl (lv_room hcat) d hf) (k x hG hF2)
theorem lj_cSs (C : ld_C p l s m args meth c cc nL ret Ts own w) {y : MethodName} {bytes : ByteArray} {maxL index n mc ms : Nat} {rt : Option FieldType} {ws : List Cond} {rm : Room} {As rest st0 : List Value}  {G : Option (Nat × ld_M)} {f : Nat × ld_M → Option ρ} (hM : ∀ (sz : Nat) (x : Nat × ld_M), G = some x → Met l y ws rm (ld_Pc w Z sz As) (ld_Q w (x.2) sz (some (.ref (ld_ad w x.1)))) mc ms (ld_A w sz)) (cw : CallB R s args own index y bytes maxL rt ws rm mc ms n ∧ (Cond.static y).before args s = true) (hn : As.length = n) (hlen : lv.length = nL) (hst : st0 = As.reverse ++ rest) (hcat : (rest.map fun v => v.category).sum ≤ 8) (hf : cells + mc ≤ R.cells ∧ slots + ms ≤ R.slots) (d : decode cc pc = .ok (.invokestatic index, 3))
    (k : ∀ x : Nat × ld_M, G = some x → ld_T p l e R s m args below meth c Q w r (f x) (x.2) (cells + mc) (slots + ms) (pc + 3) lv (.ref (ld_ad w x.1) :: rest)) : ld_T p l e R s m args below meth c Q w r (ld_bd G f) Z cells slots pc lv st0 := by
  intro hF
  obtain ⟨x, hG, hF2⟩ := ld_bd_of hF
  have hM := fun sz => hM sz x hG
  subst hst
  exact lj_back (fun H locs ls hP hS hL => va_runS (As := As) (rest := rest) ⟨C.1, C.2.1, C.2.2.1, C.2.2.2.1, C.2.2.2.2.1⟩ (hM H.size) cw ⟨ld_blind, fun U hU hW => ld_pre C hP hS hU hW⟩ rfl hn (hL.1.trans hlen) rfl (lv_room hcat) d hf) (k x hG hF2)
theorem lj_cNa (C : ld_C p l s m args meth c cc nL ret Ts own w) {y : MethodName} {bytes : ByteArray} {maxL index n mc ms : Nat} {rt : Option FieldType} {ws : List Cond} {rm : Room} {As rest st0 : List Value} {host : String} {G : Option Int32} {f : Int32 → Option ρ} (hM : ∀ (sz : Nat) (x : Int32), G = some x → Met l y ws rm (ld_Pc w Z sz As) (ld_Q w Z sz (some (.int x))) mc ms (ld_A w sz)) (cw : va_CN R s args own index y host bytes maxL rt ws rm mc ms n ∧ (Cond.static y).before args s = true ∧ True) (hn : As.length = n) (hlen : lv.length = nL) (hst : st0 = As.reverse ++ rest) (hcat : (rest.map fun v => v.category).sum ≤ 8) (hf : cells + mc ≤ R.cells ∧ slots + ms ≤ R.slots) (d : decode cc pc = .ok (.invokestatic index, 3))
    (k : ∀ x : Int32, G = some x → ld_T p l e R s m args below meth c Q w r (f x) Z (cells + mc) (slots + ms) (pc + 3) lv (.int x :: rest)) : ld_T p l e R s m args below meth c Q w r (ld_bd G f) Z cells slots pc lv st0 := by
  intro hF
  obtain ⟨x, hG, hF2⟩ := ld_bd_of hF
  have hM := fun sz => hM sz x hG
  subst hst
  exact lj_back (fun H locs ls hP hS hL => va_runSN (As := As) (rest := rest) ⟨C.1, C.2.1, C.2.2.1, C.2.2.2.1, C.2.2.2.2.1⟩ (hM H.size) cw ⟨ld_blind, fun U hU hW => ld_pre C hP hS hU hW⟩ rfl hn (hL.1.trans hlen) rfl (lv_room hcat) d hf) (k x hG hF2)
theorem lj_cW (C : ld_C p l s m args meth c cc nL ret Ts own w) {y : MethodName} {bytes : ByteArray} {maxL index n mc ms : Nat} {rt : Option FieldType} {ws : List Cond} {rm : Room} {As rest st0 : List Value} {hh : List (Nat × Nat × Nat × Nat)} {G : Option (Int32 × ld_M)} {f : Int32 × ld_M → Option ρ} (hM : ∀ (sz : Nat) (x : Int32 × ld_M), G = some x → Met l y ws rm (ld_Pc w Z sz As) (ld_Q w x.2 sz (some (.int x.1))) mc ms (ld_A w sz)) (cw : vx_CSW R s args own index y bytes maxL rt hh ws rm mc ms n) (hn : As.length = n) (hlen : lv.length = nL) (hst : st0 = As.reverse ++ rest) (hcat : (rest.map fun v => v.category).sum ≤ 8) (hf : cells + mc ≤ R.cells ∧ slots + ms ≤ R.slots) (d : decode cc pc = .ok (.invokestatic index, 3))
    (k : ∀ x : Int32 × ld_M, G = some x → ld_T p l e R s m args below meth c Q w r (f x) x.2 (cells + mc) (slots + ms) (pc + 3) lv (.int x.1 :: rest)) : ld_T p l e R s m args below meth c Q w r (ld_bd G f) Z cells slots pc lv st0 := by
  intro hF
  obtain ⟨x, hG, hF2⟩ := ld_bd_of hF
  have hM := fun sz => hM sz x hG
  subst hst
  exact lj_back (fun H locs ls hP hS hL => vx_runSW (As := As) (rest := rest) ⟨C.1, C.2.1, C.2.2.1, C.2.2.2.1, C.2.2.2.2.1⟩ (hM H.size) cw ⟨ld_blind, fun U hU hW => ld_pre C hP hS hU hW⟩ rfl hn (hL.1.trans hlen) rfl (lv_room hcat) d hf) (k x hG hF2)
def ld_Q0 (w : ld_E) (Z : ld_M) (sz : Nat) (r : Unit ⊕ Nat) : Array Value → State → Outcome → State → Prop := fun a st oc t => ∃ x, r = .inl x ∧ ld_Q w Z sz none a st oc t
def ld_Q1 (w : ld_E) (Z : ld_M) (sz : Nat) (r : Int32 ⊕ Nat) : Array Value → State → Outcome → State → Prop := fun a st oc t => ∃ x, r = .inl x ∧ ld_Q w Z sz (some (.int x)) a st oc t
def ld_Q2 (w : ld_E) (Z : ld_M) (sz : Nat) (r : ld_M ⊕ Nat) : Array Value → State → Outcome → State → Prop := fun a st oc t => ∃ x, r = .inl x ∧ ld_Q w x sz none a st oc t
def ld_Q3 (w : ld_E) (Z : ld_M) (sz : Nat) (r : (Int32 × ld_M) ⊕ Nat) : Array Value → State → Outcome → State → Prop := fun a st oc t => ∃ x, r = .inl x ∧ ld_Q w x.2 sz (some (.int x.1)) a st oc t
def ld_XC (w : ld_E) (Z : ld_M) (sz : Nat) {ρ : Type} (r : ρ ⊕ Nat) : String → State → State → Prop := fun E st t => (∃ e : Nat, r = .inr e ∧ e < 3 ∧ E = ld_en e) ∧ va_P w.1 vwCl (ld_W w Z) t.heap ∧ va_F (ld_A w sz) st t
theorem lj_xV0 {σ : Type} {r : σ ⊕ Nat} (C : ld_C p l s m args meth c cc nL ret Ts own w) (htb : ∀ x ∈ c.exceptionTable.toList, False) {Qc : Array Value → State → Outcome → State → Prop} {mc9 ms9 : Nat} {y : MethodName} {bytes : ByteArray} {maxL index n mc ms : Nat} {rt : Option FieldType} {ws : List Cond} {rm : Room} {As rest st0 : List Value} {i ci : Nat} {Cn : String} {Tb : u_T} {N : Nat} {fs : List Value} {G : Option (Unit ⊕ Nat)} {f : Unit → Option (σ ⊕ Nat)} (hM : ∀ (sz : Nat) (x : Unit ⊕ Nat), G = some x → vx_Met l y ws rm (ld_Pc w Z sz (.ref (ld_ad w i) :: As)) (ld_Q0 w Z sz x) (ld_XC w Z sz x) mc ms (ld_A w sz)) (cw : CallW R s args own Cn index y bytes maxL rt ws rm mc ms n) (hi : i < 87) (hcell : ld_cell w i (Z i) = .inr (ci, fs)) (hc : vwCl[ci]? = some (Cn, Tb, N)) (hn : As.length = n) (hlen : lv.length = nL) (hst : st0 = As.reverse ++ .ref (ld_ad w i) :: rest) (hcat : (rest.map fun v => v.category).sum ≤ 8) (hf : cells + mc ≤ R.cells ∧ slots + ms ≤ R.slots) (hc9 : cells + mc ≤ mc9) (hs9 : slots + ms ≤ ms9) (d : decode cc pc = .ok (.invokevirtual index, 3))
    (k : ∀ x : Unit, G = some (.inl x) → ld_T p l e R s m args below meth c (vx_MQ below Qc (ld_XC w Z s.heap.size r) args s mc9 ms9 (ld_A w s.heap.size)) w r (f x) Z (cells + mc) (slots + ms) (pc + 3) lv rest) : ld_T p l e R s m args below meth c (vx_MQ below Qc (ld_XC w Z s.heap.size r) args s mc9 ms9 (ld_A w s.heap.size)) w r (ld_bx G f) Z cells slots pc lv st0 := by
  intro hF H locs ls hP hS hL T hT X
  subst hst
  rcases ld_bx_of hF with ⟨x, hG, hF2⟩ | ⟨e9, hG, hr9⟩
  · rcases (vx_runV (As := As) (rest := rest) ⟨C.1, C.2.1, C.2.2.1, C.2.2.2.1, C.2.2.2.2.1⟩ (hM H.size _ hG) cw ⟨ld_blind, va_recv C.2.2.2.2.2.1 hP hc ((ld_at hi).trans (by rw [hcell])), fun U hU hW => ld_pre C hP hS hU hW⟩ rfl hn (hL.1.trans hlen) rfl (lv_room hcat) d hf) T hT X with ⟨v, st₀, t, T', L, h0, X', hL', e1, e2, ⟨x9, hx9, hv, hP2, hF9⟩, stp⟩ | ⟨q, st₀, t, T', L, E, ce, h0, X', hL', e1, e2, ⟨⟨e9, he9, -⟩, -⟩, -⟩
    · cases hx9
      cases hv
      obtain ⟨t2, a1, b1⟩ := k x hG hF2 t.heap (locs ++ L) ls hP2 (ld_S2 hS h0 hF9 hL') hL T' e1 X'
      exact ⟨t2, stp t2 a1, b1⟩
    · cases he9
  · rcases (vx_runV (As := As) (rest := rest) ⟨C.1, C.2.1, C.2.2.1, C.2.2.2.1, C.2.2.2.2.1⟩ (hM H.size _ hG) cw ⟨ld_blind, va_recv C.2.2.2.2.2.1 hP hc ((ld_at hi).trans (by rw [hcell])), fun U hU hW => ld_pre C hP hS hU hW⟩ rfl hn (hL.1.trans hlen) rfl (lv_room hcat) d hf) T hT X with ⟨v, st₀, t, T', L, h0, X', hL', e1, e2, ⟨x9, hx9, -⟩, -⟩ | ⟨q, st₀, t, T', L, E, ce, h0, X', hL', e1, e2, ⟨⟨e8, he8, hlt8, hE⟩, hP2, hF9⟩, hce, hcv, hcl, stp⟩
    · cases hx9
    · cases he8
      have hS9 := ld_S2 hS h0 hF9 hL'
      obtain ⟨t2, a1, b1⟩ := (vx_out (Qc := Qc) (XC := ld_XC w Z s.heap.size r) (mc := mc9) (ms := ms9) (free := ld_A w s.heap.size) (pc := pc) (ls := ls) (rest := rest) (fun x hx => (htb x hx).elim) C.2.2.2.2.2.2.1 (H := T'.heap) (by rw [e1]; exact hce) hcv hcl (fun t9 ht9 _ => ⟨⟨e9, hr9, hlt8, hE⟩, by rw [ht9, e1]; exact hP2, hS9.F (ht9.trans e1)⟩) (fun z hz => hS9.2.2 z hz) hc9 hs9) T' rfl X'
      exact ⟨t2, stp.trans a1, b1⟩
theorem lj_h10 (C : ld_C p l s m args meth c cc nL ret Ts own w) {y : MethodName} {bytes : ByteArray} {maxL index n mc ms : Nat} {rt : Option FieldType} {ws : List Cond} {rm : Room} {As rest st0 : List Value} {i ci : Nat} {Cn : String} {Tb : u_T} {N : Nat} {fs : List Value} {p0 p1 : Nat} {A1 : Option ρ} (e1 : Nat) (hp1 nm1 : Nat) (htb : c.exceptionTable.toList = [⟨p0, p1, hp1, nm1⟩]) (hcov : p0 ≤ pc ∧ pc < p1) (hl1 : Cond.classLink own nm1 (ld_en e1) ∈ Ts) (hn1 : nm1 ≠ 0) (hlt1 : e1 < 3) {G : Option (Unit ⊕ Nat)} {f : Unit → Option ρ} (hM : ∀ (sz : Nat) (x : Unit ⊕ Nat), G = some x → vx_Met l y ws rm (ld_Pc w Z sz (.ref (ld_ad w i) :: As)) (ld_Q0 w Z sz x) (ld_XC w Z sz x) mc ms (ld_A w sz)) (cw : CallW R s args own Cn index y bytes maxL rt ws rm mc ms n) (hi : i < 87) (hcell : ld_cell w i (Z i) = .inr (ci, fs)) (hc : vwCl[ci]? = some (Cn, Tb, N)) (hn : As.length = n) (hlen : lv.length = nL) (hst : st0 = As.reverse ++ .ref (ld_ad w i) :: rest) (hcat : (rest.map fun v => v.category).sum ≤ 8) (hf : cells + mc ≤ R.cells ∧ slots + ms ≤ R.slots) (d : decode cc pc = .ok (.invokevirtual index, 3))
    (k : ∀ x : Unit, G = some (.inl x) → ld_T p l e R s m args below meth c Q w r (f x) Z (cells + mc) (slots + ms) (pc + 3) lv rest) (k1 : ∀ q : Nat, ld_T p l e R s m args below meth c Q w r A1 Z (cells + mc) (slots + ms) hp1 lv [.ref q]) : ld_T p l e R s m args below meth c Q w r (ld_bh G f (fun e9 => if e9 = e1 then A1 else none)) Z cells slots pc lv st0 := by
  intro hF H locs ls hP hS hL T hT X
  subst hst
  rcases ld_bh_of hF with ⟨x, hG, hF2⟩ | ⟨e9, hG, hF2⟩
  · rcases (vx_runV (As := As) (rest := rest) ⟨C.1, C.2.1, C.2.2.1, C.2.2.2.1, C.2.2.2.2.1⟩ (hM H.size _ hG) cw ⟨ld_blind, va_recv C.2.2.2.2.2.1 hP hc ((ld_at hi).trans (by rw [hcell])), fun U hU hW => ld_pre C hP hS hU hW⟩ rfl hn (hL.1.trans hlen) rfl (lv_room hcat) d hf) T hT X with ⟨v, st₀, t, T', L, h0, X', hL', e1', e2', ⟨x9, hx9, hv, hP2, hF9⟩, stp⟩ | ⟨q, st₀, t, T', L, E, ce, h0, X', hL', e1', e2', ⟨⟨e9, he9, -⟩, -⟩, -⟩
    · cases hx9
      cases hv
      obtain ⟨t2, a1, b1⟩ := k x hG hF2 t.heap (locs ++ L) ls hP2 (ld_S2 hS h0 hF9 hL') hL T' e1' X'
      exact ⟨t2, stp t2 a1, b1⟩
    · cases he9
  · rcases (vx_runV (As := As) (rest := rest) ⟨C.1, C.2.1, C.2.2.1, C.2.2.2.1, C.2.2.2.2.1⟩ (hM H.size _ hG) cw ⟨ld_blind, va_recv C.2.2.2.2.2.1 hP hc ((ld_at hi).trans (by rw [hcell])), fun U hU hW => ld_pre C hP hS hU hW⟩ rfl hn (hL.1.trans hlen) rfl (lv_room hcat) d hf) T hT X with ⟨v, st₀, t, T', L, h0, X', hL', e1', e2', ⟨x9, hx9, -⟩, -⟩ | ⟨q, st₀, t, T', L, E, ce, h0, X', hL', e1', e2', ⟨⟨e8, he8, hlt8, hE⟩, hP2, hF9⟩, hce, hcv, hcl, stp⟩
    · cases hx9
    · cases he8
      have hS9 := ld_S2 hS h0 hF9 hL'
      have hX := C.2.2.2.2.2.2.2.2.1
      by_cases g1 : e9 = e1
      · rw [if_pos g1] at hF2
        obtain ⟨t2, a1, b1⟩ := (vx_catch (pc := pc) (ls := ls) (rest := rest) (E := E) (name := ld_en e1) C.2.2.2.1 [] ⟨p0, p1, hp1, nm1⟩ [] htb (fun z hz => by cases hz) (by simp [covers]; exact hcov) hn1 (C.2.2.2.2.1 _ hl1) (va_Nw.use rfl (by rw [hE, g1]; exact hX.2.1 e1)) (by rw [e1']; exact hce) hcv hcl (k1 q hF2 T'.heap (locs ++ L) ls (by rw [e1']; exact hP2) (by rw [e1']; exact hS9) hL)) T' rfl X'
        exact ⟨t2, stp.trans a1, b1⟩
      · rw [if_neg g1] at hF2
        cases hF2
theorem lj_h20 (C : ld_C p l s m args meth c cc nL ret Ts own w) {y : MethodName} {bytes : ByteArray} {maxL index n mc ms : Nat} {rt : Option FieldType} {ws : List Cond} {rm : Room} {As rest st0 : List Value} {i ci : Nat} {Cn : String} {Tb : u_T} {N : Nat} {fs : List Value} {p0 p1 : Nat} {A1 : Option ρ} (e1 : Nat) (hp1 nm1 : Nat) {A2 : Option ρ} (e2 : Nat) (hp2 nm2 : Nat) (htb : c.exceptionTable.toList = [⟨p0, p1, hp1, nm1⟩, ⟨p0, p1, hp2, nm2⟩]) (hcov : p0 ≤ pc ∧ pc < p1) (hl1 : Cond.classLink own nm1 (ld_en e1) ∈ Ts) (hn1 : nm1 ≠ 0) (hlt1 : e1 < 3) (hl2 : Cond.classLink own nm2 (ld_en e2) ∈ Ts) (hn2 : nm2 ≠ 0) (hlt2 : e2 < 3) {G : Option (Unit ⊕ Nat)} {f : Unit → Option ρ} (hM : ∀ (sz : Nat) (x : Unit ⊕ Nat), G = some x → vx_Met l y ws rm (ld_Pc w Z sz (.ref (ld_ad w i) :: As)) (ld_Q0 w Z sz x) (ld_XC w Z sz x) mc ms (ld_A w sz)) (cw : CallW R s args own Cn index y bytes maxL rt ws rm mc ms n) (hi : i < 87) (hcell : ld_cell w i (Z i) = .inr (ci, fs)) (hc : vwCl[ci]? = some (Cn, Tb, N)) (hn : As.length = n) (hlen : lv.length = nL) (hst : st0 = As.reverse ++ .ref (ld_ad w i) :: rest) (hcat : (rest.map fun v => v.category).sum ≤ 8) (hf : cells + mc ≤ R.cells ∧ slots + ms ≤ R.slots) (d : decode cc pc = .ok (.invokevirtual index, 3))
    (k : ∀ x : Unit, G = some (.inl x) → ld_T p l e R s m args below meth c Q w r (f x) Z (cells + mc) (slots + ms) (pc + 3) lv rest) (k1 : ∀ q : Nat, ld_T p l e R s m args below meth c Q w r A1 Z (cells + mc) (slots + ms) hp1 lv [.ref q]) (k2 : ∀ q : Nat, ld_T p l e R s m args below meth c Q w r A2 Z (cells + mc) (slots + ms) hp2 lv [.ref q]) : ld_T p l e R s m args below meth c Q w r (ld_bh G f (fun e9 => if e9 = e1 then A1 else if e9 = e2 then A2 else none)) Z cells slots pc lv st0 := by
  intro hF H locs ls hP hS hL T hT X
  subst hst
  rcases ld_bh_of hF with ⟨x, hG, hF2⟩ | ⟨e9, hG, hF2⟩
  · rcases (vx_runV (As := As) (rest := rest) ⟨C.1, C.2.1, C.2.2.1, C.2.2.2.1, C.2.2.2.2.1⟩ (hM H.size _ hG) cw ⟨ld_blind, va_recv C.2.2.2.2.2.1 hP hc ((ld_at hi).trans (by rw [hcell])), fun U hU hW => ld_pre C hP hS hU hW⟩ rfl hn (hL.1.trans hlen) rfl (lv_room hcat) d hf) T hT X with ⟨v, st₀, t, T', L, h0, X', hL', e1', e2', ⟨x9, hx9, hv, hP2, hF9⟩, stp⟩ | ⟨q, st₀, t, T', L, E, ce, h0, X', hL', e1', e2', ⟨⟨e9, he9, -⟩, -⟩, -⟩
    · cases hx9
      cases hv
      obtain ⟨t2, a1, b1⟩ := k x hG hF2 t.heap (locs ++ L) ls hP2 (ld_S2 hS h0 hF9 hL') hL T' e1' X'
      exact ⟨t2, stp t2 a1, b1⟩
    · cases he9
  · rcases (vx_runV (As := As) (rest := rest) ⟨C.1, C.2.1, C.2.2.1, C.2.2.2.1, C.2.2.2.2.1⟩ (hM H.size _ hG) cw ⟨ld_blind, va_recv C.2.2.2.2.2.1 hP hc ((ld_at hi).trans (by rw [hcell])), fun U hU hW => ld_pre C hP hS hU hW⟩ rfl hn (hL.1.trans hlen) rfl (lv_room hcat) d hf) T hT X with ⟨v, st₀, t, T', L, h0, X', hL', e1', e2', ⟨x9, hx9, -⟩, -⟩ | ⟨q, st₀, t, T', L, E, ce, h0, X', hL', e1', e2', ⟨⟨e8, he8, hlt8, hE⟩, hP2, hF9⟩, hce, hcv, hcl, stp⟩
    · cases hx9
    · cases he8
      have hS9 := ld_S2 hS h0 hF9 hL'
      have hX := C.2.2.2.2.2.2.2.2.1
      by_cases g1 : e9 = e1
      · rw [if_pos g1] at hF2
        obtain ⟨t2, a1, b1⟩ := (vx_catch (pc := pc) (ls := ls) (rest := rest) (E := E) (name := ld_en e1) C.2.2.2.1 [] ⟨p0, p1, hp1, nm1⟩ [⟨p0, p1, hp2, nm2⟩] htb (fun z hz => by cases hz) (by simp [covers]; exact hcov) hn1 (C.2.2.2.2.1 _ hl1) (va_Nw.use rfl (by rw [hE, g1]; exact hX.2.1 e1)) (by rw [e1']; exact hce) hcv hcl (k1 q hF2 T'.heap (locs ++ L) ls (by rw [e1']; exact hP2) (by rw [e1']; exact hS9) hL)) T' rfl X'
        exact ⟨t2, stp.trans a1, b1⟩
      · rw [if_neg g1] at hF2
        by_cases g2 : e9 = e2
        · rw [if_pos g2] at hF2
          obtain ⟨t2, a1, b1⟩ := (vx_catch (pc := pc) (ls := ls) (rest := rest) (E := E) (name := ld_en e2) C.2.2.2.1 [⟨p0, p1, hp1, nm1⟩] ⟨p0, p1, hp2, nm2⟩ [] htb (fun z hz => by
            rw [List.mem_singleton] at hz
            subst hz
            exact Or.inr ⟨hn1, ld_en e1, C.2.2.2.2.1 _ hl1, by rw [hE]; exact hX.2.2.2.1 e9 e1 hlt8 hlt1 g1⟩) (by simp [covers]; exact hcov) hn2 (C.2.2.2.2.1 _ hl2) (va_Nw.use rfl (by rw [hE, g2]; exact hX.2.1 e2)) (by rw [e1']; exact hce) hcv hcl (k2 q hF2 T'.heap (locs ++ L) ls (by rw [e1']; exact hP2) (by rw [e1']; exact hS9) hL)) T' rfl X'
          exact ⟨t2, stp.trans a1, b1⟩
        · rw [if_neg g2] at hF2
          cases hF2
theorem lj_xS0 {σ : Type} {r : σ ⊕ Nat} (C : ld_C p l s m args meth c cc nL ret Ts own w) (htb : ∀ x ∈ c.exceptionTable.toList, False) {Qc : Array Value → State → Outcome → State → Prop} {mc9 ms9 : Nat} {y : MethodName} {bytes : ByteArray} {maxL index n mc ms : Nat} {rt : Option FieldType} {ws : List Cond} {rm : Room} {As rest st0 : List Value}  {G : Option (Unit ⊕ Nat)} {f : Unit → Option (σ ⊕ Nat)} (hM : ∀ (sz : Nat) (x : Unit ⊕ Nat), G = some x → vx_Met l y ws rm (ld_Pc w Z sz As) (ld_Q0 w Z sz x) (ld_XC w Z sz x) mc ms (ld_A w sz)) (cw : CallB R s args own index y bytes maxL rt ws rm mc ms n ∧ (Cond.static y).before args s = true) (hn : As.length = n) (hlen : lv.length = nL) (hst : st0 = As.reverse ++ rest) (hcat : (rest.map fun v => v.category).sum ≤ 8) (hf : cells + mc ≤ R.cells ∧ slots + ms ≤ R.slots) (hc9 : cells + mc ≤ mc9) (hs9 : slots + ms ≤ ms9) (d : decode cc pc = .ok (.invokestatic index, 3))
    (k : ∀ x : Unit, G = some (.inl x) → ld_T p l e R s m args below meth c (vx_MQ below Qc (ld_XC w Z s.heap.size r) args s mc9 ms9 (ld_A w s.heap.size)) w r (f x) Z (cells + mc) (slots + ms) (pc + 3) lv rest) : ld_T p l e R s m args below meth c (vx_MQ below Qc (ld_XC w Z s.heap.size r) args s mc9 ms9 (ld_A w s.heap.size)) w r (ld_bx G f) Z cells slots pc lv st0 := by
  intro hF H locs ls hP hS hL T hT X
  subst hst
  rcases ld_bx_of hF with ⟨x, hG, hF2⟩ | ⟨e9, hG, hr9⟩
  · rcases (vx_runS (As := As) (rest := rest) ⟨C.1, C.2.1, C.2.2.1, C.2.2.2.1, C.2.2.2.2.1⟩ (hM H.size _ hG) cw ⟨ld_blind, fun U hU hW => ld_pre C hP hS hU hW⟩ rfl hn (hL.1.trans hlen) rfl (lv_room hcat) d hf) T hT X with ⟨v, st₀, t, T', L, h0, X', hL', e1, e2, ⟨x9, hx9, hv, hP2, hF9⟩, stp⟩ | ⟨q, st₀, t, T', L, E, ce, h0, X', hL', e1, e2, ⟨⟨e9, he9, -⟩, -⟩, -⟩
    · cases hx9
      cases hv
      obtain ⟨t2, a1, b1⟩ := k x hG hF2 t.heap (locs ++ L) ls hP2 (ld_S2 hS h0 hF9 hL') hL T' e1 X'
      exact ⟨t2, stp t2 a1, b1⟩
    · cases he9
  · rcases (vx_runS (As := As) (rest := rest) ⟨C.1, C.2.1, C.2.2.1, C.2.2.2.1, C.2.2.2.2.1⟩ (hM H.size _ hG) cw ⟨ld_blind, fun U hU hW => ld_pre C hP hS hU hW⟩ rfl hn (hL.1.trans hlen) rfl (lv_room hcat) d hf) T hT X with ⟨v, st₀, t, T', L, h0, X', hL', e1, e2, ⟨x9, hx9, -⟩, -⟩ | ⟨q, st₀, t, T', L, E, ce, h0, X', hL', e1, e2, ⟨⟨e8, he8, hlt8, hE⟩, hP2, hF9⟩, hce, hcv, hcl, stp⟩
    · cases hx9
    · cases he8
      have hS9 := ld_S2 hS h0 hF9 hL'
      obtain ⟨t2, a1, b1⟩ := (vx_out (Qc := Qc) (XC := ld_XC w Z s.heap.size r) (mc := mc9) (ms := ms9) (free := ld_A w s.heap.size) (pc := pc) (ls := ls) (rest := rest) (fun x hx => (htb x hx).elim) C.2.2.2.2.2.2.1 (H := T'.heap) (by rw [e1]; exact hce) hcv hcl (fun t9 ht9 _ => ⟨⟨e9, hr9, hlt8, hE⟩, by rw [ht9, e1]; exact hP2, hS9.F (ht9.trans e1)⟩) (fun z hz => hS9.2.2 z hz) hc9 hs9) T' rfl X'
      exact ⟨t2, stp.trans a1, b1⟩
theorem lj_xV1 {σ : Type} {r : σ ⊕ Nat} (C : ld_C p l s m args meth c cc nL ret Ts own w) (htb : ∀ x ∈ c.exceptionTable.toList, False) {Qc : Array Value → State → Outcome → State → Prop} {mc9 ms9 : Nat} {y : MethodName} {bytes : ByteArray} {maxL index n mc ms : Nat} {rt : Option FieldType} {ws : List Cond} {rm : Room} {As rest st0 : List Value} {i ci : Nat} {Cn : String} {Tb : u_T} {N : Nat} {fs : List Value} {G : Option (Int32 ⊕ Nat)} {f : Int32 → Option (σ ⊕ Nat)} (hM : ∀ (sz : Nat) (x : Int32 ⊕ Nat), G = some x → vx_Met l y ws rm (ld_Pc w Z sz (.ref (ld_ad w i) :: As)) (ld_Q1 w Z sz x) (ld_XC w Z sz x) mc ms (ld_A w sz)) (cw : CallW R s args own Cn index y bytes maxL rt ws rm mc ms n) (hi : i < 87) (hcell : ld_cell w i (Z i) = .inr (ci, fs)) (hc : vwCl[ci]? = some (Cn, Tb, N)) (hn : As.length = n) (hlen : lv.length = nL) (hst : st0 = As.reverse ++ .ref (ld_ad w i) :: rest) (hcat : (rest.map fun v => v.category).sum ≤ 8) (hf : cells + mc ≤ R.cells ∧ slots + ms ≤ R.slots) (hc9 : cells + mc ≤ mc9) (hs9 : slots + ms ≤ ms9) (d : decode cc pc = .ok (.invokevirtual index, 3))
    (k : ∀ x : Int32, G = some (.inl x) → ld_T p l e R s m args below meth c (vx_MQ below Qc (ld_XC w Z s.heap.size r) args s mc9 ms9 (ld_A w s.heap.size)) w r (f x) Z (cells + mc) (slots + ms) (pc + 3) lv (.int x :: rest)) : ld_T p l e R s m args below meth c (vx_MQ below Qc (ld_XC w Z s.heap.size r) args s mc9 ms9 (ld_A w s.heap.size)) w r (ld_bx G f) Z cells slots pc lv st0 := by
  intro hF H locs ls hP hS hL T hT X
  subst hst
  rcases ld_bx_of hF with ⟨x, hG, hF2⟩ | ⟨e9, hG, hr9⟩
  · rcases (vx_runV (As := As) (rest := rest) ⟨C.1, C.2.1, C.2.2.1, C.2.2.2.1, C.2.2.2.2.1⟩ (hM H.size _ hG) cw ⟨ld_blind, va_recv C.2.2.2.2.2.1 hP hc ((ld_at hi).trans (by rw [hcell])), fun U hU hW => ld_pre C hP hS hU hW⟩ rfl hn (hL.1.trans hlen) rfl (lv_room hcat) d hf) T hT X with ⟨v, st₀, t, T', L, h0, X', hL', e1, e2, ⟨x9, hx9, hv, hP2, hF9⟩, stp⟩ | ⟨q, st₀, t, T', L, E, ce, h0, X', hL', e1, e2, ⟨⟨e9, he9, -⟩, -⟩, -⟩
    · cases hx9
      cases hv
      obtain ⟨t2, a1, b1⟩ := k x hG hF2 t.heap (locs ++ L) ls hP2 (ld_S2 hS h0 hF9 hL') hL T' e1 X'
      exact ⟨t2, stp t2 a1, b1⟩
    · cases he9
  · rcases (vx_runV (As := As) (rest := rest) ⟨C.1, C.2.1, C.2.2.1, C.2.2.2.1, C.2.2.2.2.1⟩ (hM H.size _ hG) cw ⟨ld_blind, va_recv C.2.2.2.2.2.1 hP hc ((ld_at hi).trans (by rw [hcell])), fun U hU hW => ld_pre C hP hS hU hW⟩ rfl hn (hL.1.trans hlen) rfl (lv_room hcat) d hf) T hT X with ⟨v, st₀, t, T', L, h0, X', hL', e1, e2, ⟨x9, hx9, -⟩, -⟩ | ⟨q, st₀, t, T', L, E, ce, h0, X', hL', e1, e2, ⟨⟨e8, he8, hlt8, hE⟩, hP2, hF9⟩, hce, hcv, hcl, stp⟩
    · cases hx9
    · cases he8
      have hS9 := ld_S2 hS h0 hF9 hL'
      obtain ⟨t2, a1, b1⟩ := (vx_out (Qc := Qc) (XC := ld_XC w Z s.heap.size r) (mc := mc9) (ms := ms9) (free := ld_A w s.heap.size) (pc := pc) (ls := ls) (rest := rest) (fun x hx => (htb x hx).elim) C.2.2.2.2.2.2.1 (H := T'.heap) (by rw [e1]; exact hce) hcv hcl (fun t9 ht9 _ => ⟨⟨e9, hr9, hlt8, hE⟩, by rw [ht9, e1]; exact hP2, hS9.F (ht9.trans e1)⟩) (fun z hz => hS9.2.2 z hz) hc9 hs9) T' rfl X'
      exact ⟨t2, stp.trans a1, b1⟩
theorem lj_h11 (C : ld_C p l s m args meth c cc nL ret Ts own w) {y : MethodName} {bytes : ByteArray} {maxL index n mc ms : Nat} {rt : Option FieldType} {ws : List Cond} {rm : Room} {As rest st0 : List Value} {i ci : Nat} {Cn : String} {Tb : u_T} {N : Nat} {fs : List Value} {p0 p1 : Nat} {A1 : Option ρ} (e1 : Nat) (hp1 nm1 : Nat) (htb : c.exceptionTable.toList = [⟨p0, p1, hp1, nm1⟩]) (hcov : p0 ≤ pc ∧ pc < p1) (hl1 : Cond.classLink own nm1 (ld_en e1) ∈ Ts) (hn1 : nm1 ≠ 0) (hlt1 : e1 < 3) {G : Option (Int32 ⊕ Nat)} {f : Int32 → Option ρ} (hM : ∀ (sz : Nat) (x : Int32 ⊕ Nat), G = some x → vx_Met l y ws rm (ld_Pc w Z sz (.ref (ld_ad w i) :: As)) (ld_Q1 w Z sz x) (ld_XC w Z sz x) mc ms (ld_A w sz)) (cw : CallW R s args own Cn index y bytes maxL rt ws rm mc ms n) (hi : i < 87) (hcell : ld_cell w i (Z i) = .inr (ci, fs)) (hc : vwCl[ci]? = some (Cn, Tb, N)) (hn : As.length = n) (hlen : lv.length = nL) (hst : st0 = As.reverse ++ .ref (ld_ad w i) :: rest) (hcat : (rest.map fun v => v.category).sum ≤ 8) (hf : cells + mc ≤ R.cells ∧ slots + ms ≤ R.slots) (d : decode cc pc = .ok (.invokevirtual index, 3))
    (k : ∀ x : Int32, G = some (.inl x) → ld_T p l e R s m args below meth c Q w r (f x) Z (cells + mc) (slots + ms) (pc + 3) lv (.int x :: rest)) (k1 : ∀ q : Nat, ld_T p l e R s m args below meth c Q w r A1 Z (cells + mc) (slots + ms) hp1 lv [.ref q]) : ld_T p l e R s m args below meth c Q w r (ld_bh G f (fun e9 => if e9 = e1 then A1 else none)) Z cells slots pc lv st0 := by
  intro hF H locs ls hP hS hL T hT X
  subst hst
  rcases ld_bh_of hF with ⟨x, hG, hF2⟩ | ⟨e9, hG, hF2⟩
  · rcases (vx_runV (As := As) (rest := rest) ⟨C.1, C.2.1, C.2.2.1, C.2.2.2.1, C.2.2.2.2.1⟩ (hM H.size _ hG) cw ⟨ld_blind, va_recv C.2.2.2.2.2.1 hP hc ((ld_at hi).trans (by rw [hcell])), fun U hU hW => ld_pre C hP hS hU hW⟩ rfl hn (hL.1.trans hlen) rfl (lv_room hcat) d hf) T hT X with ⟨v, st₀, t, T', L, h0, X', hL', e1', e2', ⟨x9, hx9, hv, hP2, hF9⟩, stp⟩ | ⟨q, st₀, t, T', L, E, ce, h0, X', hL', e1', e2', ⟨⟨e9, he9, -⟩, -⟩, -⟩
    · cases hx9
      cases hv
      obtain ⟨t2, a1, b1⟩ := k x hG hF2 t.heap (locs ++ L) ls hP2 (ld_S2 hS h0 hF9 hL') hL T' e1' X'
      exact ⟨t2, stp t2 a1, b1⟩
    · cases he9
  · rcases (vx_runV (As := As) (rest := rest) ⟨C.1, C.2.1, C.2.2.1, C.2.2.2.1, C.2.2.2.2.1⟩ (hM H.size _ hG) cw ⟨ld_blind, va_recv C.2.2.2.2.2.1 hP hc ((ld_at hi).trans (by rw [hcell])), fun U hU hW => ld_pre C hP hS hU hW⟩ rfl hn (hL.1.trans hlen) rfl (lv_room hcat) d hf) T hT X with ⟨v, st₀, t, T', L, h0, X', hL', e1', e2', ⟨x9, hx9, -⟩, -⟩ | ⟨q, st₀, t, T', L, E, ce, h0, X', hL', e1', e2', ⟨⟨e8, he8, hlt8, hE⟩, hP2, hF9⟩, hce, hcv, hcl, stp⟩
    · cases hx9
    · cases he8
      have hS9 := ld_S2 hS h0 hF9 hL'
      have hX := C.2.2.2.2.2.2.2.2.1
      by_cases g1 : e9 = e1
      · rw [if_pos g1] at hF2
        obtain ⟨t2, a1, b1⟩ := (vx_catch (pc := pc) (ls := ls) (rest := rest) (E := E) (name := ld_en e1) C.2.2.2.1 [] ⟨p0, p1, hp1, nm1⟩ [] htb (fun z hz => by cases hz) (by simp [covers]; exact hcov) hn1 (C.2.2.2.2.1 _ hl1) (va_Nw.use rfl (by rw [hE, g1]; exact hX.2.1 e1)) (by rw [e1']; exact hce) hcv hcl (k1 q hF2 T'.heap (locs ++ L) ls (by rw [e1']; exact hP2) (by rw [e1']; exact hS9) hL)) T' rfl X'
        exact ⟨t2, stp.trans a1, b1⟩
      · rw [if_neg g1] at hF2
        cases hF2
theorem lj_h21 (C : ld_C p l s m args meth c cc nL ret Ts own w) {y : MethodName} {bytes : ByteArray} {maxL index n mc ms : Nat} {rt : Option FieldType} {ws : List Cond} {rm : Room} {As rest st0 : List Value} {i ci : Nat} {Cn : String} {Tb : u_T} {N : Nat} {fs : List Value} {p0 p1 : Nat} {A1 : Option ρ} (e1 : Nat) (hp1 nm1 : Nat) {A2 : Option ρ} (e2 : Nat) (hp2 nm2 : Nat) (htb : c.exceptionTable.toList = [⟨p0, p1, hp1, nm1⟩, ⟨p0, p1, hp2, nm2⟩]) (hcov : p0 ≤ pc ∧ pc < p1) (hl1 : Cond.classLink own nm1 (ld_en e1) ∈ Ts) (hn1 : nm1 ≠ 0) (hlt1 : e1 < 3) (hl2 : Cond.classLink own nm2 (ld_en e2) ∈ Ts) (hn2 : nm2 ≠ 0) (hlt2 : e2 < 3) {G : Option (Int32 ⊕ Nat)} {f : Int32 → Option ρ} (hM : ∀ (sz : Nat) (x : Int32 ⊕ Nat), G = some x → vx_Met l y ws rm (ld_Pc w Z sz (.ref (ld_ad w i) :: As)) (ld_Q1 w Z sz x) (ld_XC w Z sz x) mc ms (ld_A w sz)) (cw : CallW R s args own Cn index y bytes maxL rt ws rm mc ms n) (hi : i < 87) (hcell : ld_cell w i (Z i) = .inr (ci, fs)) (hc : vwCl[ci]? = some (Cn, Tb, N)) (hn : As.length = n) (hlen : lv.length = nL) (hst : st0 = As.reverse ++ .ref (ld_ad w i) :: rest) (hcat : (rest.map fun v => v.category).sum ≤ 8) (hf : cells + mc ≤ R.cells ∧ slots + ms ≤ R.slots) (d : decode cc pc = .ok (.invokevirtual index, 3))
    (k : ∀ x : Int32, G = some (.inl x) → ld_T p l e R s m args below meth c Q w r (f x) Z (cells + mc) (slots + ms) (pc + 3) lv (.int x :: rest)) (k1 : ∀ q : Nat, ld_T p l e R s m args below meth c Q w r A1 Z (cells + mc) (slots + ms) hp1 lv [.ref q]) (k2 : ∀ q : Nat, ld_T p l e R s m args below meth c Q w r A2 Z (cells + mc) (slots + ms) hp2 lv [.ref q]) : ld_T p l e R s m args below meth c Q w r (ld_bh G f (fun e9 => if e9 = e1 then A1 else if e9 = e2 then A2 else none)) Z cells slots pc lv st0 := by
  intro hF H locs ls hP hS hL T hT X
  subst hst
  rcases ld_bh_of hF with ⟨x, hG, hF2⟩ | ⟨e9, hG, hF2⟩
  · rcases (vx_runV (As := As) (rest := rest) ⟨C.1, C.2.1, C.2.2.1, C.2.2.2.1, C.2.2.2.2.1⟩ (hM H.size _ hG) cw ⟨ld_blind, va_recv C.2.2.2.2.2.1 hP hc ((ld_at hi).trans (by rw [hcell])), fun U hU hW => ld_pre C hP hS hU hW⟩ rfl hn (hL.1.trans hlen) rfl (lv_room hcat) d hf) T hT X with ⟨v, st₀, t, T', L, h0, X', hL', e1', e2', ⟨x9, hx9, hv, hP2, hF9⟩, stp⟩ | ⟨q, st₀, t, T', L, E, ce, h0, X', hL', e1', e2', ⟨⟨e9, he9, -⟩, -⟩, -⟩
    · cases hx9
      cases hv
      obtain ⟨t2, a1, b1⟩ := k x hG hF2 t.heap (locs ++ L) ls hP2 (ld_S2 hS h0 hF9 hL') hL T' e1' X'
      exact ⟨t2, stp t2 a1, b1⟩
    · cases he9
  · rcases (vx_runV (As := As) (rest := rest) ⟨C.1, C.2.1, C.2.2.1, C.2.2.2.1, C.2.2.2.2.1⟩ (hM H.size _ hG) cw ⟨ld_blind, va_recv C.2.2.2.2.2.1 hP hc ((ld_at hi).trans (by rw [hcell])), fun U hU hW => ld_pre C hP hS hU hW⟩ rfl hn (hL.1.trans hlen) rfl (lv_room hcat) d hf) T hT X with ⟨v, st₀, t, T', L, h0, X', hL', e1', e2', ⟨x9, hx9, -⟩, -⟩ | ⟨q, st₀, t, T', L, E, ce, h0, X', hL', e1', e2', ⟨⟨e8, he8, hlt8, hE⟩, hP2, hF9⟩, hce, hcv, hcl, stp⟩
    · cases hx9
    · cases he8
      have hS9 := ld_S2 hS h0 hF9 hL'
      have hX := C.2.2.2.2.2.2.2.2.1
      by_cases g1 : e9 = e1
      · rw [if_pos g1] at hF2
        obtain ⟨t2, a1, b1⟩ := (vx_catch (pc := pc) (ls := ls) (rest := rest) (E := E) (name := ld_en e1) C.2.2.2.1 [] ⟨p0, p1, hp1, nm1⟩ [⟨p0, p1, hp2, nm2⟩] htb (fun z hz => by cases hz) (by simp [covers]; exact hcov) hn1 (C.2.2.2.2.1 _ hl1) (va_Nw.use rfl (by rw [hE, g1]; exact hX.2.1 e1)) (by rw [e1']; exact hce) hcv hcl (k1 q hF2 T'.heap (locs ++ L) ls (by rw [e1']; exact hP2) (by rw [e1']; exact hS9) hL)) T' rfl X'
        exact ⟨t2, stp.trans a1, b1⟩
      · rw [if_neg g1] at hF2
        by_cases g2 : e9 = e2
        · rw [if_pos g2] at hF2
          obtain ⟨t2, a1, b1⟩ := (vx_catch (pc := pc) (ls := ls) (rest := rest) (E := E) (name := ld_en e2) C.2.2.2.1 [⟨p0, p1, hp1, nm1⟩] ⟨p0, p1, hp2, nm2⟩ [] htb (fun z hz => by
            rw [List.mem_singleton] at hz
            subst hz
            exact Or.inr ⟨hn1, ld_en e1, C.2.2.2.2.1 _ hl1, by rw [hE]; exact hX.2.2.2.1 e9 e1 hlt8 hlt1 g1⟩) (by simp [covers]; exact hcov) hn2 (C.2.2.2.2.1 _ hl2) (va_Nw.use rfl (by rw [hE, g2]; exact hX.2.1 e2)) (by rw [e1']; exact hce) hcv hcl (k2 q hF2 T'.heap (locs ++ L) ls (by rw [e1']; exact hP2) (by rw [e1']; exact hS9) hL)) T' rfl X'
          exact ⟨t2, stp.trans a1, b1⟩
        · rw [if_neg g2] at hF2
          cases hF2
theorem lj_h12 (C : ld_C p l s m args meth c cc nL ret Ts own w) {y : MethodName} {bytes : ByteArray} {maxL index n mc ms : Nat} {rt : Option FieldType} {ws : List Cond} {rm : Room} {As rest st0 : List Value} {i ci : Nat} {Cn : String} {Tb : u_T} {N : Nat} {fs : List Value} {p0 p1 : Nat} {A1 : Option ρ} (e1 : Nat) (hp1 nm1 : Nat) (htb : c.exceptionTable.toList = [⟨p0, p1, hp1, nm1⟩]) (hcov : p0 ≤ pc ∧ pc < p1) (hl1 : Cond.classLink own nm1 (ld_en e1) ∈ Ts) (hn1 : nm1 ≠ 0) (hlt1 : e1 < 3) {G : Option (ld_M ⊕ Nat)} {f : ld_M → Option ρ} (hM : ∀ (sz : Nat) (x : ld_M ⊕ Nat), G = some x → vx_Met l y ws rm (ld_Pc w Z sz (.ref (ld_ad w i) :: As)) (ld_Q2 w Z sz x) (ld_XC w Z sz x) mc ms (ld_A w sz)) (cw : CallW R s args own Cn index y bytes maxL rt ws rm mc ms n) (hi : i < 87) (hcell : ld_cell w i (Z i) = .inr (ci, fs)) (hc : vwCl[ci]? = some (Cn, Tb, N)) (hn : As.length = n) (hlen : lv.length = nL) (hst : st0 = As.reverse ++ .ref (ld_ad w i) :: rest) (hcat : (rest.map fun v => v.category).sum ≤ 8) (hf : cells + mc ≤ R.cells ∧ slots + ms ≤ R.slots) (d : decode cc pc = .ok (.invokevirtual index, 3))
    (k : ∀ x : ld_M, G = some (.inl x) → ld_T p l e R s m args below meth c Q w r (f x) x (cells + mc) (slots + ms) (pc + 3) lv rest) (k1 : ∀ q : Nat, ld_T p l e R s m args below meth c Q w r A1 Z (cells + mc) (slots + ms) hp1 lv [.ref q]) : ld_T p l e R s m args below meth c Q w r (ld_bh G f (fun e9 => if e9 = e1 then A1 else none)) Z cells slots pc lv st0 := by
  intro hF H locs ls hP hS hL T hT X
  subst hst
  rcases ld_bh_of hF with ⟨x, hG, hF2⟩ | ⟨e9, hG, hF2⟩
  · rcases (vx_runV (As := As) (rest := rest) ⟨C.1, C.2.1, C.2.2.1, C.2.2.2.1, C.2.2.2.2.1⟩ (hM H.size _ hG) cw ⟨ld_blind, va_recv C.2.2.2.2.2.1 hP hc ((ld_at hi).trans (by rw [hcell])), fun U hU hW => ld_pre C hP hS hU hW⟩ rfl hn (hL.1.trans hlen) rfl (lv_room hcat) d hf) T hT X with ⟨v, st₀, t, T', L, h0, X', hL', e1', e2', ⟨x9, hx9, hv, hP2, hF9⟩, stp⟩ | ⟨q, st₀, t, T', L, E, ce, h0, X', hL', e1', e2', ⟨⟨e9, he9, -⟩, -⟩, -⟩
    · cases hx9
      cases hv
      obtain ⟨t2, a1, b1⟩ := k x hG hF2 t.heap (locs ++ L) ls hP2 (ld_S2 hS h0 hF9 hL') hL T' e1' X'
      exact ⟨t2, stp t2 a1, b1⟩
    · cases he9
  · rcases (vx_runV (As := As) (rest := rest) ⟨C.1, C.2.1, C.2.2.1, C.2.2.2.1, C.2.2.2.2.1⟩ (hM H.size _ hG) cw ⟨ld_blind, va_recv C.2.2.2.2.2.1 hP hc ((ld_at hi).trans (by rw [hcell])), fun U hU hW => ld_pre C hP hS hU hW⟩ rfl hn (hL.1.trans hlen) rfl (lv_room hcat) d hf) T hT X with ⟨v, st₀, t, T', L, h0, X', hL', e1', e2', ⟨x9, hx9, -⟩, -⟩ | ⟨q, st₀, t, T', L, E, ce, h0, X', hL', e1', e2', ⟨⟨e8, he8, hlt8, hE⟩, hP2, hF9⟩, hce, hcv, hcl, stp⟩
    · cases hx9
    · cases he8
      have hS9 := ld_S2 hS h0 hF9 hL'
      have hX := C.2.2.2.2.2.2.2.2.1
      by_cases g1 : e9 = e1
      · rw [if_pos g1] at hF2
        obtain ⟨t2, a1, b1⟩ := (vx_catch (pc := pc) (ls := ls) (rest := rest) (E := E) (name := ld_en e1) C.2.2.2.1 [] ⟨p0, p1, hp1, nm1⟩ [] htb (fun z hz => by cases hz) (by simp [covers]; exact hcov) hn1 (C.2.2.2.2.1 _ hl1) (va_Nw.use rfl (by rw [hE, g1]; exact hX.2.1 e1)) (by rw [e1']; exact hce) hcv hcl (k1 q hF2 T'.heap (locs ++ L) ls (by rw [e1']; exact hP2) (by rw [e1']; exact hS9) hL)) T' rfl X'
        exact ⟨t2, stp.trans a1, b1⟩
      · rw [if_neg g1] at hF2
        cases hF2
theorem lj_h22 (C : ld_C p l s m args meth c cc nL ret Ts own w) {y : MethodName} {bytes : ByteArray} {maxL index n mc ms : Nat} {rt : Option FieldType} {ws : List Cond} {rm : Room} {As rest st0 : List Value} {i ci : Nat} {Cn : String} {Tb : u_T} {N : Nat} {fs : List Value} {p0 p1 : Nat} {A1 : Option ρ} (e1 : Nat) (hp1 nm1 : Nat) {A2 : Option ρ} (e2 : Nat) (hp2 nm2 : Nat) (htb : c.exceptionTable.toList = [⟨p0, p1, hp1, nm1⟩, ⟨p0, p1, hp2, nm2⟩]) (hcov : p0 ≤ pc ∧ pc < p1) (hl1 : Cond.classLink own nm1 (ld_en e1) ∈ Ts) (hn1 : nm1 ≠ 0) (hlt1 : e1 < 3) (hl2 : Cond.classLink own nm2 (ld_en e2) ∈ Ts) (hn2 : nm2 ≠ 0) (hlt2 : e2 < 3) {G : Option (ld_M ⊕ Nat)} {f : ld_M → Option ρ} (hM : ∀ (sz : Nat) (x : ld_M ⊕ Nat), G = some x → vx_Met l y ws rm (ld_Pc w Z sz (.ref (ld_ad w i) :: As)) (ld_Q2 w Z sz x) (ld_XC w Z sz x) mc ms (ld_A w sz)) (cw : CallW R s args own Cn index y bytes maxL rt ws rm mc ms n) (hi : i < 87) (hcell : ld_cell w i (Z i) = .inr (ci, fs)) (hc : vwCl[ci]? = some (Cn, Tb, N)) (hn : As.length = n) (hlen : lv.length = nL) (hst : st0 = As.reverse ++ .ref (ld_ad w i) :: rest) (hcat : (rest.map fun v => v.category).sum ≤ 8) (hf : cells + mc ≤ R.cells ∧ slots + ms ≤ R.slots) (d : decode cc pc = .ok (.invokevirtual index, 3))
    (k : ∀ x : ld_M, G = some (.inl x) → ld_T p l e R s m args below meth c Q w r (f x) x (cells + mc) (slots + ms) (pc + 3) lv rest) (k1 : ∀ q : Nat, ld_T p l e R s m args below meth c Q w r A1 Z (cells + mc) (slots + ms) hp1 lv [.ref q]) (k2 : ∀ q : Nat, ld_T p l e R s m args below meth c Q w r A2 Z (cells + mc) (slots + ms) hp2 lv [.ref q]) : ld_T p l e R s m args below meth c Q w r (ld_bh G f (fun e9 => if e9 = e1 then A1 else if e9 = e2 then A2 else none)) Z cells slots pc lv st0 := by
  intro hF H locs ls hP hS hL T hT X
  subst hst
  rcases ld_bh_of hF with ⟨x, hG, hF2⟩ | ⟨e9, hG, hF2⟩
  · rcases (vx_runV (As := As) (rest := rest) ⟨C.1, C.2.1, C.2.2.1, C.2.2.2.1, C.2.2.2.2.1⟩ (hM H.size _ hG) cw ⟨ld_blind, va_recv C.2.2.2.2.2.1 hP hc ((ld_at hi).trans (by rw [hcell])), fun U hU hW => ld_pre C hP hS hU hW⟩ rfl hn (hL.1.trans hlen) rfl (lv_room hcat) d hf) T hT X with ⟨v, st₀, t, T', L, h0, X', hL', e1', e2', ⟨x9, hx9, hv, hP2, hF9⟩, stp⟩ | ⟨q, st₀, t, T', L, E, ce, h0, X', hL', e1', e2', ⟨⟨e9, he9, -⟩, -⟩, -⟩
    · cases hx9
      cases hv
      obtain ⟨t2, a1, b1⟩ := k x hG hF2 t.heap (locs ++ L) ls hP2 (ld_S2 hS h0 hF9 hL') hL T' e1' X'
      exact ⟨t2, stp t2 a1, b1⟩
    · cases he9
  · rcases (vx_runV (As := As) (rest := rest) ⟨C.1, C.2.1, C.2.2.1, C.2.2.2.1, C.2.2.2.2.1⟩ (hM H.size _ hG) cw ⟨ld_blind, va_recv C.2.2.2.2.2.1 hP hc ((ld_at hi).trans (by rw [hcell])), fun U hU hW => ld_pre C hP hS hU hW⟩ rfl hn (hL.1.trans hlen) rfl (lv_room hcat) d hf) T hT X with ⟨v, st₀, t, T', L, h0, X', hL', e1', e2', ⟨x9, hx9, -⟩, -⟩ | ⟨q, st₀, t, T', L, E, ce, h0, X', hL', e1', e2', ⟨⟨e8, he8, hlt8, hE⟩, hP2, hF9⟩, hce, hcv, hcl, stp⟩
    · cases hx9
    · cases he8
      have hS9 := ld_S2 hS h0 hF9 hL'
      have hX := C.2.2.2.2.2.2.2.2.1
      by_cases g1 : e9 = e1
      · rw [if_pos g1] at hF2
        obtain ⟨t2, a1, b1⟩ := (vx_catch (pc := pc) (ls := ls) (rest := rest) (E := E) (name := ld_en e1) C.2.2.2.1 [] ⟨p0, p1, hp1, nm1⟩ [⟨p0, p1, hp2, nm2⟩] htb (fun z hz => by cases hz) (by simp [covers]; exact hcov) hn1 (C.2.2.2.2.1 _ hl1) (va_Nw.use rfl (by rw [hE, g1]; exact hX.2.1 e1)) (by rw [e1']; exact hce) hcv hcl (k1 q hF2 T'.heap (locs ++ L) ls (by rw [e1']; exact hP2) (by rw [e1']; exact hS9) hL)) T' rfl X'
        exact ⟨t2, stp.trans a1, b1⟩
      · rw [if_neg g1] at hF2
        by_cases g2 : e9 = e2
        · rw [if_pos g2] at hF2
          obtain ⟨t2, a1, b1⟩ := (vx_catch (pc := pc) (ls := ls) (rest := rest) (E := E) (name := ld_en e2) C.2.2.2.1 [⟨p0, p1, hp1, nm1⟩] ⟨p0, p1, hp2, nm2⟩ [] htb (fun z hz => by
            rw [List.mem_singleton] at hz
            subst hz
            exact Or.inr ⟨hn1, ld_en e1, C.2.2.2.2.1 _ hl1, by rw [hE]; exact hX.2.2.2.1 e9 e1 hlt8 hlt1 g1⟩) (by simp [covers]; exact hcov) hn2 (C.2.2.2.2.1 _ hl2) (va_Nw.use rfl (by rw [hE, g2]; exact hX.2.1 e2)) (by rw [e1']; exact hce) hcv hcl (k2 q hF2 T'.heap (locs ++ L) ls (by rw [e1']; exact hP2) (by rw [e1']; exact hS9) hL)) T' rfl X'
          exact ⟨t2, stp.trans a1, b1⟩
        · rw [if_neg g2] at hF2
          cases hF2
theorem lj_h13 (C : ld_C p l s m args meth c cc nL ret Ts own w) {y : MethodName} {bytes : ByteArray} {maxL index n mc ms : Nat} {rt : Option FieldType} {ws : List Cond} {rm : Room} {As rest st0 : List Value} {i ci : Nat} {Cn : String} {Tb : u_T} {N : Nat} {fs : List Value} {p0 p1 : Nat} {A1 : Option ρ} (e1 : Nat) (hp1 nm1 : Nat) (htb : c.exceptionTable.toList = [⟨p0, p1, hp1, nm1⟩]) (hcov : p0 ≤ pc ∧ pc < p1) (hl1 : Cond.classLink own nm1 (ld_en e1) ∈ Ts) (hn1 : nm1 ≠ 0) (hlt1 : e1 < 3) {G : Option (Int32 × ld_M ⊕ Nat)} {f : Int32 × ld_M → Option ρ} (hM : ∀ (sz : Nat) (x : Int32 × ld_M ⊕ Nat), G = some x → vx_Met l y ws rm (ld_Pc w Z sz (.ref (ld_ad w i) :: As)) (ld_Q3 w Z sz x) (ld_XC w Z sz x) mc ms (ld_A w sz)) (cw : CallW R s args own Cn index y bytes maxL rt ws rm mc ms n) (hi : i < 87) (hcell : ld_cell w i (Z i) = .inr (ci, fs)) (hc : vwCl[ci]? = some (Cn, Tb, N)) (hn : As.length = n) (hlen : lv.length = nL) (hst : st0 = As.reverse ++ .ref (ld_ad w i) :: rest) (hcat : (rest.map fun v => v.category).sum ≤ 8) (hf : cells + mc ≤ R.cells ∧ slots + ms ≤ R.slots) (d : decode cc pc = .ok (.invokevirtual index, 3))
    (k : ∀ x : Int32 × ld_M, G = some (.inl x) → ld_T p l e R s m args below meth c Q w r (f x) (x.2) (cells + mc) (slots + ms) (pc + 3) lv (.int x.1 :: rest)) (k1 : ∀ q : Nat, ld_T p l e R s m args below meth c Q w r A1 Z (cells + mc) (slots + ms) hp1 lv [.ref q]) : ld_T p l e R s m args below meth c Q w r (ld_bh G f (fun e9 => if e9 = e1 then A1 else none)) Z cells slots pc lv st0 := by
  intro hF H locs ls hP hS hL T hT X
  subst hst
  rcases ld_bh_of hF with ⟨x, hG, hF2⟩ | ⟨e9, hG, hF2⟩
  · rcases (vx_runV (As := As) (rest := rest) ⟨C.1, C.2.1, C.2.2.1, C.2.2.2.1, C.2.2.2.2.1⟩ (hM H.size _ hG) cw ⟨ld_blind, va_recv C.2.2.2.2.2.1 hP hc ((ld_at hi).trans (by rw [hcell])), fun U hU hW => ld_pre C hP hS hU hW⟩ rfl hn (hL.1.trans hlen) rfl (lv_room hcat) d hf) T hT X with ⟨v, st₀, t, T', L, h0, X', hL', e1', e2', ⟨x9, hx9, hv, hP2, hF9⟩, stp⟩ | ⟨q, st₀, t, T', L, E, ce, h0, X', hL', e1', e2', ⟨⟨e9, he9, -⟩, -⟩, -⟩
    · cases hx9
      cases hv
      obtain ⟨t2, a1, b1⟩ := k x hG hF2 t.heap (locs ++ L) ls hP2 (ld_S2 hS h0 hF9 hL') hL T' e1' X'
      exact ⟨t2, stp t2 a1, b1⟩
    · cases he9
  · rcases (vx_runV (As := As) (rest := rest) ⟨C.1, C.2.1, C.2.2.1, C.2.2.2.1, C.2.2.2.2.1⟩ (hM H.size _ hG) cw ⟨ld_blind, va_recv C.2.2.2.2.2.1 hP hc ((ld_at hi).trans (by rw [hcell])), fun U hU hW => ld_pre C hP hS hU hW⟩ rfl hn (hL.1.trans hlen) rfl (lv_room hcat) d hf) T hT X with ⟨v, st₀, t, T', L, h0, X', hL', e1', e2', ⟨x9, hx9, -⟩, -⟩ | ⟨q, st₀, t, T', L, E, ce, h0, X', hL', e1', e2', ⟨⟨e8, he8, hlt8, hE⟩, hP2, hF9⟩, hce, hcv, hcl, stp⟩
    · cases hx9
    · cases he8
      have hS9 := ld_S2 hS h0 hF9 hL'
      have hX := C.2.2.2.2.2.2.2.2.1
      by_cases g1 : e9 = e1
      · rw [if_pos g1] at hF2
        obtain ⟨t2, a1, b1⟩ := (vx_catch (pc := pc) (ls := ls) (rest := rest) (E := E) (name := ld_en e1) C.2.2.2.1 [] ⟨p0, p1, hp1, nm1⟩ [] htb (fun z hz => by cases hz) (by simp [covers]; exact hcov) hn1 (C.2.2.2.2.1 _ hl1) (va_Nw.use rfl (by rw [hE, g1]; exact hX.2.1 e1)) (by rw [e1']; exact hce) hcv hcl (k1 q hF2 T'.heap (locs ++ L) ls (by rw [e1']; exact hP2) (by rw [e1']; exact hS9) hL)) T' rfl X'
        exact ⟨t2, stp.trans a1, b1⟩
      · rw [if_neg g1] at hF2
        cases hF2
theorem lj_h23 (C : ld_C p l s m args meth c cc nL ret Ts own w) {y : MethodName} {bytes : ByteArray} {maxL index n mc ms : Nat} {rt : Option FieldType} {ws : List Cond} {rm : Room} {As rest st0 : List Value} {i ci : Nat} {Cn : String} {Tb : u_T} {N : Nat} {fs : List Value} {p0 p1 : Nat} {A1 : Option ρ} (e1 : Nat) (hp1 nm1 : Nat) {A2 : Option ρ} (e2 : Nat) (hp2 nm2 : Nat) (htb : c.exceptionTable.toList = [⟨p0, p1, hp1, nm1⟩, ⟨p0, p1, hp2, nm2⟩]) (hcov : p0 ≤ pc ∧ pc < p1) (hl1 : Cond.classLink own nm1 (ld_en e1) ∈ Ts) (hn1 : nm1 ≠ 0) (hlt1 : e1 < 3) (hl2 : Cond.classLink own nm2 (ld_en e2) ∈ Ts) (hn2 : nm2 ≠ 0) (hlt2 : e2 < 3) {G : Option (Int32 × ld_M ⊕ Nat)} {f : Int32 × ld_M → Option ρ} (hM : ∀ (sz : Nat) (x : Int32 × ld_M ⊕ Nat), G = some x → vx_Met l y ws rm (ld_Pc w Z sz (.ref (ld_ad w i) :: As)) (ld_Q3 w Z sz x) (ld_XC w Z sz x) mc ms (ld_A w sz)) (cw : CallW R s args own Cn index y bytes maxL rt ws rm mc ms n) (hi : i < 87) (hcell : ld_cell w i (Z i) = .inr (ci, fs)) (hc : vwCl[ci]? = some (Cn, Tb, N)) (hn : As.length = n) (hlen : lv.length = nL) (hst : st0 = As.reverse ++ .ref (ld_ad w i) :: rest) (hcat : (rest.map fun v => v.category).sum ≤ 8) (hf : cells + mc ≤ R.cells ∧ slots + ms ≤ R.slots) (d : decode cc pc = .ok (.invokevirtual index, 3))
    (k : ∀ x : Int32 × ld_M, G = some (.inl x) → ld_T p l e R s m args below meth c Q w r (f x) (x.2) (cells + mc) (slots + ms) (pc + 3) lv (.int x.1 :: rest)) (k1 : ∀ q : Nat, ld_T p l e R s m args below meth c Q w r A1 Z (cells + mc) (slots + ms) hp1 lv [.ref q]) (k2 : ∀ q : Nat, ld_T p l e R s m args below meth c Q w r A2 Z (cells + mc) (slots + ms) hp2 lv [.ref q]) : ld_T p l e R s m args below meth c Q w r (ld_bh G f (fun e9 => if e9 = e1 then A1 else if e9 = e2 then A2 else none)) Z cells slots pc lv st0 := by
  intro hF H locs ls hP hS hL T hT X
  subst hst
  rcases ld_bh_of hF with ⟨x, hG, hF2⟩ | ⟨e9, hG, hF2⟩
  · rcases (vx_runV (As := As) (rest := rest) ⟨C.1, C.2.1, C.2.2.1, C.2.2.2.1, C.2.2.2.2.1⟩ (hM H.size _ hG) cw ⟨ld_blind, va_recv C.2.2.2.2.2.1 hP hc ((ld_at hi).trans (by rw [hcell])), fun U hU hW => ld_pre C hP hS hU hW⟩ rfl hn (hL.1.trans hlen) rfl (lv_room hcat) d hf) T hT X with ⟨v, st₀, t, T', L, h0, X', hL', e1', e2', ⟨x9, hx9, hv, hP2, hF9⟩, stp⟩ | ⟨q, st₀, t, T', L, E, ce, h0, X', hL', e1', e2', ⟨⟨e9, he9, -⟩, -⟩, -⟩
    · cases hx9
      cases hv
      obtain ⟨t2, a1, b1⟩ := k x hG hF2 t.heap (locs ++ L) ls hP2 (ld_S2 hS h0 hF9 hL') hL T' e1' X'
      exact ⟨t2, stp t2 a1, b1⟩
    · cases he9
  · rcases (vx_runV (As := As) (rest := rest) ⟨C.1, C.2.1, C.2.2.1, C.2.2.2.1, C.2.2.2.2.1⟩ (hM H.size _ hG) cw ⟨ld_blind, va_recv C.2.2.2.2.2.1 hP hc ((ld_at hi).trans (by rw [hcell])), fun U hU hW => ld_pre C hP hS hU hW⟩ rfl hn (hL.1.trans hlen) rfl (lv_room hcat) d hf) T hT X with ⟨v, st₀, t, T', L, h0, X', hL', e1', e2', ⟨x9, hx9, -⟩, -⟩ | ⟨q, st₀, t, T', L, E, ce, h0, X', hL', e1', e2', ⟨⟨e8, he8, hlt8, hE⟩, hP2, hF9⟩, hce, hcv, hcl, stp⟩
    · cases hx9
    · cases he8
      have hS9 := ld_S2 hS h0 hF9 hL'
      have hX := C.2.2.2.2.2.2.2.2.1
      by_cases g1 : e9 = e1
      · rw [if_pos g1] at hF2
        obtain ⟨t2, a1, b1⟩ := (vx_catch (pc := pc) (ls := ls) (rest := rest) (E := E) (name := ld_en e1) C.2.2.2.1 [] ⟨p0, p1, hp1, nm1⟩ [⟨p0, p1, hp2, nm2⟩] htb (fun z hz => by cases hz) (by simp [covers]; exact hcov) hn1 (C.2.2.2.2.1 _ hl1) (va_Nw.use rfl (by rw [hE, g1]; exact hX.2.1 e1)) (by rw [e1']; exact hce) hcv hcl (k1 q hF2 T'.heap (locs ++ L) ls (by rw [e1']; exact hP2) (by rw [e1']; exact hS9) hL)) T' rfl X'
        exact ⟨t2, stp.trans a1, b1⟩
      · rw [if_neg g1] at hF2
        by_cases g2 : e9 = e2
        · rw [if_pos g2] at hF2
          obtain ⟨t2, a1, b1⟩ := (vx_catch (pc := pc) (ls := ls) (rest := rest) (E := E) (name := ld_en e2) C.2.2.2.1 [⟨p0, p1, hp1, nm1⟩] ⟨p0, p1, hp2, nm2⟩ [] htb (fun z hz => by
            rw [List.mem_singleton] at hz
            subst hz
            exact Or.inr ⟨hn1, ld_en e1, C.2.2.2.2.1 _ hl1, by rw [hE]; exact hX.2.2.2.1 e9 e1 hlt8 hlt1 g1⟩) (by simp [covers]; exact hcov) hn2 (C.2.2.2.2.1 _ hl2) (va_Nw.use rfl (by rw [hE, g2]; exact hX.2.1 e2)) (by rw [e1']; exact hce) hcv hcl (k2 q hF2 T'.heap (locs ++ L) ls (by rw [e1']; exact hP2) (by rw [e1']; exact hS9) hL)) T' rfl X'
          exact ⟨t2, stp.trans a1, b1⟩
        · rw [if_neg g2] at hF2
          cases hF2
theorem lj_ra {r : Int32} {mc ms : Nat}  (C : ld_C p l s m args meth c cc nL (some .int) Ts own w) {x : Int32} (hc : cells ≤ mc) (hs : slots ≤ ms) (d : decode cc pc = .ok (.ireturn, 1)) : ld_T p l e R s m args below meth c (MQ below (ld_Q w Z s.heap.size (some (.int r))) args s mc ms (ld_A w s.heap.size)) w r (some x) Z cells slots pc lv [.int x] := by
  intro hF H locs ls hP hS hL
  have hr9 := Option.some.inj hF
  subst hr9
  refine W.widen hc hs ?_
  exact W.iret C.1 C.2.1 C.2.2.2.2.2.2.2.1 (fun t ht _ => ⟨rfl, by rw [ht]; exact hP, hS.F ht⟩) hS.2.2 d C.2.2.2.2.2.2.1
theorem lj_ra_z {r : Int32} {mc ms : Nat}  (C : ld_C p l s m args meth c cc nL (some .boolean) Ts own w) {x : Int32} (hc : cells ≤ mc) (hs : slots ≤ ms) (d : decode cc pc = .ok (.ireturn, 1)) : ld_T p l e R s m args below meth c (MQ below (ld_Q w Z s.heap.size (some (.int r))) args s mc ms (ld_A w s.heap.size)) w r (ld_ck (ld_b x) (some x)) Z cells slots pc lv [.int x] := by
  intro hF H locs ls hP hS hL
  obtain ⟨hb9, hF⟩ := ld_ck_of hF
  have hr9 := Option.some.inj hF
  subst hr9
  refine W.widen hc hs ?_
  exact W.zret C.1 C.2.1 C.2.2.2.2.2.2.2.1 (ld_b_nar hb9).1 (fun t ht _ => ⟨rfl, by rw [ht]; exact hP, hS.F ht⟩) hS.2.2 d C.2.2.2.2.2.2.1
theorem lj_rb {r : Int32 × ld_M} {mc ms : Nat}  (C : ld_C p l s m args meth c cc nL (some .int) Ts own w) {x : Int32} (hc : cells ≤ mc) (hs : slots ≤ ms) (d : decode cc pc = .ok (.ireturn, 1)) : ld_T p l e R s m args below meth c (MQ below (ld_Q w r.2 s.heap.size (some (.int r.1))) args s mc ms (ld_A w s.heap.size)) w r (some (x, Z)) Z cells slots pc lv [.int x] := by
  intro hF H locs ls hP hS hL
  have hr9 := Option.some.inj hF
  subst hr9
  refine W.widen hc hs ?_
  exact W.iret C.1 C.2.1 C.2.2.2.2.2.2.2.1 (fun t ht _ => ⟨rfl, by rw [ht]; exact hP, hS.F ht⟩) hS.2.2 d C.2.2.2.2.2.2.1
theorem lj_rb_z {r : Int32 × ld_M} {mc ms : Nat}  (C : ld_C p l s m args meth c cc nL (some .boolean) Ts own w) {x : Int32} (hc : cells ≤ mc) (hs : slots ≤ ms) (d : decode cc pc = .ok (.ireturn, 1)) : ld_T p l e R s m args below meth c (MQ below (ld_Q w r.2 s.heap.size (some (.int r.1))) args s mc ms (ld_A w s.heap.size)) w r (ld_ck (ld_b x) (some (x, Z))) Z cells slots pc lv [.int x] := by
  intro hF H locs ls hP hS hL
  obtain ⟨hb9, hF⟩ := ld_ck_of hF
  have hr9 := Option.some.inj hF
  subst hr9
  refine W.widen hc hs ?_
  exact W.zret C.1 C.2.1 C.2.2.2.2.2.2.2.1 (ld_b_nar hb9).1 (fun t ht _ => ⟨rfl, by rw [ht]; exact hP, hS.F ht⟩) hS.2.2 d C.2.2.2.2.2.2.1
theorem lj_rv {r : ld_M} {mc ms : Nat}  (C : ld_C p l s m args meth c cc nL (none) Ts own w)  (hc : cells ≤ mc) (hs : slots ≤ ms) (d : decode cc pc = .ok (.return_, 1)) : ld_T p l e R s m args below meth c (MQ below (ld_Q w r s.heap.size none) args s mc ms (ld_A w s.heap.size)) w r (some Z) Z cells slots pc lv [] := by
  intro hF H locs ls hP hS hL
  have hr9 := Option.some.inj hF
  subst hr9
  refine W.widen hc hs ?_
  exact W.vret C.1 C.2.1 C.2.2.2.2.2.2.2.1 (fun t ht _ => ⟨rfl, by rw [ht]; exact hP, hS.F ht⟩) hS.2.2 d C.2.2.2.2.2.2.1
theorem lj_rr_o {r : Nat} {mc ms : Nat}  (C : ld_C p l s m args meth c cc nL (some (.object "LightDesk$CueList")) Ts own w) {x : Nat} (hc : cells ≤ mc) (hs : slots ≤ ms) (d : decode cc pc = .ok (.areturn, 1)) : ld_T p l e R s m args below meth c (MQ below (ld_Q w Z s.heap.size (some (.ref (ld_ad w r)))) args s mc ms (ld_A w s.heap.size)) w r (some x) Z cells slots pc lv [.ref (ld_ad w x)] := by
  intro hF H locs ls hP hS hL
  have hr9 := Option.some.inj hF
  subst hr9
  refine W.widen hc hs ?_
  exact W.aret C.1 C.2.1 C.2.2.2.2.2.2.2.1 (by first | exact Or.inl ⟨_, rfl⟩ | exact Or.inr ⟨_, rfl⟩) (Or.inr ⟨_, rfl⟩) (fun t ht _ => ⟨rfl, by rw [ht]; exact hP, hS.F ht⟩) hS.2.2 d C.2.2.2.2.2.2.1
theorem lj_rs {r : Nat × ld_M} {mc ms : Nat}  (C : ld_C p l s m args meth c cc nL (some (.array .int)) Ts own w) {x : Nat} (hc : cells ≤ mc) (hs : slots ≤ ms) (d : decode cc pc = .ok (.areturn, 1)) : ld_T p l e R s m args below meth c (MQ below (ld_Q w r.2 s.heap.size (some (.ref (ld_ad w r.1)))) args s mc ms (ld_A w s.heap.size)) w r (some (x, Z)) Z cells slots pc lv [.ref (ld_ad w x)] := by
  intro hF H locs ls hP hS hL
  have hr9 := Option.some.inj hF
  subst hr9
  refine W.widen hc hs ?_
  exact W.aret C.1 C.2.1 C.2.2.2.2.2.2.2.1 (by first | exact Or.inl ⟨_, rfl⟩ | exact Or.inr ⟨_, rfl⟩) (Or.inr ⟨_, rfl⟩) (fun t ht _ => ⟨rfl, by rw [ht]; exact hP, hS.F ht⟩) hS.2.2 d C.2.2.2.2.2.2.1
theorem lj_t0 {r : Unit ⊕ Nat} {mc ms : Nat} {Z9 : ld_M} (C : ld_C p l s m args meth c cc nL (none) Ts own w)  (hc : cells ≤ mc) (hs : slots ≤ ms) (d : decode cc pc = .ok (.return_, 1)) : ld_T p l e R s m args below meth c (vx_MQ below (ld_Q0 w Z s.heap.size r) (ld_XC w Z9 s.heap.size r) args s mc ms (ld_A w s.heap.size)) w r (some (.inl ())) Z cells slots pc lv [] := by
  intro hF H locs ls hP hS hL
  have hr9 := Option.some.inj hF
  subst hr9
  refine W.widen hc hs ?_
  refine vx_ret ?_
  exact W.vret C.1 C.2.1 C.2.2.2.2.2.2.2.1 (fun t ht _ => ⟨_, rfl, rfl, by rw [ht]; exact hP, hS.F ht⟩) hS.2.2 d C.2.2.2.2.2.2.1
theorem lj_t1 {r : Int32 ⊕ Nat} {mc ms : Nat} {Z9 : ld_M} (C : ld_C p l s m args meth c cc nL (some .int) Ts own w) {x : Int32} (hc : cells ≤ mc) (hs : slots ≤ ms) (d : decode cc pc = .ok (.ireturn, 1)) : ld_T p l e R s m args below meth c (vx_MQ below (ld_Q1 w Z s.heap.size r) (ld_XC w Z9 s.heap.size r) args s mc ms (ld_A w s.heap.size)) w r (some (.inl x)) Z cells slots pc lv [.int x] := by
  intro hF H locs ls hP hS hL
  have hr9 := Option.some.inj hF
  subst hr9
  refine W.widen hc hs ?_
  refine vx_ret ?_
  exact W.iret C.1 C.2.1 C.2.2.2.2.2.2.2.1 (fun t ht _ => ⟨_, rfl, rfl, by rw [ht]; exact hP, hS.F ht⟩) hS.2.2 d C.2.2.2.2.2.2.1
theorem lj_t2 {r : ld_M ⊕ Nat} {mc ms : Nat} {Z9 : ld_M} (C : ld_C p l s m args meth c cc nL (none) Ts own w)  (hc : cells ≤ mc) (hs : slots ≤ ms) (d : decode cc pc = .ok (.return_, 1)) : ld_T p l e R s m args below meth c (vx_MQ below (ld_Q2 w Z9 s.heap.size r) (ld_XC w Z9 s.heap.size r) args s mc ms (ld_A w s.heap.size)) w r (some (.inl Z)) Z cells slots pc lv [] := by
  intro hF H locs ls hP hS hL
  have hr9 := Option.some.inj hF
  subst hr9
  refine W.widen hc hs ?_
  refine vx_ret ?_
  exact W.vret C.1 C.2.1 C.2.2.2.2.2.2.2.1 (fun t ht _ => ⟨_, rfl, rfl, by rw [ht]; exact hP, hS.F ht⟩) hS.2.2 d C.2.2.2.2.2.2.1
theorem lj_t3 {r : (Int32 × ld_M) ⊕ Nat} {mc ms : Nat} {Z9 : ld_M} (C : ld_C p l s m args meth c cc nL (some .int) Ts own w) {x : Int32} (hc : cells ≤ mc) (hs : slots ≤ ms) (d : decode cc pc = .ok (.ireturn, 1)) : ld_T p l e R s m args below meth c (vx_MQ below (ld_Q3 w Z9 s.heap.size r) (ld_XC w Z9 s.heap.size r) args s mc ms (ld_A w s.heap.size)) w r (some (.inl (x, Z))) Z cells slots pc lv [.int x] := by
  intro hF H locs ls hP hS hL
  have hr9 := Option.some.inj hF
  subst hr9
  refine W.widen hc hs ?_
  refine vx_ret ?_
  exact W.iret C.1 C.2.1 C.2.2.2.2.2.2.2.1 (fun t ht _ => ⟨_, rfl, rfl, by rw [ht]; exact hP, hS.F ht⟩) hS.2.2 d C.2.2.2.2.2.2.1
theorem lj_t3_z {r : (Int32 × ld_M) ⊕ Nat} {mc ms : Nat} {Z9 : ld_M} (C : ld_C p l s m args meth c cc nL (some .boolean) Ts own w) {x : Int32} (hc : cells ≤ mc) (hs : slots ≤ ms) (d : decode cc pc = .ok (.ireturn, 1)) : ld_T p l e R s m args below meth c (vx_MQ below (ld_Q3 w Z9 s.heap.size r) (ld_XC w Z9 s.heap.size r) args s mc ms (ld_A w s.heap.size)) w r (ld_ck (ld_b x) (some (.inl (x, Z)))) Z cells slots pc lv [.int x] := by
  intro hF H locs ls hP hS hL
  obtain ⟨hb9, hF⟩ := ld_ck_of hF
  have hr9 := Option.some.inj hF
  subst hr9
  refine W.widen hc hs ?_
  refine vx_ret ?_
  exact W.zret C.1 C.2.1 C.2.2.2.2.2.2.2.1 (ld_b_nar hb9).1 (fun t ht _ => ⟨_, rfl, rfl, by rw [ht]; exact hP, hS.F ht⟩) hS.2.2 d C.2.2.2.2.2.2.1
theorem ld_bad0 : ∀ w ∈ (vx_atS RX3 151 "java/lang/IllegalArgumentException" ["java/lang/RuntimeException", "java/lang/Exception"]).filter (fun w => !goodWord w), w ∈ [Cond.castable "java/lang/IllegalArgumentException" "java/lang/IllegalArgumentException", Cond.declares ⟨"java/lang/RuntimeException", "<init>", "(Ljava/lang/String;)V"⟩, Cond.declares ⟨"java/lang/Exception", "<init>", "(Ljava/lang/String;)V"⟩, Cond.declares ⟨"java/lang/Throwable", "<init>", "(Ljava/lang/String;)V"⟩] := by decide +kernel
theorem ld_ot0 : ∀ w ∈ Cond.classLink RX3 147 "java/lang/IllegalArgumentException" :: Cond.initialized "java/lang/IllegalArgumentException" :: vx_atS RX3 151 "java/lang/IllegalArgumentException" ["java/lang/RuntimeException", "java/lang/Exception"], vx_ot w = true := by decide +kernel
theorem lj_throw0 {σ : Type} {r : σ ⊕ Nat} (C : ld_C p l s m args meth c cc nL ret Ts RX3 w) (hfl : l.stackTraces = false) (htb : ∀ x ∈ c.exceptionTable.toList, False) {Qc : Array Value → State → Outcome → State → Prop} {mc9 ms9 : Nat} {is : Nat} {text : String} (hlen : lv.length = nL) (htx : (is, text) ∈ ld_texts) (hk : Cond.classLink RX3 147 "java/lang/IllegalArgumentException" ∈ Ts) (hini : Cond.initialized "java/lang/IllegalArgumentException" ∈ Ts) (hat : ∀ q ∈ (vx_atS RX3 151 "java/lang/IllegalArgumentException" ["java/lang/RuntimeException", "java/lang/Exception"]).filter goodWord, q ∈ Ts)
    (hRf : 5 < R.frames) (hRl : (st.map fun v => v.category).sum + 82 ≤ R.locals) (hRc : cells + 1 ≤ R.cells) (hRs : slots + 6 ≤ R.slots) (hc9 : cells + 1 ≤ mc9) (hs9 : slots + 6 ≤ ms9)
    (d0 : decode cc pc = .ok (.new 147, 3)) (d3 : decode cc (pc + 3) = .ok (.dup, 1)) (d4 : decode cc (pc + 4) = .ok (.ldc is, 2)) (d6 : decode cc (pc + 6) = .ok (.invokespecial 151, 3)) (d9 : decode cc (pc + 9) = .ok (.athrow, 1)) :
    ld_T p l e R s m args below meth c (vx_MQ below Qc (ld_XC w Z s.heap.size r) args s mc9 ms9 (ld_A w s.heap.size)) w r (some (.inr 0)) Z cells slots pc lv st := by
  intro hF H locs ls hP hS hL
  have hr9 := Option.some.inj hF
  subst hr9
  obtain ⟨hx, hb, hml, hown, hts, hK, hlocks, hret, hX, hY, hJ⟩ := C
  refine vx_throwS (text := text) (names := ["java/lang/RuntimeException", "java/lang/Exception"]) (A := ld_A w s.heap.size) hx hb hfl hown (by decide +kernel) (by decide +kernel) (hts _ hk) (hts _ hini) (hX.1 _ htx) (vx_hat (L := vx_atS RX3 151 "java/lang/IllegalArgumentException" ["java/lang/RuntimeException", "java/lang/Exception"]) (fun q hq => hts q (hat q hq)) ld_bad0 (vx_c (va_Nw.use rfl (hX.2.1 0)) (vx_c (va_Nw.use rfl (hX.2.2.1 _ List.mem_cons_self)) (vx_c (va_Nw.use rfl (hX.2.2.1 _ (List.mem_cons_of_mem _ List.mem_cons_self))) (vx_c (va_Nw.use rfl (hX.2.2.1 _ (List.mem_cons_of_mem _ (List.mem_cons_of_mem _ List.mem_cons_self)))) vx_n))))) ld_ot0 hY.1 hY.2 hS (hL.1.trans (hlen.trans hml.symm)) d0 d3 d4 d6 d9 (fun x hx => (htb x hx).elim) hRf hRl hRc hRs hlocks ?_ (fun z hz => hS.2.2 z hz) hc9 hs9
  intro t _ hz hk9
  refine ⟨⟨0, rfl, by decide, rfl⟩, hP.kept (fun k q hq => hk9 q.1 ((hP k q hq).lt)), ⟨Nat.le_trans hS.1 hz, fun q h1 h2 => ?_⟩⟩
  rw [hk9 q (Nat.lt_of_lt_of_le h1 hS.1)]
  exact hS.2.1 q h1 h2
theorem ld_bad1 : ∀ w ∈ (vx_atS RX3 53 "java/lang/IllegalStateException" ["java/lang/RuntimeException", "java/lang/Exception"]).filter (fun w => !goodWord w), w ∈ [Cond.castable "java/lang/IllegalStateException" "java/lang/IllegalStateException", Cond.declares ⟨"java/lang/RuntimeException", "<init>", "(Ljava/lang/String;)V"⟩, Cond.declares ⟨"java/lang/Exception", "<init>", "(Ljava/lang/String;)V"⟩, Cond.declares ⟨"java/lang/Throwable", "<init>", "(Ljava/lang/String;)V"⟩] := by decide +kernel
theorem ld_ot1 : ∀ w ∈ Cond.classLink RX3 49 "java/lang/IllegalStateException" :: Cond.initialized "java/lang/IllegalStateException" :: vx_atS RX3 53 "java/lang/IllegalStateException" ["java/lang/RuntimeException", "java/lang/Exception"], vx_ot w = true := by decide +kernel
theorem lj_throw1 {σ : Type} {r : σ ⊕ Nat} (C : ld_C p l s m args meth c cc nL ret Ts RX3 w) (hfl : l.stackTraces = false) (htb : ∀ x ∈ c.exceptionTable.toList, False) {Qc : Array Value → State → Outcome → State → Prop} {mc9 ms9 : Nat} {is : Nat} {text : String} (hlen : lv.length = nL) (htx : (is, text) ∈ ld_texts) (hk : Cond.classLink RX3 49 "java/lang/IllegalStateException" ∈ Ts) (hini : Cond.initialized "java/lang/IllegalStateException" ∈ Ts) (hat : ∀ q ∈ (vx_atS RX3 53 "java/lang/IllegalStateException" ["java/lang/RuntimeException", "java/lang/Exception"]).filter goodWord, q ∈ Ts)
    (hRf : 5 < R.frames) (hRl : (st.map fun v => v.category).sum + 82 ≤ R.locals) (hRc : cells + 1 ≤ R.cells) (hRs : slots + 6 ≤ R.slots) (hc9 : cells + 1 ≤ mc9) (hs9 : slots + 6 ≤ ms9)
    (d0 : decode cc pc = .ok (.new 49, 3)) (d3 : decode cc (pc + 3) = .ok (.dup, 1)) (d4 : decode cc (pc + 4) = .ok (.ldc is, 2)) (d6 : decode cc (pc + 6) = .ok (.invokespecial 53, 3)) (d9 : decode cc (pc + 9) = .ok (.athrow, 1)) :
    ld_T p l e R s m args below meth c (vx_MQ below Qc (ld_XC w Z s.heap.size r) args s mc9 ms9 (ld_A w s.heap.size)) w r (some (.inr 1)) Z cells slots pc lv st := by
  intro hF H locs ls hP hS hL
  have hr9 := Option.some.inj hF
  subst hr9
  obtain ⟨hx, hb, hml, hown, hts, hK, hlocks, hret, hX, hY, hJ⟩ := C
  refine vx_throwS (text := text) (names := ["java/lang/RuntimeException", "java/lang/Exception"]) (A := ld_A w s.heap.size) hx hb hfl hown (by decide +kernel) (by decide +kernel) (hts _ hk) (hts _ hini) (hX.1 _ htx) (vx_hat (L := vx_atS RX3 53 "java/lang/IllegalStateException" ["java/lang/RuntimeException", "java/lang/Exception"]) (fun q hq => hts q (hat q hq)) ld_bad1 (vx_c (va_Nw.use rfl (hX.2.1 1)) (vx_c (va_Nw.use rfl (hX.2.2.1 _ List.mem_cons_self)) (vx_c (va_Nw.use rfl (hX.2.2.1 _ (List.mem_cons_of_mem _ List.mem_cons_self))) (vx_c (va_Nw.use rfl (hX.2.2.1 _ (List.mem_cons_of_mem _ (List.mem_cons_of_mem _ List.mem_cons_self)))) vx_n))))) ld_ot1 hY.1 hY.2 hS (hL.1.trans (hlen.trans hml.symm)) d0 d3 d4 d6 d9 (fun x hx => (htb x hx).elim) hRf hRl hRc hRs hlocks ?_ (fun z hz => hS.2.2 z hz) hc9 hs9
  intro t _ hz hk9
  refine ⟨⟨1, rfl, by decide, rfl⟩, hP.kept (fun k q hq => hk9 q.1 ((hP k q hq).lt)), ⟨Nat.le_trans hS.1 hz, fun q h1 h2 => ?_⟩⟩
  rw [hk9 q (Nat.lt_of_lt_of_le h1 hS.1)]
  exact hS.2.1 q h1 h2
theorem ld_bad2 : ∀ w ∈ (vx_atS RX3 216 "java/lang/IndexOutOfBoundsException" ["java/lang/RuntimeException", "java/lang/Exception"]).filter (fun w => !goodWord w), w ∈ [Cond.castable "java/lang/IndexOutOfBoundsException" "java/lang/IndexOutOfBoundsException", Cond.declares ⟨"java/lang/RuntimeException", "<init>", "(Ljava/lang/String;)V"⟩, Cond.declares ⟨"java/lang/Exception", "<init>", "(Ljava/lang/String;)V"⟩, Cond.declares ⟨"java/lang/Throwable", "<init>", "(Ljava/lang/String;)V"⟩] := by decide +kernel
theorem ld_ot2 : ∀ w ∈ Cond.classLink RX3 212 "java/lang/IndexOutOfBoundsException" :: Cond.initialized "java/lang/IndexOutOfBoundsException" :: vx_atS RX3 216 "java/lang/IndexOutOfBoundsException" ["java/lang/RuntimeException", "java/lang/Exception"], vx_ot w = true := by decide +kernel
theorem lj_throw2 {σ : Type} {r : σ ⊕ Nat} (C : ld_C p l s m args meth c cc nL ret Ts RX3 w) (hfl : l.stackTraces = false) (htb : ∀ x ∈ c.exceptionTable.toList, False) {Qc : Array Value → State → Outcome → State → Prop} {mc9 ms9 : Nat} {is : Nat} {text : String} (hlen : lv.length = nL) (htx : (is, text) ∈ ld_texts) (hk : Cond.classLink RX3 212 "java/lang/IndexOutOfBoundsException" ∈ Ts) (hini : Cond.initialized "java/lang/IndexOutOfBoundsException" ∈ Ts) (hat : ∀ q ∈ (vx_atS RX3 216 "java/lang/IndexOutOfBoundsException" ["java/lang/RuntimeException", "java/lang/Exception"]).filter goodWord, q ∈ Ts)
    (hRf : 5 < R.frames) (hRl : (st.map fun v => v.category).sum + 82 ≤ R.locals) (hRc : cells + 1 ≤ R.cells) (hRs : slots + 6 ≤ R.slots) (hc9 : cells + 1 ≤ mc9) (hs9 : slots + 6 ≤ ms9)
    (d0 : decode cc pc = .ok (.new 212, 3)) (d3 : decode cc (pc + 3) = .ok (.dup, 1)) (d4 : decode cc (pc + 4) = .ok (.ldc is, 2)) (d6 : decode cc (pc + 6) = .ok (.invokespecial 216, 3)) (d9 : decode cc (pc + 9) = .ok (.athrow, 1)) :
    ld_T p l e R s m args below meth c (vx_MQ below Qc (ld_XC w Z s.heap.size r) args s mc9 ms9 (ld_A w s.heap.size)) w r (some (.inr 2)) Z cells slots pc lv st := by
  intro hF H locs ls hP hS hL
  have hr9 := Option.some.inj hF
  subst hr9
  obtain ⟨hx, hb, hml, hown, hts, hK, hlocks, hret, hX, hY, hJ⟩ := C
  refine vx_throwS (text := text) (names := ["java/lang/RuntimeException", "java/lang/Exception"]) (A := ld_A w s.heap.size) hx hb hfl hown (by decide +kernel) (by decide +kernel) (hts _ hk) (hts _ hini) (hX.1 _ htx) (vx_hat (L := vx_atS RX3 216 "java/lang/IndexOutOfBoundsException" ["java/lang/RuntimeException", "java/lang/Exception"]) (fun q hq => hts q (hat q hq)) ld_bad2 (vx_c (va_Nw.use rfl (hX.2.1 2)) (vx_c (va_Nw.use rfl (hX.2.2.1 _ List.mem_cons_self)) (vx_c (va_Nw.use rfl (hX.2.2.1 _ (List.mem_cons_of_mem _ List.mem_cons_self))) (vx_c (va_Nw.use rfl (hX.2.2.1 _ (List.mem_cons_of_mem _ (List.mem_cons_of_mem _ List.mem_cons_self)))) vx_n))))) ld_ot2 hY.1 hY.2 hS (hL.1.trans (hlen.trans hml.symm)) d0 d3 d4 d6 d9 (fun x hx => (htb x hx).elim) hRf hRl hRc hRs hlocks ?_ (fun z hz => hS.2.2 z hz) hc9 hs9
  intro t _ hz hk9
  refine ⟨⟨2, rfl, by decide, rfl⟩, hP.kept (fun k q hq => hk9 q.1 ((hP k q hq).lt)), ⟨Nat.le_trans hS.1 hz, fun q h1 h2 => ?_⟩⟩
  rw [hk9 q (Nat.lt_of_lt_of_le h1 hS.1)]
  exact hS.2.1 q h1 h2
end LDK
theorem ld_enter {l : Launch} {y : MethodName} {ws ws' : List Cond} {rm : Room} {cc : ByteArray} {maxL : Nat} {ret : Option FieldType} {w : ld_E} {Z : ld_M} {sz : Nat} {av : List Value} {p : Program} {e : Env} {s : State} {m : MethodId} {args : Array Value} {below : List Frame} {meth : Method} {c : Code} {s₁ : State} {Q : State → Prop} (own : String) (hown : y.cls = own) (hc : ∀ v ∈ av, v.category = 1) (hn : av.length ≤ maxL) (B : BodyLoose p l y (headSpec ws rm) cc maxL ret e s m args below meth c s₁) (hml : c.maxLocals = maxL) (hpc : ld_Pc w Z sz av args s)
    (k : ld_C p l s m args meth c cc maxL ret ws own w → ld_J p l e rm s m args below meth c Q w Z 0 0 0 (av.map some ++ List.replicate (maxL - av.length) none) []) : s.heap.size = sz ∧ W p l e (headSpec ws rm).room s m args below meth c s.heap [] 0 0 Q (entryFrame m args maxL) := by
  obtain ⟨rfl, hsz, hP, hK, hX, hY, hJ⟩ := hpc
  refine ⟨hsz, ?_⟩
  have C : ld_C p l s m av.toArray meth c cc maxL ret ws own w := ⟨B.exec, B.bytes, hml, by rw [← hown]; exact findClass_of_methodNamed B.named, atoms_spec (ws := ws) B.pre, hK, B.notSynchronized, B.returns, hX, by rw [hsz]; exact hY, hJ⟩
  have hlen : (lg_sl av).length ≤ maxL := by
    have h1 : ∀ us : List Value, (∀ v ∈ us, v.category = 1) → (lg_sl us).length = us.length := by
      intro us
      induction us with
      | nil => intro _; rfl
      | cons v us ih =>
        intro hu
        have h1 : v.category = 1 := hu v List.mem_cons_self
        have h2 : ¬ v.category = 2 := by omega
        have h3 := ih (fun x hx => hu x (List.mem_cons_of_mem _ hx))
        simp only [lg_sl, List.flatMap_cons, if_neg h2, List.length_append, List.length_cons, List.length_nil] at h3 ⊢
        omega
    rw [h1 av hc]
    exact hn
  rw [lg_entry_eq]
  exact k C s.heap [] _ hP va_S.rf (ld_L_entry av hlen hc)
theorem ld_ofW {l : Launch} {y : MethodName} {ws ws' : List Cond} {rm : Room} {cc : ByteArray} {maxL mc ms : Nat} {ret : Option FieldType} {w : ld_E} {Z : ld_M} {av : List Value} {Qc : Nat → Array Value → State → Outcome → State → Prop} (own : String) (hy : plainName y.cls = true) (hw : ws = Cond.code y cc maxL ret :: ws') (hown : y.cls = own) (hc : ∀ v ∈ av, v.category = 1) (hn : av.length ≤ maxL) (sz : Nat)
    (body : ∀ p e s m args below meth c, ld_C p l s m args meth c cc maxL ret ws own w → ld_J p l e rm s m args below meth c (MQ below (Qc s.heap.size) args s mc ms (ld_A w s.heap.size)) w Z 0 0 0 (av.map some ++ List.replicate (maxL - av.length) none) []) : Met l y ws rm (ld_Pc w Z sz av) (Qc sz) mc ms (ld_A w sz) := by
  refine Met.ofW (cc := cc) (maxL := maxL) (ret := ret) hy hw ?_
  intro p e s m args below meth c s₁ B hml hv
  obtain ⟨hsz, hw9⟩ := ld_enter (ws' := ws') own hown hc hn B hml hv (body p e s m args below meth c)
  subst hsz
  exact hw9
theorem ld_ofX {l : Launch} {y : MethodName} {ws ws' : List Cond} {rm : Room} {cc : ByteArray} {maxL mc ms : Nat} {ret : Option FieldType} {w : ld_E} {Z : ld_M} {av : List Value} {Qc : Nat → Array Value → State → Outcome → State → Prop} {XC : Nat → String → State → State → Prop} (own : String) (hy : plainName y.cls = true) (hw : ws = Cond.code y cc maxL ret :: ws') (hown : y.cls = own) (hc : ∀ v ∈ av, v.category = 1) (hn : av.length ≤ maxL) (sz : Nat)
    (body : ∀ p e s m args below meth c, ld_C p l s m args meth c cc maxL ret ws own w → (∀ x ∈ c.exceptionTable.toList, False) → ld_J p l e rm s m args below meth c (vx_MQ below (Qc s.heap.size) (XC s.heap.size) args s mc ms (ld_A w s.heap.size)) w Z 0 0 0 (av.map some ++ List.replicate (maxL - av.length) none) []) : vx_Met l y ws rm (ld_Pc w Z sz av) (Qc sz) (XC sz) mc ms (ld_A w sz) := by
  refine vx_ofW (cc := cc) (maxL := maxL) (ret := ret) hy hw ?_
  intro p e s m args below meth c s₁ B hml htb hv
  obtain ⟨hsz, hw9⟩ := ld_enter (ws' := ws') own hown hc hn B hml hv (fun C => body p e s m args below meth c C htb)
  subst hsz
  exact hw9
theorem ld_ofH {l : Launch} {y : MethodName} {ws ws' : List Cond} {rm : Room} {cc : ByteArray} {maxL mc ms : Nat} {ret : Option FieldType} {hh : List (Nat × Nat × Nat × Nat)} {w : ld_E} {Z : ld_M} {av : List Value} {Qc : Nat → Array Value → State → Outcome → State → Prop} (own : String) (hy : plainName y.cls = true) (hw : ws = Cond.codeWith y cc maxL ret hh :: ws') (hown : y.cls = own) (hc : ∀ v ∈ av, v.category = 1) (hn : av.length ≤ maxL) (sz : Nat)
    (body : ∀ p e s m args below meth c, ld_C p l s m args meth c cc maxL ret ws own w → c.exceptionTable.toList = tableOf hh → ld_J p l e rm s m args below meth c (MQ below (Qc s.heap.size) args s mc ms (ld_A w s.heap.size)) w Z 0 0 0 (av.map some ++ List.replicate (maxL - av.length) none) []) : Met l y ws rm (ld_Pc w Z sz av) (Qc sz) mc ms (ld_A w sz) := by
  refine MetFree.of_bodyS (code := cc) (maxLocals := maxL) (ret := ret) hy ?_ ?_
  · intro args s m h hn
    obtain ⟨m9, meth, c, hn9, h1, h2, h3, h4, -, h5, h6, -⟩ := Cond.codeWith_spec (atoms_spec (ws := ws) h _ (by rw [hw]; exact List.mem_cons_self))
    cases hn.symm.trans hn9
    exact ⟨meth, c, h1, h2, h3, h4, h5, h6⟩
  · intro p e s m args below meth c s₁ B hml hP _
    have hh0 : s₁.heap = s.heap := by rw [B.state]; rfl
    have htb : c.exceptionTable.toList = tableOf hh := vx_table (x := y) B (atoms_spec (ws := ws) B.pre (Cond.codeWith y cc maxL ret hh) (by rw [hw]; exact List.mem_cons_self))
    obtain ⟨hsz, hw9⟩ := ld_enter (ws' := ws') own hown hc hn B hml hP (fun C => body p e s m args below meth c C htb)
    subst hsz
    obtain ⟨t, a1, o, b1, b2, b3⟩ := hw9 s₁ hh0 (Stand.of_body B)
    exact ⟨t, o, a1, b1, b2, ⟨b3.1, b3.2⟩⟩
