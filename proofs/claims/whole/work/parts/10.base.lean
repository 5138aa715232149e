/-! The whole store as one table of ints: cell i, place j. Cells 0..85: the desk (0..66) and the reference (67..85), 86 the law's long[1]. Addresses of cells: ld_ad w. -/
abbrev ld_M : Type := Nat → Nat → Int32
abbrev ld_E : Type := va_G × (Nat → ClassId) × (Nat → Nat) × (Nat → Nat)
abbrev ld_ad (w : ld_E) (i : Nat) : Nat := w.2.2.1 i
def ld_len (i : Nat) : Nat :=
  if i = 2 then 12 else if i < 11 then 20 else if i = 12 ∨ i = 13 ∨ i = 29 ∨ i = 30 then 10 else if i < 45 then 12 else if i < 67 then 5 else if i = 70 then 80 else if i = 71 ∨ i = 72 then 12 else if i = 73 ∨ i = 78 ∨ i = 79 then 2 else if i = 77 then 240 else if i = 80 ∨ i = 81 then 24 else 20
def ld_f3 (w : ld_E) (z : Nat → Int32) : List Value := [.ref (ld_ad w 3), .ref (ld_ad w 11), .ref (ld_ad w 28), .ref (ld_ad w 45), .ref (ld_ad w 1), .ref (ld_ad w 2), .int (z 6)]
def ld_f2 (w : ld_E) (z : Nat → Int32) : List Value := [.ref (ld_ad w 4), .ref (ld_ad w 5), .ref (ld_ad w 6), .int (z 3)]
def ld_f0 (w : ld_E) (b : Nat) (z : Nat → Int32) : List Value := [.ref (ld_ad w (b + 1)), .ref (ld_ad w (b + 2)), .ref (ld_ad w (b + 3)), .ref (ld_ad w (b + 4)), .ref (ld_ad w (b + 5)), .ref (ld_ad w (b + 6)), .int (z 6), .int (z 7), .int (z 8)]
def ld_f1 (w : ld_E) (z : Nat → Int32) : List Value := [.ref (ld_ad w 46), .int (z 1), .int (z 2)]
def ld_f4 (w : ld_E) (z : Nat → Int32) : List Value := [.int (z 0), .ref (ld_ad w 68), .ref (ld_ad w 69), .ref (ld_ad w 70), .int (z 4), .ref (ld_ad w 71), .ref (ld_ad w 72), .ref (ld_ad w 73), .ref (ld_ad w 74), .ref (ld_ad w 75), .ref (ld_ad w 76), .ref (ld_ad w 77), .int (z 12), .ref (ld_ad w 78), .ref (ld_ad w 79), .ref (ld_ad w 80), .ref (ld_ad w 81), .int (z 17), .ref (ld_ad w 82), .ref (ld_ad w 83), .ref (ld_ad w 84), .ref (ld_ad w 85), .int (z 22)]
def ld_cell (w : ld_E) (i : Nat) (z : Nat → Int32) : va_E :=
  if i = 0 then .inr (3, ld_f3 w z)
  else if i = 1 then .inl (w.2.1 1, 12, .inl z)
  else if i = 14 ∨ i = 31 then .inl (w.2.1 1, 10, .inl z)
  else if i = 3 then .inr (2, ld_f2 w z)
  else if i = 6 then .inl (w.2.1 3, 4, .inr (.inr (.inr (.inr (fun j => some (ld_ad w (7 + j)))))))
  else if i = 11 ∨ i = 28 then .inr (0, ld_f0 w i z)
  else if i = 15 ∨ i = 32 then .inl (w.2.1 3, 10, .inr (.inr (.inr (.inr (fun j => some (ld_ad w (i + 3 + j)))))))
  else if i = 45 then .inr (1, ld_f1 w z)
  else if i = 46 then .inl (w.2.1 3, 20, .inr (.inr (.inr (.inr (fun j => some (ld_ad w (47 + j)))))))
  else if i = 67 then .inr (4, ld_f4 w z)
  else if i = 86 then .inl (w.2.1 2, 1, .inr (.inl (fun j => (z j).toInt64)))
  else .inl (w.2.1 0, ld_len i, .inl z)
def ld_W (w : ld_E) (Z : ld_M) : va_W := (List.range 87).map (fun i => (ld_ad w i, ld_cell w i (Z i)))
theorem ld_at {w : ld_E} {Z : ld_M} {i : Nat} (h : i < 87) : (ld_W w Z)[i]? = some (ld_ad w i, ld_cell w i (Z i)) := by
  unfold ld_W
  rw [List.getElem?_map, List.getElem?_range h]
  rfl
theorem ld_at' {w : ld_E} {Z : ld_M} {i : Nat} {q : Nat × va_E} (h : (ld_W w Z)[i]? = some q) : i < 87 ∧ q.1 = ld_ad w i := by
  have hl : i < (ld_W w Z).length := (List.getElem?_eq_some_iff.mp h).1
  have h87 : i < 87 := by simpa [ld_W] using hl
  rw [ld_at h87] at h
  cases h
  exact ⟨h87, rfl⟩
def ld_up (Z : ld_M) (i j : Nat) (x : Int32) : ld_M := fun a => if a = i then upd (Z a) j x else Z a
theorem ld_up_s (Z : ld_M) (i j : Nat) (x : Int32) : ld_up Z i j x i = upd (Z i) j x := if_pos rfl
theorem ld_up_n {Z : ld_M} {i j a : Nat} {x : Int32} (h : a ≠ i) : ld_up Z i j x a = Z a := if_neg h
theorem ld_set {w : ld_E} {Z : ld_M} {i j : Nat} {x : Int32} (h : i < 87) : (ld_W w Z).set i (ld_ad w i, ld_cell w i (upd (Z i) j x)) = ld_W w (ld_up Z i j x) := by
  apply List.ext_getElem?
  intro k
  by_cases hk : k < 87
  · rw [ld_at hk]
    by_cases e : k = i
    · subst e
      rw [List.getElem?_set_self (by simpa [ld_W] using h), ld_up_s]
    · rw [List.getElem?_set_ne (Ne.symm e), ld_at hk, ld_up_n e]
  · rw [List.getElem?_eq_none (by simp [ld_W]; omega), List.getElem?_eq_none (by simp [ld_W]; omega)]
def ld_A (w : ld_E) (sz : Nat) : Nat → Prop := fun q => (∃ i, i < 87 ∧ q = ld_ad w i) ∨ sz ≤ q
def ld_tys (w : ld_E) : List (ClassId × FieldType) := [(w.2.1 0, .int), (w.2.1 1, .boolean), (w.2.1 2, .long), (w.2.1 3, .array .int)]
def ld_J1 (w : ld_E) : Prop := ∀ i j, i < 87 → j < 87 → ld_ad w i = ld_ad w j → i = j
theorem ld_D {w : ld_E} (h : ld_J1 w) {A : Nat → Prop} (hA : ∀ i, i < 87 → A (ld_ad w i)) (Z : ld_M) : va_D A (ld_W w Z) := by
  refine ⟨fun i j p q hi hj hpq => ?_, fun k q hk => ?_⟩
  · obtain ⟨h1, h2⟩ := ld_at' hi
    obtain ⟨h3, h4⟩ := ld_at' hj
    exact h i j h1 h3 (h2.symm.trans (hpq.trans h4))
  · obtain ⟨h1, h2⟩ := ld_at' hk
    rw [h2]
    exact hA k h1
theorem ld_DA {w : ld_E} (h : ld_J1 w) (sz : Nat) (Z : ld_M) : va_D (ld_A w sz) (ld_W w Z) := ld_D h (fun i hi => Or.inl ⟨i, hi, rfl⟩) Z
theorem ld_lt {w : ld_E} {Z : ld_M} {D : va_G} {cl : List vw_C} {H : Heap} (hP : va_P D cl (ld_W w Z) H) {i : Nat} (hi : i < 87) : ld_ad w i < H.size := (hP i _ (ld_at hi)).lt
/-- the texts of the exceptions: which entry of LightDesk's pool, the text -/
def ld_texts : List (Nat × String) := [(51, "there are 20 lamps"), (109, "the list has 10 cues"), (129, "nothing can be undone"), (149, "1 to 1000 tenths can pass"), (214, "there is no such lamp"), (218, "there is no such cue"), (220, "a power is 1 to 20"), (222, "a gel is 0 to 7"), (227, "a night is 0 to 3"), (229, "a channel is 0 to 11"), (231, "a list is 0 or 1"), (233, "a delay or fade is 0 to 100 tenths"), (235, "a level is 0 to 100, or NONE")]
/-- the exceptions by their numbers -/
def ld_en (e : Nat) : String := if e = 0 then "java/lang/IllegalArgumentException" else if e = 1 then "java/lang/IllegalStateException" else "java/lang/IndexOutOfBoundsException"
def ld_dc : List MethodName := [⟨"java/lang/RuntimeException", "<init>", "(Ljava/lang/String;)V"⟩, ⟨"java/lang/Exception", "<init>", "(Ljava/lang/String;)V"⟩, ⟨"java/lang/Throwable", "<init>", "(Ljava/lang/String;)V"⟩]
/-- static methods of the desk that the classes in it call: the caller's class, the entry of its pool, the method -/
def ld_nest : List (String × Nat × MethodName) := [(RX0, 50, yX3_isChannel), (RX2, 41, yX3_isNight)]
/-- what of the tables isn't a word of a method's list -/
def ld_X (w : ld_E) (U : State) : Prop := (∀ q ∈ ld_texts, vk_R RX3 q.1 q.2 (w.2.2.2 q.1) U) ∧ (∀ e : Nat, va_Nw (.castable (ld_en e) (ld_en e)) U) ∧ (∀ y ∈ ld_dc, va_Nw (.declares y) U) ∧ (∀ e f : Nat, e < 3 → f < 3 → e ≠ f → va_Nc (ld_en e) (ld_en f) U) ∧ (∀ q ∈ ld_nest, va_Nw (.methodLinkNest q.1 q.2.1 q.2.2 RX3) U)
theorem ld_X.same {w : ld_E} {u U : State} (hv : U.vm = u.vm) (h : ld_X w u) : ld_X w U :=
  ⟨fun q hq => vk_R.same hv (h.1 q hq), fun e => va_Nw.same rfl hv.symm (h.2.1 e), fun y hy => va_Nw.same rfl hv.symm (h.2.2.1 y hy), fun e f he hf n => va_Nc.moved (by rw [hv]; exact Vm.Alike.refl _) (h.2.2.2.1 e f he hf n), fun q hq => va_Nw.same rfl hv.symm (h.2.2.2.2 q hq)⟩
theorem ld_X.warm {w : ld_E} {s U : State} (hW : s.WarmedH U.vm) (h : ld_X w s) : ld_X w U :=
  ⟨fun q hq => vk_R.warm hW (h.1 q hq), fun e => va_Nw.warmC hW (h.2.1 e), fun y hy => va_Nw.warmD hW (h.2.2.1 y hy), fun e f he hf n => va_Nc.moved hW.alike (h.2.2.2.1 e f he hf n), fun q hq => va_Nw.warmM hW (h.2.2.2.2 q hq)⟩
def ld_Y (w : ld_E) (sz : Nat) (U : State) (H : Heap) : Prop := vx_Zq Bundle.tN "UNASSIGNED_STACK" Bundle.steD (ld_A w sz) U H ∧ vx_Zq Bundle.tN "SUPPRESSED_SENTINEL" Bundle.listD (ld_A w sz) U H
def ld_Bk (w : ld_E) (Z : ld_M) (sz : Nat) (U : State) : Prop := U.heap.size = sz ∧ va_P w.1 vwCl (ld_W w Z) U.heap ∧ va_K w.1 vwCl (ld_tys w) U ∧ ld_X w U ∧ ld_Y w sz U U.heap ∧ ld_J1 w
def ld_Pc (w : ld_E) (Z : ld_M) (sz : Nat) (av : List Value) : Array Value → State → Prop := va_Pc av (ld_Bk w Z sz)
theorem ld_blind {w : ld_E} {Z : ld_M} {sz : Nat} {av : List Value} : FrameBlind (ld_Pc w Z sz av) := fun a U g mk h =>
  ⟨h.1, h.2.1, h.2.2.1, va_K.moved (u := U) (U := U.calling g mk a) (Vm.Alike.refl U.vm) h.2.2.2.1, ld_X.same (u := U) (U := U.calling g mk a) rfl h.2.2.2.2.1, ⟨vx_Zq.moved (u := U) (U := U.calling g mk a) (Vm.Alike.refl U.vm) h.2.2.2.2.2.1.1, vx_Zq.moved (u := U) (U := U.calling g mk a) (Vm.Alike.refl U.vm) h.2.2.2.2.2.1.2⟩, h.2.2.2.2.2.2⟩
def ld_Q (w : ld_E) (Z : ld_M) (sz : Nat) (v : Option Value) : Array Value → State → Outcome → State → Prop := fun _ st oc t => oc = .returned v ∧ va_P w.1 vwCl (ld_W w Z) t.heap ∧ va_F (ld_A w sz) st t
/-- the locals by their places -/
def ld_L (ls : Array Slot) (lv : List (Option Value)) : Prop := ls.size = lv.length ∧ lv_wf ls ∧ ∀ (i : Nat) (v : Value), lv[i]? = some (some v) → ls[i]? = some (.val v) ∧ v.category = 1
def ld_C (p : Program) (l : Launch) (s : State) (m : MethodId) (args : Array Value) (meth : Method) (c : Code) (cc : ByteArray) (nL : Nat) (ret : Option FieldType) (Ts : List Cond) (own : String) (w : ld_E) : Prop :=
  p.tables.exec = Jvm.exec ∧ c.code = cc ∧ c.maxLocals = nL ∧ s.vm.findClass own = some m.cls ∧ (∀ q ∈ Ts, q.before args s = true) ∧ va_K w.1 vwCl (ld_tys w) s ∧ meth.locks = false ∧ meth.sig.returnType = ret ∧ ld_X w s ∧ ld_Y w s.heap.size s s.heap ∧ ld_J1 w
def ld_J (p : Program) (l : Launch) (e : Env) (R : Room) (s : State) (m : MethodId) (args : Array Value) (below : List Frame) (meth : Method) (c : Code) (Q : State → Prop) (w : ld_E) (Z : ld_M) (cells slots pc : Nat) (lv : List (Option Value)) (st : List Value) : Prop :=
  ∀ (H : Heap) (locs : List Loc) (ls : Array Slot), va_P w.1 vwCl (ld_W w Z) H → va_S (ld_A w s.heap.size) s.heap H locs → ld_L ls lv → W p l e R s m args below meth c H locs cells slots Q (F0 m pc ls st)
/-- if the pure road F comes to r, the machine comes to Q -/
def ld_T (p : Program) (l : Launch) (e : Env) (R : Room) (s : State) (m : MethodId) (args : Array Value) (below : List Frame) (meth : Method) (c : Code) (Q : State → Prop) (w : ld_E) {ρ : Type} (r : ρ) (F : Option ρ) (Z : ld_M) (cells slots pc : Nat) (lv : List (Option Value)) (st : List Value) : Prop :=
  F = some r → ld_J p l e R s m args below meth c Q w Z cells slots pc lv st
def ld_ck {ρ : Type} (b : Bool) (F : Option ρ) : Option ρ := if b = true then F else none
theorem ld_ck_of {ρ : Type} {b : Bool} {F : Option ρ} {r : ρ} (h : ld_ck b F = some r) : b = true ∧ F = some r := by
  unfold ld_ck at h
  by_cases hb : b = true
  · rw [if_pos hb] at h; exact ⟨hb, h⟩
  · rw [if_neg hb] at h; cases h
theorem ld_ck_t {ρ : Type} {b : Bool} {F : Option ρ} (h : b = true) : ld_ck b F = F := by unfold ld_ck; rw [if_pos h]
/-- an index in range -/
def ld_g (x : Int32) (n : Nat) : Bool := decide (0 ≤ x) && decide (x.toNatClampNeg < n)
theorem ld_g_in {x : Int32} {n : Nat} (h : ld_g x n = true) : vp_in x n := by
  simp only [ld_g, Bool.and_eq_true, decide_eq_true_eq] at h
  intro q
  rcases q with q | q
  · exact absurd h.1 (by rw [Int32.not_le]; exact q)
  · omega
theorem ld_g_lt {x : Int32} {n : Nat} (h : ld_g x n = true) : x.toNatClampNeg < n := by
  simp only [ld_g, Bool.and_eq_true, decide_eq_true_eq] at h
  exact h.2
def ld_b (x : Int32) : Bool := decide (x = 0) || decide (x = 1)
theorem ld_b_nar {x : Int32} (h : ld_b x = true) : narrow .boolean (.int x) = .int x ∧ vp_nar .boolean x = x ∧ fits .boolean (.int x) = true := by
  simp only [ld_b, Bool.or_eq_true, decide_eq_true_eq] at h
  rcases h with rfl | rfl
  · exact ⟨by decide +kernel, by decide +kernel, by decide +kernel⟩
  · exact ⟨by decide +kernel, by decide +kernel, by decide +kernel⟩
def ld_bx {σ ρ : Type} (G : Option (σ ⊕ Nat)) (f : σ → Option (ρ ⊕ Nat)) : Option (ρ ⊕ Nat) := match G with
  | none => none
  | some (.inl x) => f x
  | some (.inr e) => some (.inr e)
def ld_bh {σ ρ : Type} (G : Option (σ ⊕ Nat)) (f : σ → Option ρ) (h : Nat → Option ρ) : Option ρ := match G with
  | none => none
  | some (.inl x) => f x
  | some (.inr e) => h e
def ld_bd {σ ρ : Type} (G : Option σ) (f : σ → Option ρ) : Option ρ := match G with
  | none => none
  | some x => f x
theorem ld_bd_of {σ ρ : Type} {G : Option σ} {f : σ → Option ρ} {r : ρ} (h : ld_bd G f = some r) : ∃ x, G = some x ∧ f x = some r := by
  cases G with
  | none => cases h
  | some x => exact ⟨x, rfl, h⟩
theorem ld_bx_of {σ ρ : Type} {G : Option (σ ⊕ Nat)} {f : σ → Option (ρ ⊕ Nat)} {r : ρ ⊕ Nat} (h : ld_bx G f = some r) : (∃ x, G = some (.inl x) ∧ f x = some r) ∨ ∃ e, G = some (.inr e) ∧ r = .inr e := by
  cases G with
  | none => cases h
  | some x =>
    cases x with
    | inl x => exact Or.inl ⟨x, rfl, h⟩
    | inr e => exact Or.inr ⟨e, rfl, (Option.some.inj h).symm⟩
theorem ld_bh_of {σ ρ : Type} {G : Option (σ ⊕ Nat)} {f : σ → Option ρ} {h : Nat → Option ρ} {r : ρ} (hh : ld_bh G f h = some r) : (∃ x, G = some (.inl x) ∧ f x = some r) ∨ ∃ e, G = some (.inr e) ∧ h e = some r := by
  cases G with
  | none => cases hh
  | some x =>
    cases x with
    | inl x => exact Or.inl ⟨x, rfl, hh⟩
    | inr e => exact Or.inr ⟨e, rfl, hh⟩
theorem ld_L_set {ls ls' : Array Slot} {lv : List (Option Value)} {i : Nat} {v : Value} (h : ld_L ls lv) (hi : i < lv.length) (hc : v.category = 1) (hst : storeLocals ls i v = some ls') : ld_L ls' (lv.set i (some v)) := by
  obtain ⟨h1, h2, h3⟩ := h
  have hh : lv_has ls lv.length ((List.range lv.length).filterMap (fun j => match lv[j]? with | some (some v) => some (j, v) | _ => none)) := by
    refine ⟨h1, h2, fun q hq => ?_⟩
    obtain ⟨j, -, hj⟩ := List.mem_filterMap.mp hq
    cases e : lv[j]? with
    | none => rw [e] at hj; cases hj
    | some o =>
      cases o with
      | none => rw [e] at hj; cases hj
      | some v9 => rw [e] at hj; cases hj; exact (h3 _ _ e).1
  obtain ⟨ls1, e1, g1, g2, g3⟩ := lv_store1 (v := v) hh hi hc
  have : ls1 = ls' := Option.some.inj (e1.symm.trans hst)
  subst this
  refine ⟨by rw [g1, List.length_set], g2, fun j v9 hj => ?_⟩
  by_cases e : j = i
  · subst e
    rw [List.getElem?_set_self hi] at hj
    cases hj
    exact ⟨g3 (j, v) List.mem_cons_self, hc⟩
  · rw [List.getElem?_set_ne (Ne.symm e)] at hj
    have hj2 := (h3 j v9 hj).2
    refine ⟨g3 (j, v9) (List.mem_cons_of_mem _ (List.mem_filter.mpr ⟨List.mem_filterMap.mpr ⟨j, List.mem_range.mpr (List.getElem?_eq_some_iff.mp hj).1, by rw [hj]⟩, ?_⟩)), hj2⟩
    have n2 : ¬ v9.category = 2 := by omega
    simp [e, n2]
theorem ld_L_store {ls : Array Slot} {lv : List (Option Value)} {i : Nat} {v : Value} (h : ld_L ls lv) (hi : i < lv.length) (hc : v.category = 1) : ∃ ls', storeLocals ls i v = some ls' ∧ ld_L ls' (lv.set i (some v)) := by
  obtain ⟨ls', e', -⟩ := lv_store1 (v := v) (ls := ls) (nL := lv.length) (l := []) ⟨h.1, h.2.1, fun q hq => by cases hq⟩ hi hc
  exact ⟨ls', e', ld_L_set h hi hc e'⟩
theorem ld_L_entry (vs : List Value) {n : Nat} (h : (lg_sl vs).length ≤ n) (hc : ∀ v ∈ vs, v.category = 1) : ld_L ((lg_sl vs ++ List.replicate (n - (lg_sl vs).length) Slot.unset).toArray) (vs.map some ++ List.replicate (n - vs.length) none) := by
  have hsl : ∀ us : List Value, (∀ v ∈ us, v.category = 1) → lg_sl us = us.map Slot.val := by
    intro us
    induction us with
    | nil => intro _; rfl
    | cons v us ih =>
      intro hu
      have h1 : v.category = 1 := hu v List.mem_cons_self
      have h2 : ¬ v.category = 2 := by omega
      have h3 := ih (fun x hx => hu x (List.mem_cons_of_mem _ hx))
      simp only [lg_sl, List.flatMap_cons, if_neg h2, List.map_cons, List.singleton_append] at h3 ⊢
      rw [h3]
  have e1 := hsl vs hc
  have hlen : (lg_sl vs).length = vs.length := by rw [e1, List.length_map]
  obtain ⟨q1, q2, q3⟩ := lv_entry vs h
  refine ⟨?_, q2, fun i v hi => ?_⟩
  · rw [q1]
    simp
    omega
  · by_cases hl : i < vs.length
    · rw [List.getElem?_append_left (by simpa using hl), List.getElem?_map] at hi
      have hv : vs[i]? = some v := by
        cases e : vs[i]? with
        | none => rw [e] at hi; cases hi
        | some v9 => rw [e] at hi; cases hi; rfl
      refine ⟨?_, hc v (List.mem_of_getElem? hv)⟩
      rw [List.getElem?_toArray, List.getElem?_append_left (by omega), e1, List.getElem?_map, hv]
      rfl
    · rw [List.getElem?_append_right (by simpa using hl)] at hi
      have := List.eq_of_mem_replicate (List.mem_of_getElem? hi)
      cases this
