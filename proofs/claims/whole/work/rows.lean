section
-- ===== PART A: goes FIRST, ahead of the names: the tables' words, and 'selects' of the private methods out of them =====
/-- a private method of a class that the tables say can be made, by its rows of tables_1 -/
def lw_okq (q : MethodName × Nat) : Prop := (q.1.cls ≠ "java/lang/invoke/MethodHandle" ∧ q.1.cls ≠ "java/lang/invoke/VarHandle") ∧ Cond.instantiable q.1.cls q.2 ∈ tables_1 ∧ Cond.privateMethod q.1 ∈ tables_1 ∧ Cond.instanceMethod q.1 ∈ tables_1
theorem lw_p0 : lw_okq (⟨"LightDesk", "mergedNow", "(I)I"⟩, 7) := ⟨⟨by decide +kernel, by decide +kernel⟩, List.mem_of_getElem? (i := 15) (by decide +kernel), List.mem_of_getElem? (i := 128) (by decide +kernel), List.mem_of_getElem? (i := 129) (by decide +kernel)⟩
theorem lw_p1 : lw_okq (⟨"java/lang/Throwable", "fillInStackTrace", "(I)Ljava/lang/Throwable;"⟩, 6) := ⟨⟨by decide +kernel, by decide +kernel⟩, List.mem_of_getElem? (i := 227) (by decide +kernel), List.mem_of_getElem? (i := 225) (by decide +kernel), List.mem_of_getElem? (i := 226) (by decide +kernel)⟩
theorem lw_p2 : lw_okq (⟨"LightDesk", "needLamp", "(I)V"⟩, 7) := ⟨⟨by decide +kernel, by decide +kernel⟩, List.mem_of_getElem? (i := 15) (by decide +kernel), List.mem_of_getElem? (i := 294) (by decide +kernel), List.mem_of_getElem? (i := 295) (by decide +kernel)⟩
theorem lw_p3 : lw_okq (⟨"LightDesk$History", "put", "(II)V"⟩, 3) := ⟨⟨by decide +kernel, by decide +kernel⟩, List.mem_of_getElem? (i := 85) (by decide +kernel), List.mem_of_getElem? (i := 321) (by decide +kernel), List.mem_of_getElem? (i := 322) (by decide +kernel)⟩
theorem lw_p4 : lw_okq (⟨"LightDesk", "cuesOf", "(I)LLightDesk$CueList;"⟩, 7) := ⟨⟨by decide +kernel, by decide +kernel⟩, List.mem_of_getElem? (i := 15) (by decide +kernel), List.mem_of_getElem? (i := 385) (by decide +kernel), List.mem_of_getElem? (i := 386) (by decide +kernel)⟩
theorem lw_p5 : lw_okq (⟨"LightDesk", "needCue", "(II)V"⟩, 7) := ⟨⟨by decide +kernel, by decide +kernel⟩, List.mem_of_getElem? (i := 15) (by decide +kernel), List.mem_of_getElem? (i := 409) (by decide +kernel), List.mem_of_getElem? (i := 410) (by decide +kernel)⟩
theorem lw_p6 : lw_okq (⟨"LightDesk", "takeBackLast", "()V"⟩, 7) := ⟨⟨by decide +kernel, by decide +kernel⟩, List.mem_of_getElem? (i := 15) (by decide +kernel), List.mem_of_getElem? (i := 435) (by decide +kernel), List.mem_of_getElem? (i := 436) (by decide +kernel)⟩
theorem lw_p7 : lw_okq (⟨"LightDesk$History", "lastRow", "()I"⟩, 3) := ⟨⟨by decide +kernel, by decide +kernel⟩, List.mem_of_getElem? (i := 85) (by decide +kernel), List.mem_of_getElem? (i := 443) (by decide +kernel), List.mem_of_getElem? (i := 444) (by decide +kernel)⟩
theorem lw_p8 : lw_okq (⟨"LightDesk", "beginFrom", "(II)I"⟩, 7) := ⟨⟨by decide +kernel, by decide +kernel⟩, List.mem_of_getElem? (i := 15) (by decide +kernel), List.mem_of_getElem? (i := 468) (by decide +kernel), List.mem_of_getElem? (i := 469) (by decide +kernel)⟩
theorem lw_p9 : lw_okq (⟨"LightDesk", "noteLatest", "(II)V"⟩, 7) := ⟨⟨by decide +kernel, by decide +kernel⟩, List.mem_of_getElem? (i := 15) (by decide +kernel), List.mem_of_getElem? (i := 477) (by decide +kernel), List.mem_of_getElem? (i := 478) (by decide +kernel)⟩
theorem lw_p10 : lw_okq (⟨"LightDesk", "passTenth", "(I)I"⟩, 7) := ⟨⟨by decide +kernel, by decide +kernel⟩, List.mem_of_getElem? (i := 15) (by decide +kernel), List.mem_of_getElem? (i := 497) (by decide +kernel), List.mem_of_getElem? (i := 498) (by decide +kernel)⟩
theorem lw_p11 : lw_okq (⟨"LightDesk", "countTouched", "(LLightDesk$CueList;IIII)I"⟩, 7) := ⟨⟨by decide +kernel, by decide +kernel⟩, List.mem_of_getElem? (i := 15) (by decide +kernel), List.mem_of_getElem? (i := 557) (by decide +kernel), List.mem_of_getElem? (i := 558) (by decide +kernel)⟩
theorem lw_p12 : lw_okq (⟨"LightDeskModel", "isLamp", "(I)Z"⟩, 23) := ⟨⟨by decide +kernel, by decide +kernel⟩, List.mem_of_getElem? (i := 567) (by decide +kernel), List.mem_of_getElem? (i := 665) (by decide +kernel), List.mem_of_getElem? (i := 666) (by decide +kernel)⟩
theorem lw_p13 : lw_okq (⟨"LightDeskModel", "keeps", "(IIII)V"⟩, 23) := ⟨⟨by decide +kernel, by decide +kernel⟩, List.mem_of_getElem? (i := 567) (by decide +kernel), List.mem_of_getElem? (i := 669) (by decide +kernel), List.mem_of_getElem? (i := 670) (by decide +kernel)⟩
theorem lw_p14 : lw_okq (⟨"LightDeskModel", "fails", "(I)I"⟩, 23) := ⟨⟨by decide +kernel, by decide +kernel⟩, List.mem_of_getElem? (i := 567) (by decide +kernel), List.mem_of_getElem? (i := 698) (by decide +kernel), List.mem_of_getElem? (i := 699) (by decide +kernel)⟩
theorem lw_p15 : lw_okq (⟨"LightDeskModel", "begins", "(II)V"⟩, 23) := ⟨⟨by decide +kernel, by decide +kernel⟩, List.mem_of_getElem? (i := 567) (by decide +kernel), List.mem_of_getElem? (i := 710) (by decide +kernel), List.mem_of_getElem? (i := 711) (by decide +kernel)⟩
def lw_privs_1 : List (MethodName × Nat) := [(⟨"LightDesk", "mergedNow", "(I)I"⟩, 7), (⟨"java/lang/Throwable", "fillInStackTrace", "(I)Ljava/lang/Throwable;"⟩, 6), (⟨"LightDesk", "needLamp", "(I)V"⟩, 7), (⟨"LightDesk$History", "put", "(II)V"⟩, 3), (⟨"LightDesk", "cuesOf", "(I)LLightDesk$CueList;"⟩, 7), (⟨"LightDesk", "needCue", "(II)V"⟩, 7), (⟨"LightDesk", "takeBackLast", "()V"⟩, 7), (⟨"LightDesk$History", "lastRow", "()I"⟩, 3), (⟨"LightDesk", "beginFrom", "(II)I"⟩, 7), (⟨"LightDesk", "noteLatest", "(II)V"⟩, 7), (⟨"LightDesk", "passTenth", "(I)I"⟩, 7), (⟨"LightDesk", "countTouched", "(LLightDesk$CueList;IIII)I"⟩, 7), (⟨"LightDeskModel", "isLamp", "(I)Z"⟩, 23), (⟨"LightDeskModel", "keeps", "(IIII)V"⟩, 23), (⟨"LightDeskModel", "fails", "(I)I"⟩, 23), (⟨"LightDeskModel", "begins", "(II)V"⟩, 23)]
theorem lw_r1 : ∀ q ∈ lw_privs_1, lw_okq q := List.forall_mem_cons.mpr ⟨lw_p0, List.forall_mem_cons.mpr ⟨lw_p1, List.forall_mem_cons.mpr ⟨lw_p2, List.forall_mem_cons.mpr ⟨lw_p3, List.forall_mem_cons.mpr ⟨lw_p4, List.forall_mem_cons.mpr ⟨lw_p5, List.forall_mem_cons.mpr ⟨lw_p6, List.forall_mem_cons.mpr ⟨lw_p7, List.forall_mem_cons.mpr ⟨lw_p8, List.forall_mem_cons.mpr ⟨lw_p9, List.forall_mem_cons.mpr ⟨lw_p10, List.forall_mem_cons.mpr ⟨lw_p11, List.forall_mem_cons.mpr ⟨lw_p12, List.forall_mem_cons.mpr ⟨lw_p13, List.forall_mem_cons.mpr ⟨lw_p14, List.forall_mem_cons.mpr ⟨lw_p15, fun _ h => absurd h List.not_mem_nil⟩⟩⟩⟩⟩⟩⟩⟩⟩⟩⟩⟩⟩⟩⟩⟩
theorem lw_p16 : lw_okq (⟨"LightDeskModel", "levelOf", "(II)I"⟩, 23) := ⟨⟨by decide +kernel, by decide +kernel⟩, List.mem_of_getElem? (i := 567) (by decide +kernel), List.mem_of_getElem? (i := 714) (by decide +kernel), List.mem_of_getElem? (i := 715) (by decide +kernel)⟩
theorem lw_p17 : lw_okq (⟨"LightDeskModel", "looks", "(I)I"⟩, 23) := ⟨⟨by decide +kernel, by decide +kernel⟩, List.mem_of_getElem? (i := 567) (by decide +kernel), List.mem_of_getElem? (i := 718) (by decide +kernel), List.mem_of_getElem? (i := 719) (by decide +kernel)⟩
theorem lw_p18 : lw_okq (⟨"LightDeskModel", "mergedOf", "(I)I"⟩, 23) := ⟨⟨by decide +kernel, by decide +kernel⟩, List.mem_of_getElem? (i := 567) (by decide +kernel), List.mem_of_getElem? (i := 738) (by decide +kernel), List.mem_of_getElem? (i := 739) (by decide +kernel)⟩
theorem lw_p19 : lw_okq (⟨"LightDeskModel", "lightOf", "(III)I"⟩, 23) := ⟨⟨by decide +kernel, by decide +kernel⟩, List.mem_of_getElem? (i := 567) (by decide +kernel), List.mem_of_getElem? (i := 746) (by decide +kernel), List.mem_of_getElem? (i := 747) (by decide +kernel)⟩
theorem lw_p20 : lw_okq (⟨"LightDeskModel", "shown", "(III)I"⟩, 23) := ⟨⟨by decide +kernel, by decide +kernel⟩, List.mem_of_getElem? (i := 567) (by decide +kernel), List.mem_of_getElem? (i := 761) (by decide +kernel), List.mem_of_getElem? (i := 762) (by decide +kernel)⟩
def lw_privs_2 : List (MethodName × Nat) := [(⟨"LightDeskModel", "levelOf", "(II)I"⟩, 23), (⟨"LightDeskModel", "looks", "(I)I"⟩, 23), (⟨"LightDeskModel", "mergedOf", "(I)I"⟩, 23), (⟨"LightDeskModel", "lightOf", "(III)I"⟩, 23), (⟨"LightDeskModel", "shown", "(III)I"⟩, 23)]
theorem lw_r2 : ∀ q ∈ lw_privs_2, lw_okq q := List.forall_mem_cons.mpr ⟨lw_p16, List.forall_mem_cons.mpr ⟨lw_p17, List.forall_mem_cons.mpr ⟨lw_p18, List.forall_mem_cons.mpr ⟨lw_p19, List.forall_mem_cons.mpr ⟨lw_p20, fun _ h => absurd h List.not_mem_nil⟩⟩⟩⟩⟩
def lw_privs : List (MethodName × Nat) := lw_privs_1 ++ (lw_privs_2)
def lw_tbl : List Cond := k2_sels lw_privs ++ tables_1
theorem lw_privs_ok : ∀ q ∈ lw_privs, lw_okq q := by
  show ∀ q ∈ lw_privs_1 ++ (lw_privs_2), lw_okq q
  exact List.forall_mem_append.mpr ⟨lw_r1, lw_r2⟩
end
section
/-! ===== BEGIN words of one list among another's, by their places ===== -/
theorem goodIn_r {big : List Cond} (ws : List Cond) (ps : List Nat) (hp : ws = ps.filterMap (fun i => big[i]?)) (h : ws.all goodWord = true) : GoodIn big ws := by
  intro w hw
  have h1 := List.all_eq_true.mp h w hw
  rw [hp] at hw
  obtain ⟨i, -, hi⟩ := List.mem_filterMap.mp hw
  have hm : w ∈ big := by first | exact List.mem_of_getElem? hi | exact List.getElem?_mem hi
  exact ⟨hm, good_of_word h1⟩
theorem goodIn_app {big a b : List Cond} (ha : GoodIn big a) (hb : GoodIn big b) : GoodIn big (a ++ b) := fun w h => (List.mem_append.mp h).elim (ha w) (hb w)
theorem goodIn_ca {big a b : List Cond} {c : Cond} (ha : GoodIn big (c :: a)) (hb : GoodIn big b) : GoodIn big (c :: (a ++ b)) := fun w h => (List.mem_cons.mp h).elim (fun e => ha w (List.mem_cons.mpr (Or.inl e))) (fun h => (List.mem_append.mp h).elim (fun h => ha w (List.mem_cons.mpr (Or.inr h))) (hb w))
theorem goodIn_sub {big ws : List Cond} (hm : ∀ w ∈ ws, w ∈ big) (h : ws.all goodWord = true) : GoodIn big ws := fun w hw => ⟨hm w hw, good_of_word (List.all_eq_true.mp h w hw)⟩
/-! ===== END ===== -/

def va_AOA (t : FieldType) (U : State) : Prop := (Cond.arrayOver (.array t)).before #[] U = true
theorem va_AOA.use {t : FieldType} {A : Array Value} {U : State} (h : va_AOA t U) : (Cond.arrayOver (.array t)).before A U = true := h
/-! ===== BEGIN new T[n][m]: the outer array a place, the inner ones among the pooled ===== -/
/-- f, but v at every address of l -/
def vr_up {α : Type} (f : Nat → α) (l : List Nat) (v : α) : Nat → α := fun a => if a ∈ l then v else f a
theorem vr_up_in {α : Type} {f : Nat → α} {l : List Nat} {v : α} {a : Nat} (h : a ∈ l) : vr_up f l v a = v := if_pos h
theorem vr_up_ne {α : Type} {f : Nat → α} {l : List Nat} {v : α} {a : Nat} (h : a ∉ l) : vr_up f l v a = f a := if_neg h
theorem vr_rows {L l : List Nat} {f : Nat → va_E} {e : va_E} (h : ∀ a, a ∈ l → a ∉ L) : va_pl L f ++ l.map (fun a => (a, e)) = va_pl (L ++ l) (vr_up f l e) := by
  unfold va_pl
  rw [List.map_append]
  congr 1
  · apply List.map_congr_left
    intro a ha
    rw [vr_up_ne (fun q => h a q ha)]
  · apply List.map_congr_left
    intro a ha
    rw [vr_up_in ha]
theorem vr_lay {X rows : va_W} {x : Nat × va_E} {pl : va_W} {D : va_G} {cl : List vw_C} {H : Heap} (hP : va_P D cl (((X ++ pl) ++ [x]) ++ rows) H) : va_P D cl ((X ++ [x]) ++ (pl ++ rows)) H := by
  rw [List.append_assoc (X ++ pl)] at hP
  have h := va_P.swap hP
  rw [← List.append_assoc X] at h
  have h2 := va_P.swap h
  rw [List.append_assoc (X ++ [x])] at h2
  exact h2
theorem vr_layD {X rows : va_W} {x : Nat × va_E} {pl : va_W} {A : Nat → Prop} (hD : va_D A (((X ++ pl) ++ [x]) ++ rows)) : va_D A ((X ++ [x]) ++ (pl ++ rows)) := by
  rw [List.append_assoc (X ++ pl)] at hD
  have h := va_D.swap hD
  rw [← List.append_assoc X] at h
  have h2 := va_D.swap h
  rw [List.append_assoc (X ++ [x])] at h2
  exact h2
theorem vr_outer (c : ClassId) (N h0 : Nat) : ∀ i : Nat, Jvm.Free.Multi.outerC c N h0 i = arrV c N (fun j => va_rf (if j < i then some (h0 + 1 + j) else none))
  | 0 => by
    show ({ cls := c, slots := Array.replicate N .null, vm := .none } : Cell) = _
    rw [arrV_new]
    refine congrArg (arrV c N) (funext fun j => ?_)
    simp [va_rf]
  | i + 1 => by
    show (Jvm.Free.Multi.outerC c N h0 i).setSlot i (.ref (h0 + 1 + i)) = _
    rw [vr_outer c N h0 i, arrV_store]
    refine congrArg (arrV c N) (funext fun j => ?_)
    by_cases e : j = i
    · subst e
      simp [updV, va_rf]
    · by_cases h : j < i
      · simp [updV, e, h, Nat.lt_succ_of_lt h]
      · simp [updV, e, h, show ¬ j < i + 1 by omega]
section VGM
variable {p : Program} {l : Launch} {e : Env} {R : Room} {s : State} {m : MethodId} {args : Array Value} {below : List Frame} {meth : Method} {c : Code} {H : Heap} {locs : List Loc} {cells slots : Nat} {Q : State → Prop}
variable {cc : ByteArray} {pc : Nat} {ls : Array Slot} {rest : List Value} {D : va_G} {cl : List vw_C} {A : Nat → Prop} {a : Nat} {tys : List (ClassId × FieldType)} {ws : va_W} {H0 : Heap}
theorem va_mna {X : va_W} {L : List Nat} {f : Nat → va_E} {cc : ByteArray} (hexec : p.tables.exec = Jvm.exec) (hb : c.code = cc) {own : String} {index : Nat} {ty : FieldType} {cy : ClassId} (hown : s.vm.findClass own = some m.cls) (hclink : (Cond.classLink own index ("[" ++ (FieldType.array ty).toString)).before args s = true) (hover : va_AOA ty s) (harr : (Cond.arrayClass ty).before args s = true) (hcy : s.vm.findClass (FieldType.array ty).toString = some cy)
    (hK : va_K D cl tys s) (hP : va_P D cl (X ++ va_pl L f) H) (hD : va_D A (X ++ va_pl L f)) (hS : va_S A H0 H locs) (hA : ∀ q, H0.size ≤ q → A q) {n k : Int32} {N' K' : Nat} {z : vp_A} (hn : ¬ n < 0) (hk : ¬ k < 0) (hN : n.toNatClampNeg = N') (hM : k.toNatClampNeg = K')
    (hb1 : N' * 4 ≤ 536870912) (hb2 : K' * componentBytes ty ≤ 536870912) (hb3 : K' ≤ 536870912) (hdf : fits ty (defaultValue ty) = true) (hdd : (defaultValue ty).isDefault = true) (hcells : cells + (1 + N') ≤ R.cells) (hslots : slots + (N' + N' * K') ≤ R.slots) (hz : ∀ c : ClassId, Jvm.Free.Multi.innerC c K' (defaultValue ty) = vp_cell c z) (hdg : decode cc pc = .ok (.multianewarray index 2, 4))
    (kk : ∀ (q : Nat) (r : Nat → Nat) (cA : ClassId) (H1 : Heap), (∀ i j : Nat, i < N' → j < N' → r i = r j → i = j) → (∀ i : Nat, i < N' → r i ∉ L) → va_K D cl (tys ++ [(cA, .array ty)]) s →
      va_P D cl ((X ++ [(q, .inl (cA, N', .inr (.inr (.inr (.inr (fun i => if i < N' then some (r i) else none))))))]) ++ va_pl (L ++ (List.range N').map r) (vr_up f ((List.range N').map r) (.inl (cy, z)))) H1 → va_D A ((X ++ [(q, .inl (cA, N', .inr (.inr (.inr (.inr (fun i => if i < N' then some (r i) else none))))))]) ++ va_pl (L ++ (List.range N').map r) (vr_up f ((List.range N').map r) (.inl (cy, z)))) → va_S A H0 H1 locs →
      W p l e R s m args below meth c H1 locs (cells + 1 + N') (slots + N' + N' * K') Q (F0 m (pc + 4) ls (.ref q :: rest))) : W p l e R s m args below meth c H locs cells slots Q (F0 m pc ls (.int k :: .int n :: rest)) := by
  subst hN
  subst hM
  intro T hT Xs
  obtain ⟨vm₁, cA, comp, -, fA, fC, hO, -, X', step⟩ := Xs.multianewarray2F hexec hown hclink (va_AOA.use hover) harr (g := F0 m pc ls (.int k :: .int n :: rest)) rfl (by rw [hb]; exact hdg) rfl hn hk hb1 hb2 hb3 hdf hdd hcells hslots
  have ec : some cy = some comp := hcy.symm.trans fC
  cases ec
  generalize hF : Jvm.Free.Multi.fill (T.setVm vm₁) cA cy n.toNatClampNeg k.toNatClampNeg (defaultValue ty) n.toNatClampNeg = F at X' step
  have hTh : (T.setVm vm₁).heap = H := hT
  obtain ⟨f1, f2, -, -⟩ := Jvm.Free.Multi.fill_facts (T.setVm vm₁) cA cy n.toNatClampNeg k.toNatClampNeg (defaultValue ty) n.toNatClampNeg
  rw [hF, hTh] at f1 f2
  have hold : ∀ x : Nat, x < H.size → F.heap[x]? = H[x]? := fun x hx => by
    have := Jvm.Free.Multi.fill_old (T.setVm vm₁) cA cy n.toNatClampNeg k.toNatClampNeg (defaultValue ty) (a := x) (by rw [hTh]; exact hx) n.toNatClampNeg
    rw [hF, hTh] at this
    exact this
  have hrow : ∀ j : Nat, j < n.toNatClampNeg → F.heap[H.size + 1 + j]? = some (vp_cell cy z) := fun j hj => by
    have := Jvm.Free.Multi.fill_inner (T.setVm vm₁) cA cy n.toNatClampNeg k.toNatClampNeg (defaultValue ty) n.toNatClampNeg j hj
    rw [hF, hTh, hz] at this
    exact this
  have hout : Jvm.Free.Multi.outerC cA n.toNatClampNeg H.size n.toNatClampNeg = vp_cell cA (n.toNatClampNeg, .inr (.inr (.inr (.inr (fun i => if i < n.toNatClampNeg then some (H.size + 1 + i) else none))))) := by
    rw [vp_cell_q]
    exact vr_outer cA n.toNatClampNeg H.size n.toNatClampNeg
  rw [hout] at f2
  have hlt : ∀ a, a ∈ L → a < H.size := fun a ha => by
    obtain ⟨k9, hk9⟩ := va_pl_get (X := X) (f := f) ha
    exact (hP k9 _ hk9).lt
  have hnl : ∀ i : Nat, i < n.toNatClampNeg → H.size + 1 + i ∉ L := fun i _ h => by
    have := hlt _ h
    omega
  have hnm : ∀ a, a ∈ (List.range n.toNatClampNeg).map (fun i => H.size + 1 + i) → a ∉ L := fun a ha h => by
    obtain ⟨i, -, rfl⟩ := List.mem_map.mp ha
    have := hlt _ h
    omega
  have hP0 : va_P D cl (X ++ va_pl L f) F.heap := hP.kept (fun k9 x hx => hold x.1 ((hP k9 x hx).lt))
  have hP1 : va_P D cl ((X ++ va_pl L f) ++ [(H.size, .inl (cA, n.toNatClampNeg, .inr (.inr (.inr (.inr (fun i => if i < n.toNatClampNeg then some (H.size + 1 + i) else none))))))]) F.heap := hP0.app (fun k9 x hx => by
    have h0 : k9 < 1 := (List.getElem?_eq_some_iff.mp hx).1
    rw [show k9 = 0 by omega] at hx
    cases hx
    exact f2)
  have hP2 : va_P D cl (((X ++ va_pl L f) ++ [(H.size, .inl (cA, n.toNatClampNeg, .inr (.inr (.inr (.inr (fun i => if i < n.toNatClampNeg then some (H.size + 1 + i) else none))))))]) ++ ((List.range n.toNatClampNeg).map (fun i => H.size + 1 + i)).map (fun a => (a, .inl (cy, z)))) F.heap := hP1.app (fun k9 x hx => by
    obtain ⟨a, ha, rfl⟩ := List.mem_map.mp (List.mem_of_getElem? hx)
    obtain ⟨i, hi, rfl⟩ := List.mem_map.mp ha
    exact hrow i (List.mem_range.mp hi))
  have hD2 : va_D A (((X ++ va_pl L f) ++ [(H.size, .inl (cA, n.toNatClampNeg, .inr (.inr (.inr (.inr (fun i => if i < n.toNatClampNeg then some (H.size + 1 + i) else none))))))]) ++ ((List.range n.toNatClampNeg).map (fun i => H.size + 1 + i)).map (fun a => (a, .inl (cy, z)))) := by
    have hD1 := hD.push (e := .inl (cA, n.toNatClampNeg, .inr (.inr (.inr (.inr (fun i => if i < n.toNatClampNeg then some (H.size + 1 + i) else none)))))) hP rfl (hA _ hS.1)
    generalize hW1 : (X ++ va_pl L f) ++ [(H.size, .inl (cA, n.toNatClampNeg, .inr (.inr (.inr (.inr (fun i => if i < n.toNatClampNeg then some (H.size + 1 + i) else none))))))] = W1 at hD1 hP1 ⊢
    have hle : ∀ (k9 : Nat) (x : Nat × va_E), W1[k9]? = some x → x.1 ≤ H.size := fun k9 x hx => by
      rw [← hW1] at hx
      by_cases hl : k9 < (X ++ va_pl L f).length
      · rw [List.getElem?_append_left hl] at hx
        exact Nat.le_of_lt ((hP k9 x hx).lt)
      · rw [List.getElem?_append_right (by omega)] at hx
        have h0 : k9 - (X ++ va_pl L f).length < 1 := (List.getElem?_eq_some_iff.mp hx).1
        rw [show k9 - (X ++ va_pl L f).length = 0 by omega] at hx
        cases hx
        exact Nat.le_refl _
    have hr : ∀ (k9 : Nat) (x : Nat × va_E), (((List.range n.toNatClampNeg).map (fun i => H.size + 1 + i)).map (fun a => ((a, .inl (cy, z)) : Nat × va_E)))[k9]? = some x → x.1 = H.size + 1 + k9 := fun k9 x hx => by
      rw [List.getElem?_map, List.getElem?_map] at hx
      by_cases h9 : k9 < n.toNatClampNeg
      · rw [List.getElem?_range h9] at hx
        cases hx
        rfl
      · have hn0 : (List.range n.toNatClampNeg)[k9]? = none := List.getElem?_eq_none (by rw [List.length_range]; omega)
        rw [hn0] at hx
        cases hx
    refine ⟨fun i j x y hi hj hxy => ?_, fun k9 x hx => ?_⟩
    · by_cases h1 : i < W1.length <;> by_cases h2 : j < W1.length
      · rw [List.getElem?_append_left h1] at hi
        rw [List.getElem?_append_left h2] at hj
        exact hD1.1 i j x y hi hj hxy
      · rw [List.getElem?_append_left h1] at hi
        rw [List.getElem?_append_right (by omega)] at hj
        have := hle _ _ hi
        have := hr _ _ hj
        omega
      · rw [List.getElem?_append_right (by omega)] at hi
        rw [List.getElem?_append_left h2] at hj
        have := hle _ _ hj
        have := hr _ _ hi
        omega
      · rw [List.getElem?_append_right (by omega)] at hi hj
        have := hr _ _ hi
        have := hr _ _ hj
        omega
    · by_cases h1 : k9 < W1.length
      · rw [List.getElem?_append_left h1] at hx
        exact hD1.2 k9 x hx
      · rw [List.getElem?_append_right (by omega)] at hx
        have := hr _ _ hx
        exact hA _ (by have := hS.1; omega)
  have hAr : ArrOfT s cA (.array ty) := fun N9 z9 => by
    obtain ⟨-, k9, hk9, cm9, hkk9⟩ := (hO 0 0 0).1
    exact ⟨(fun q hq => by cases hq), k9, hk9, cm9, hkk9⟩
  have hK2 : va_K D cl (tys ++ [(cA, .array ty)]) s := ⟨hK.1, fun k9 x hx => by
    by_cases hl : k9 < tys.length
    · rw [List.getElem?_append_left hl] at hx
      exact hK.2 k9 x hx
    · rw [List.getElem?_append_right (by omega)] at hx
      have h0 : k9 - tys.length < 1 := (List.getElem?_eq_some_iff.mp hx).1
      rw [show k9 - tys.length = 0 by omega] at hx
      cases hx
      exact ⟨hAr, fA⟩⟩
  obtain ⟨t, a1, b1⟩ := kk H.size (fun i => H.size + 1 + i) cA F.heap (fun i j _ _ h => by have h9 : H.size + 1 + i = H.size + 1 + j := h; omega) hnl hK2 (by rw [← vr_rows hnm]; exact vr_lay hP2) (by rw [← vr_rows hnm]; exact vr_layD hD2) ⟨by rw [f1]; have := hS.1; omega, fun x h1 h2 => (hold x (Nat.lt_of_lt_of_le h1 hS.1)).trans (hS.2.1 x h1 h2), hS.2.2⟩ F rfl X'
  refine ⟨t, step t ?_, b1⟩
  have e : T.heap.size = H.size := by rw [hT]
  rw [e]
  exact a1
end VGM
/-! ===== END ===== -/

/-! ===== BEGIN exceptions that leave a method, and their catching by the caller (launches without stack traces) ===== -/
section VXA
/-! The laws vx_back, vx_callV, vx_callS, vx_callSW, vx_throw0, vx_throwS follow proofs of the library, with one case more: JvmDerived/Free/Laws.lean (Back.of_free), Shelf42/LK1.lean (callV, callS), Shelf/KitTraced.lean (throwNew0V, throwNewS). -/
/-- where a method has thrown q: the class by its name, the cell, what was written, the world -/
def vx_T (XC : String → State → State → Prop) (st : State) (q : Addr) (t : State) (mc ms : Nat) (free : Addr → Prop) : Prop :=
  ∃ (E : String) (ce : Cell) (L : List Loc), XC E st t ∧ t.heap[q]? = some ce ∧ ce.vm = .none ∧ st.vm.findClass E = some ce.cls ∧ st.WarmedH t.vm ∧ st.sameButNew ({ t with vm := st.vm } : State) L mc ms ∧ ∀ z ∈ L, free z.base
def vx_Q (Qc : Array Value → State → Outcome → State → Prop) (XC : String → State → State → Prop) (mc ms : Nat) (free : Addr → Prop) : Array Value → State → Outcome → State → Prop := fun a st o t =>
  (Qc a st o t ∧ ∃ L, FrameEnd st o t L mc ms ∧ ∀ q ∈ L, free q.base) ∨ ∃ q, o = .threw q ∧ vx_T XC st q t mc ms free
/-- a callee that returns or throws -/
def vx_Met (l : Launch) (y : MethodName) (ws : List Cond) (rm : Room) (Pc : Array Value → State → Prop) (Qc : Array Value → State → Outcome → State → Prop) (XC : String → State → State → Prop) (mc ms : Nat) (free : Addr → Prop) : Prop :=
  MetFree l y (headSpec ws rm) Pc (fun _ _ _ _ _ => True) (vx_Q Qc XC mc ms free)
def vx_Post (XC : String → State → State → Prop) (mc ms : Nat) (free : Addr → Prop) : Pt → Array Value → Addr → Pt → Prop := fun A a q B =>
  ∃ (g : JFrame) (mk : MethodId) (t : State) (L : List Loc) (E : String) (ce : Cell), B.U.heap = t.heap ∧ B.U.vm = t.vm ∧ XC E (A.U.calling g mk a) t ∧ t.heap[q]? = some ce ∧ ce.vm = .none ∧ A.U.vm.findClass E = some ce.cls ∧ B.locs = A.locs ++ L ∧ (∀ z ∈ L, free z.base) ∧ B.cells = A.cells + mc ∧ B.slots = A.slots + ms
def vx_Back (l : Launch) (R : Room) (p : Program) (e : Env) (below : List Frame) (s : State) (sargs : Array Value) (y : MethodName) (len W9 : Nat)
    (Pre : Pt → Array Value → Prop) (Post : Pt → Array Value → Option Value → Pt → Prop) (PostX : Pt → Array Value → Addr → Pt → Prop) : Prop :=
  ∀ (m : MethodId) (meth : Method) (c : Code) (A : Pt) (g : JFrame) (ig : Instr) (mk : MethodId) (a : Array Value),
    Stand p l e R s m sargs below meth c A.U A.locs A.cells A.slots → g.method = m → g.locals.size = c.maxLocals → decode c.code g.pc = .ok (ig, len) →
    2 * g.monitorRoom + (g.stack.map fun v => v.category).sum ≤ W9 → A.U.methodNamed? y = some mk → Pre A a →
    (∃ (v : Option Value) (B : Pt), Stand p l e R s m sargs below meth c B.U B.locs B.cells B.slots ∧ Post A a v B ∧
      Steps p.tables e below (doInvoke e (A.U.setTop g) [] mk a).1 (B.U.setTop { g with pc := g.pc + len, stack := v.toList ++ g.stack })) ∨
    (∃ (q : Addr) (B : Pt), Stand p l e R s m sargs below meth c B.U B.locs B.cells B.slots ∧ PostX A a q B ∧
      Steps p.tables e below (doInvoke e (A.U.setTop g) [] mk a).1 ((B.U.setTop g).pushFrame (.throwing q)))
section Payer
variable {l : Launch} {R : Room} {p : Program} {e : Env} {below : List Frame} {s : State} {sargs : Array Value} {y : MethodName} {len W9 : Nat}
theorem vx_back {ws : List Cond} {rm : Room} {Pc : Array Value → State → Prop} {Qc : Array Value → State → Outcome → State → Prop} {XC : String → State → State → Prop} {mc ms : Nat} {free : Addr → Prop} {bytes : ByteArray} {maxL : Nat} {ret : Option FieldType}
    (hM : vx_Met l y ws rm Pc Qc XC mc ms free) (hblind : FrameBlind Pc) (hrc : rm.cells = mc) (hrs : rm.slots = ms)
    (hframes : rm.frames + 1 ≤ R.frames) (hlocals : W9 + (maxL + 11) + rm.locals ≤ R.locals)
    (hws : ∀ w ∈ ws, ∀ a' U, s.WarmedH U.vm → w.before a' U = true) (hcode : Cond.code y bytes maxL ret ∈ ws) (hinit : ∀ a' U, s.WarmedH U.vm → (Cond.initialized y.cls).before a' U = true) :
    vx_Back l R p e below s sargs y len W9 (PreOf R mc ms Pc) (PostOf Qc mc ms free) (vx_Post XC mc ms free) := by
  intro m meth c A g ig mk a X hg hsize hdg hW hn hp
  have h1 : (headSpec ws rm).pre.before a A.U = true := atoms_intro fun w hw => hws w hw _ _ X.warmed
  have h2 : (Cond.code y bytes maxL ret).before a A.U = true := hws _ hcode _ _ X.warmed
  have h3 : (Cond.initialized y.cls).before a A.U = true := hinit _ _ X.warmed
  have h4 : A.cells + (headSpec ws rm).room.cells ≤ R.cells := by rw [show (headSpec ws rm).room.cells = mc from hrc]; exact hp.1
  have h5 : A.slots + (headSpec ws rm).room.slots ≤ R.slots := by rw [show (headSpec ws rm).room.slots = ms from hrs]; exact hp.2.1
  have hPc : Pc a (A.U.calling g mk a) := hblind _ _ _ _ hp.2.2
  obtain ⟨U, Ls, c0, s0⟩ := A
  dsimp only [Pt.U, Pt.locs, Pt.cells, Pt.slots] at h1 h2 h3 h4 h5 X hn hPc ⊢
  obtain ⟨methY, cY, hmY, hcY, -, hlY, -, -, -, -⟩ := Cond.code_spec hn h2
  obtain ⟨kY, hkY, -⟩ := className_of_methodNamed hn
  have hinitY : kY.init = .initialized := Cond.initialized_spec (findClass_of_methodNamed hn) hkY h3
  have h : At U g.method c below := by rw [hg]; exact X.here
  have hlocals9 : W9 + (maxL + 11) + (headSpec ws rm).room.locals ≤ R.locals := hlocals
  have happ : (headSpec ws rm).appliesLoose y e.platform (U.calling g mk a) = true :=
    Spec.appliesLoose_calling (g := g) h hdg hn hkY hinitY
      (X.room_calling (g := g) (R' := (headSpec ws rm).room) hsize hmY hcY hframes (by rw [hlY]; omega) h4 h5) h1
  obtain ⟨mid, hmid⟩ := h.above
  have hfr : (U.setTop g).frames = (.java g :: mid) ++ below := by rw [State.frames_setTop' g h.top, hmid]; rfl
  obtain ⟨o, s₂, hsteps, -, hend, hq⟩ := Steps.callFree hM p X.admits X.cas X.clock (acts := []) hfr happ hPc trivial
  have hq' : vx_Q Qc XC mc ms free a (U.calling g mk a) o s₂ := hq
  rw [State.frames_setTop' g h.top] at hend
  obtain ⟨g₀, hg0⟩ := Option.isSome_iff_exists.mp h.top
  obtain ⟨r, hr⟩ := State.topJava?_eq_some.mp hg0
  have hr' : (({ U with heap := s₂.heap, slotsUsed := s₂.slotsUsed } : State).setVm s₂.vm).frames = .java g₀ :: r := hr
  rcases hq' with ⟨hqc, L, hfe, hL⟩ | ⟨q, rfl, E, ce, L, hx, hce, hcv, hcl, hW₂, hsm, hL⟩
  · obtain ⟨⟨v, rfl⟩, hW₂, e2, q2, q3, q4, q5, q6⟩ := id hfe
    have e3 : s₂ = ({ (U.calling g mk a).setFrames s₂.frames with heap := s₂.heap, slotsUsed := s₂.slotsUsed } : State).setVm s₂.vm := by
      have : s₂ = ({ s₂ with vm := (U.calling g mk a).vm } : State).setVm s₂.vm := rfl
      rw [e2] at this
      exact this
    obtain ⟨c₂, i₂, len₂, hc₂, hd₂, hf₂⟩ := hend
    have hW' : U.WarmedH s₂.vm := hW₂
    have hcc : c₂ = c := by
      have h1 : s₂.code? g.method = U.code? g.method := by
        rw [State.code?_eq, State.code?_eq, hW'.alike.method?]
      exact Option.some.inj (hc₂.symm.trans (h1.trans h.code))
    subst hcc
    have hlen : len₂ = len := by rw [hdg] at hd₂; cases hd₂; rfl
    subst hlen
    have hs₂ : s₂ = (({ U with heap := s₂.heap, slotsUsed := s₂.slotsUsed } : State).setVm s₂.vm).setTop { g with pc := g.pc + len₂, stack := v.toList ++ g.stack } := by
      refine e3.trans ?_
      rw [hf₂, State.calling_eq h.top, State.setFrames_setFrames, State.setTop_of_frames _ hr', hr]
      rfl
    have hsame : U.sameButNew ({ U with heap := s₂.heap, slotsUsed := s₂.slotsUsed } : State) L mc ms := by
      refine ⟨?_, q2, q3, q4, q5, q6⟩
      obtain ⟨t, ht, -⟩ := State.frames_cons hr
      show ({ U with heap := s₂.heap, slotsUsed := s₂.slotsUsed } : State) = { U.setFrames U.frames with heap := s₂.heap, slotsUsed := s₂.slotsUsed }
      rw [State.setFrames_self ht]
    subst hg
    refine Or.inl ⟨v, ⟨(({ U with heap := s₂.heap, slotsUsed := s₂.slotsUsed } : State).setVm s₂.vm), Ls ++ L, c0 + mc, s0 + ms⟩,
      ⟨X.admits, X.cas, X.clock, X.frames, X.room, X.hears, X.method, X.code, (X.here.setHeapUsed s₂.heap s₂.slotsUsed).setVm hW'.alike, X.tail, State.WarmedH.trans X.warmed hW', X.limits, X.bytes, X.same.trans (hsame.setVm s.vm)⟩,
      ⟨g, mk, s₂, L, rfl, rfl, hqc, rfl, hL, rfl, rfl⟩, ?_⟩
    show Steps p.tables e below _ ((({ U with heap := s₂.heap, slotsUsed := s₂.slotsUsed } : State).setVm s₂.vm).setTop { g with pc := g.pc + len₂, stack := v.toList ++ g.stack })
    rw [← hs₂]
    exact hsteps
  · obtain ⟨e2, q2, q3, q4, q5, q6⟩ := id hsm
    have e3 : s₂ = ({ (U.calling g mk a).setFrames s₂.frames with heap := s₂.heap, slotsUsed := s₂.slotsUsed } : State).setVm s₂.vm := by
      have : s₂ = ({ s₂ with vm := (U.calling g mk a).vm } : State).setVm s₂.vm := rfl
      rw [e2] at this
      exact this
    have hf₂ : s₂.frames = .throwing q :: .java g :: U.frames.tail := hend
    have hW' : U.WarmedH s₂.vm := hW₂
    have hs₂ : s₂ = ((({ U with heap := s₂.heap, slotsUsed := s₂.slotsUsed } : State).setVm s₂.vm).setTop g).pushFrame (.throwing q) := by
      refine e3.trans ?_
      rw [hf₂, State.calling_eq h.top, State.setFrames_setFrames, State.pushFrame, State.frames_setTop _ hr', State.setTop_of_frames _ hr', State.setFrames_setFrames, hr]
      rfl
    have hsame : U.sameButNew ({ U with heap := s₂.heap, slotsUsed := s₂.slotsUsed } : State) L mc ms := by
      refine ⟨?_, q2, q3, q4, q5, q6⟩
      obtain ⟨t, ht, -⟩ := State.frames_cons hr
      show ({ U with heap := s₂.heap, slotsUsed := s₂.slotsUsed } : State) = { U.setFrames U.frames with heap := s₂.heap, slotsUsed := s₂.slotsUsed }
      rw [State.setFrames_self ht]
    subst hg
    refine Or.inr ⟨q, ⟨(({ U with heap := s₂.heap, slotsUsed := s₂.slotsUsed } : State).setVm s₂.vm), Ls ++ L, c0 + mc, s0 + ms⟩,
      ⟨X.admits, X.cas, X.clock, X.frames, X.room, X.hears, X.method, X.code, (X.here.setHeapUsed s₂.heap s₂.slotsUsed).setVm hW'.alike, X.tail, State.WarmedH.trans X.warmed hW', X.limits, X.bytes, X.same.trans (hsame.setVm s.vm)⟩,
      ⟨g, mk, s₂, L, E, ce, rfl, rfl, hx, hce, hcv, hcl, rfl, hL, rfl, rfl⟩, ?_⟩
    show Steps p.tables e below _ (((({ U with heap := s₂.heap, slotsUsed := s₂.slotsUsed } : State).setVm s₂.vm).setTop g).pushFrame (.throwing q))
    rw [← hs₂]
    exact hsteps
end Payer
section Calls
variable {p : Program} {l : Launch} {e : Env} {R : Room} {s : State} {m : MethodId} {args : Array Value} {below : List Frame} {meth : Method} {c : Code} {T : State} {locs : List Loc} {cells slots : Nat}
theorem vx_callV (X : Stand p l e R s m args below meth c T locs cells slots) (hexec : p.tables.exec = Jvm.exec) {own C : String} {index : Nat} {y : MethodName} {bytes : ByteArray} {maxL : Nat} {ret : Option FieldType}
    (hown : s.vm.findClass own = some m.cls) (hlink : (Cond.methodLink own index y).before args s = true) (hinst : (Cond.instanceMethod y).before args s = true) (hsel : (Cond.selects C y y).before args s = true)
    (hcode : (Cond.code y bytes maxL ret).before args s = true) (hy : y.cls ≠ "java/lang/invoke/MethodHandle" ∧ y.cls ≠ "java/lang/invoke/VarHandle")
    {W9 : Nat} {Pre : Pt → Array Value → Prop} {Post : Pt → Array Value → Option Value → Pt → Prop} {PostX : Pt → Array Value → Addr → Pt → Prop} (hK : vx_Back l R p e below s args y 3 W9 Pre Post PostX)
    {b : Addr} {cellB : Cell} (hcell : T.heap[b]? = some cellB) (hobj : cellB.vm.isStatics = false) (hcls : s.vm.findClass C = some cellB.cls)
    {g : JFrame} (hg : g.method = m) (hsize : g.locals.size = c.maxLocals) {argsL rest : List Value} (hlen : ∀ sig, parseMethodDescriptor y.desc = some sig → argsL.length = sig.parameters.length)
    (hstack : g.stack = argsL.reverse ++ .ref b :: rest) (hW : 2 * g.monitorRoom + (rest.map fun v => v.category).sum ≤ W9) (hdg : decode c.code g.pc = .ok (.invokevirtual index, 3))
    (hpre : ∀ vm₁, s.WarmedH vm₁ → Pre ⟨T.setVm vm₁, locs, cells, slots⟩ (Value.ref b :: argsL).toArray) :
    (∃ (v : Option Value) (vm₁ : Vm) (B : Pt), s.WarmedH vm₁ ∧ Stand p l e R s m args below meth c B.U B.locs B.cells B.slots ∧ Post ⟨T.setVm vm₁, locs, cells, slots⟩ (Value.ref b :: argsL).toArray v B ∧
      ∀ target, Steps p.tables e below (B.U.setTop { g with pc := g.pc + 3, stack := v.toList ++ rest }) target → Steps p.tables e below (T.setTop g) target) ∨
    (∃ (q : Addr) (vm₁ : Vm) (B : Pt), s.WarmedH vm₁ ∧ Stand p l e R s m args below meth c B.U B.locs B.cells B.slots ∧ PostX ⟨T.setVm vm₁, locs, cells, slots⟩ (Value.ref b :: argsL).toArray q B ∧
      Steps p.tables e below (T.setTop g) ((B.U.setTop { g with stack := rest }).pushFrame (.throwing q))) := by
  obtain ⟨mk, methM, hnamed, hmethM, hstM, habM⟩ := Cond.instanceMethod_spec hinst
  obtain ⟨methM', cM, hmethM', -, -, -, -, -, -, hsigM⟩ := Cond.code_spec hnamed hcode
  cases hmethM.symm.trans hmethM'
  obtain ⟨c2, r2, m2, q1, q2, q3, q4, kP, hkP, hkPi⟩ := Cond.selects_spec hsel
  cases hcls.symm.trans q1
  cases (State.methodFound?_of_named hnamed hy).symm.trans q2
  cases hnamed.symm.trans q3
  have hselP : selectMethod e.platform s.vm cellB.cls mk = .method mk := by rw [Launch.admits_selectMethod X.admits]; exact q4
  obtain ⟨vm₁, X₁, hstep₁⟩ := X.invokevirtual hexec hown hlink hnamed hmethM hstM hkP hkPi hy (a := b) (cell := cellB) hcell
    (fun z h => by rw [h] at hobj; cases hobj) hselP hmethM habM hkP hkPi (g := g) hg (argsL := argsL) (rest := rest) (hlen _ hsigM) hstack hdg
  rcases hK m meth c ⟨T.setVm vm₁, locs, cells, slots⟩ { g with stack := rest } (.invokevirtual index) mk (Value.ref b :: argsL).toArray X₁ hg hsize hdg hW (X₁.named hnamed) (hpre vm₁ X₁.warmed) with ⟨v, B, X', hpost, hsteps⟩ | ⟨q, B, X', hpost, hsteps⟩
  · exact Or.inl ⟨v, vm₁, B, X₁.warmed, X', hpost, fun target h => hstep₁ _ fun acts => by rw [doInvoke_state]; exact hsteps.trans h⟩
  · exact Or.inr ⟨q, vm₁, B, X₁.warmed, X', hpost, hstep₁ _ fun acts => by rw [doInvoke_state]; exact hsteps⟩
theorem vx_callS (X : Stand p l e R s m args below meth c T locs cells slots) (hexec : p.tables.exec = Jvm.exec) {own : String} {index : Nat} {y : MethodName} {bytes : ByteArray} {maxL : Nat} {ret : Option FieldType}
    (hown : s.vm.findClass own = some m.cls) (hlink : (Cond.methodLink own index y).before args s = true) (hstat : (Cond.static y).before args s = true) (hinit : (Cond.initialized y.cls).before args s = true)
    (hcode : (Cond.code y bytes maxL ret).before args s = true) (hy : y.cls ≠ "java/lang/invoke/MethodHandle" ∧ y.cls ≠ "java/lang/invoke/VarHandle")
    {W9 : Nat} {Pre : Pt → Array Value → Prop} {Post : Pt → Array Value → Option Value → Pt → Prop} {PostX : Pt → Array Value → Addr → Pt → Prop} (hK : vx_Back l R p e below s args y 3 W9 Pre Post PostX)
    {g : JFrame} (hg : g.method = m) (hsize : g.locals.size = c.maxLocals) {argsL rest : List Value} (hlen : ∀ sig, parseMethodDescriptor y.desc = some sig → argsL.length = sig.parameters.length)
    (hstack : g.stack = argsL.reverse ++ rest) (hW : 2 * g.monitorRoom + (rest.map fun v => v.category).sum ≤ W9) (hdg : decode c.code g.pc = .ok (.invokestatic index, 3))
    (hpre : ∀ vm₁, s.WarmedH vm₁ → Pre ⟨T.setVm vm₁, locs, cells, slots⟩ argsL.toArray) :
    (∃ (v : Option Value) (vm₁ : Vm) (B : Pt), s.WarmedH vm₁ ∧ Stand p l e R s m args below meth c B.U B.locs B.cells B.slots ∧ Post ⟨T.setVm vm₁, locs, cells, slots⟩ argsL.toArray v B ∧
      ∀ target, Steps p.tables e below (B.U.setTop { g with pc := g.pc + 3, stack := v.toList ++ rest }) target → Steps p.tables e below (T.setTop g) target) ∨
    (∃ (q : Addr) (vm₁ : Vm) (B : Pt), s.WarmedH vm₁ ∧ Stand p l e R s m args below meth c B.U B.locs B.cells B.slots ∧ PostX ⟨T.setVm vm₁, locs, cells, slots⟩ argsL.toArray q B ∧
      Steps p.tables e below (T.setTop g) ((B.U.setTop { g with stack := rest }).pushFrame (.throwing q))) := by
  obtain ⟨mk, hnamed⟩ := Cond.code_named hcode
  obtain ⟨methM, cM, hmethM, -, -, -, -, -, -, hsigM⟩ := Cond.code_spec hnamed hcode
  have hstatic : methM.isStatic = true := Cond.static_spec hnamed hmethM hstat
  obtain ⟨kP, hkP, -⟩ := className_of_methodNamed hnamed
  have hinitP : kP.init = .initialized := Cond.initialized_spec (findClass_of_methodNamed hnamed) hkP hinit
  obtain ⟨vm₁, X₁, hstep₁⟩ := X.invokestatic hexec hown hlink hnamed hmethM hstatic hkP hinitP hy (g := g) hg (argsL := argsL) (rest := rest) (hlen _ hsigM) hstack hdg
  rcases hK m meth c ⟨T.setVm vm₁, locs, cells, slots⟩ { g with stack := rest } (.invokestatic index) mk argsL.toArray X₁ hg hsize hdg hW (X₁.named hnamed) (hpre vm₁ X₁.warmed) with ⟨v, B, X', hpost, hsteps⟩ | ⟨q, B, X', hpost, hsteps⟩
  · exact Or.inl ⟨v, vm₁, B, X₁.warmed, X', hpost, fun target h => hstep₁ _ fun acts => by rw [doInvoke_state]; exact hsteps.trans h⟩
  · exact Or.inr ⟨q, vm₁, B, X₁.warmed, X', hpost, hstep₁ _ fun acts => by rw [doInvoke_state]; exact hsteps⟩
end Calls
theorem vx_cls {s : State} {T : State} {vm₁ : Vm} {E : String} {k : ClassId} (hW : s.WarmedH vm₁) (h : (T.setVm vm₁).vm.findClass E = some k) : s.vm.findClass E = some k := by
  have h1 : vm₁.findClass E = some k := h
  rw [hW.alike.findClass] at h1
  exact h1
/-- the method's frame g, with q thrown over it -/
def vx_W (p : Program) (l : Launch) (e : Env) (R : Room) (s : State) (m : MethodId) (args : Array Value) (below : List Frame) (meth : Method) (c : Code) (H : Heap) (locs : List Loc) (cells slots : Nat) (Q : State → Prop) (g : JFrame) (q : Addr) : Prop :=
  ∀ T : State, T.heap = H → Stand p l e R s m args below meth c T locs cells slots → ∃ t, Steps p.tables e below ((T.setTop g).pushFrame (.throwing q)) t ∧ Q t
def vx_Run (p : Program) (l : Launch) (e : Env) (R : Room) (s : State) (m : MethodId) (args : Array Value) (below : List Frame) (meth : Method) (c : Code) (H : Heap) (locs : List Loc) (cells slots mc ms : Nat) (g : JFrame) (rest : List Value) (Qa : State → Outcome → State → Prop) (XC : String → State → State → Prop) (free : Addr → Prop) : Prop :=
  ∀ T : State, T.heap = H → Stand p l e R s m args below meth c T locs cells slots →
    (∃ (v : Option Value) (st₀ t T' : State) (L : List Loc), st₀.heap = H ∧ Stand p l e R s m args below meth c T' (locs ++ L) (cells + mc) (slots + ms) ∧ (∀ q ∈ L, free q.base) ∧ T'.heap = t.heap ∧ T'.vm = t.vm ∧ Qa st₀ (.returned v) t ∧
      Goes p e below T g T' { g with pc := g.pc + 3, stack := v.toList ++ rest }) ∨
    (∃ (q : Addr) (st₀ t T' : State) (L : List Loc) (E : String) (ce : Cell), st₀.heap = H ∧ Stand p l e R s m args below meth c T' (locs ++ L) (cells + mc) (slots + ms) ∧ (∀ z ∈ L, free z.base) ∧ T'.heap = t.heap ∧ T'.vm = t.vm ∧ XC E st₀ t ∧ t.heap[q]? = some ce ∧ ce.vm = .none ∧ s.vm.findClass E = some ce.cls ∧
      Steps p.tables e below (T.setTop g) ((T'.setTop { g with stack := rest }).pushFrame (.throwing q)))
def vx_X {S : Type} (px : S → Prop) (B : String → S → State → Prop) (A : Nat → Prop) : String → State → State → Prop := fun E st t => ∃ u : S, px u ∧ B E u t ∧ va_F A st t
section Runs
variable {p : Program} {l : Launch} {e : Env} {R : Room} {s : State} {m : MethodId} {args : Array Value} {below : List Frame} {meth : Method} {c : Code} {H : Heap} {locs : List Loc} {cells slots : Nat}
variable {y : MethodName} {bytes cc : ByteArray} {maxL nL mc ms n index : Nat} {ret : Option FieldType} {ws : List Cond} {rm : Room} {Pc : Array Value → State → Prop} {Qc : Array Value → State → Outcome → State → Prop} {XC : String → State → State → Prop} {free : Addr → Prop} {Ts : List Cond} {own C : String} {b : Addr} {As rest : List Value} {g : JFrame}
theorem vx_callBack (cb : CallB R s args own index y bytes maxL ret ws rm mc ms n) (hM : vx_Met l y ws rm Pc Qc XC mc ms free) (hbl : FrameBlind Pc) : vx_Back l R p e below s args y 3 8 (PreOf R mc ms Pc) (PostOf Qc mc ms free) (vx_Post XC mc ms free) := by
  obtain ⟨hrc, hrs, hfr, hlo, hws, hcw, -, hini, -⟩ := cb
  exact vx_back (bytes := bytes) (maxL := maxL) (ret := ret) hM hbl hrc hrs hfr hlo hws hcw (fun a' U hW => word_at hW (Or.inl (by first | rfl | simp [Cond.onTables, Cond.keeps, Cond.steady])) hini)
theorem vx_runV (S : CallFix p m c cc nL s args Ts own) (hM : vx_Met l y ws rm Pc Qc XC mc ms free) (cw : CallW R s args own C index y bytes maxL ret ws rm mc ms n) (hp : PreV s H C b Pc As)
    (hg : g.method = m) (hn : As.length = n) (hsize : g.locals.size = nL) (hstack : g.stack = As.reverse ++ .ref b :: rest) (hW : 2 * g.monitorRoom + (rest.map fun v => v.category).sum ≤ 8) (hdg : decode cc g.pc = .ok (.invokevirtual index, 3)) (hf : cells + mc ≤ R.cells ∧ slots + ms ≤ R.slots) :
    vx_Run p l e R s m args below meth c H locs cells slots mc ms g rest (Qc (Value.ref b :: As).toArray) XC free := by
  have hK : vx_Back l R p e below s args y 3 8 (PreOf R mc ms Pc) (PostOf Qc mc ms free) (vx_Post XC mc ms free) := vx_callBack cw.1 hM hp.1
  obtain ⟨⟨-, -, -, -, -, -, hcode, -, hy, hlen, hl⟩, hin, hse⟩ := cw
  obtain ⟨hx, hb, hml, ho, -⟩ := S
  obtain ⟨-, ⟨cellB, hcB, hoB, hclB⟩, hPc⟩ := hp
  intro T hT X
  rcases vx_callV X hx (C := C) (bytes := bytes) (maxL := maxL) (ret := ret) ho hl hin hse hcode hy hK (by rw [hT]; exact hcB) hoB hclB hg (hsize.trans hml.symm) (argsL := As) (rest := rest) (fun sig h => hn.trans (hlen sig h)) hstack hW (by rw [hb]; exact hdg)
    (fun vm₁ hW₁ => ⟨hf.1, hf.2, hPc (T.setVm vm₁) hT hW₁⟩) with ⟨v, vm₁, ⟨U', l2, c2, s2⟩, hW₁, X', ⟨g', mk, t, L, e1, e2, hq, h1, hL, h2, h3⟩, st⟩ | ⟨q, vm₁, ⟨U', l2, c2, s2⟩, hW₁, X', ⟨g', mk, t, L, E, ce, e1, e2, hq, hce, hcv, hcl, h1, hL, h2, h3⟩, st⟩
  · dsimp only [Pt.U, Pt.locs, Pt.cells, Pt.slots] at X' e1 e2 h1 h2 h3 st
    subst h1; subst h2; subst h3
    exact Or.inl ⟨v, (T.setVm vm₁).calling g' mk (Value.ref b :: As).toArray, t, U', L, hT, X', hL, e1, e2, hq, st⟩
  · dsimp only [Pt.U, Pt.locs, Pt.cells, Pt.slots] at X' e1 e2 h1 h2 h3 st hcl
    subst h1; subst h2; subst h3
    exact Or.inr ⟨q, (T.setVm vm₁).calling g' mk (Value.ref b :: As).toArray, t, U', L, E, ce, hT, X', hL, e1, e2, hq, hce, hcv, vx_cls hW₁ hcl, st⟩
theorem vx_runS (S : CallFix p m c cc nL s args Ts own) (hM : vx_Met l y ws rm Pc Qc XC mc ms free) (cw : CallB R s args own index y bytes maxL ret ws rm mc ms n ∧ (Cond.static y).before args s = true) (hp : PreS s H Pc As)
    (hg : g.method = m) (hn : As.length = n) (hsize : g.locals.size = nL) (hstack : g.stack = As.reverse ++ rest) (hW : 2 * g.monitorRoom + (rest.map fun v => v.category).sum ≤ 8) (hdg : decode cc g.pc = .ok (.invokestatic index, 3)) (hf : cells + mc ≤ R.cells ∧ slots + ms ≤ R.slots) :
    vx_Run p l e R s m args below meth c H locs cells slots mc ms g rest (Qc As.toArray) XC free := by
  have hK : vx_Back l R p e below s args y 3 8 (PreOf R mc ms Pc) (PostOf Qc mc ms free) (vx_Post XC mc ms free) := vx_callBack cw.1 hM hp.1
  obtain ⟨⟨-, -, -, -, -, -, hcode, hini, hy, hlen, hl⟩, hstt⟩ := cw
  obtain ⟨hx, hb, hml, ho, -⟩ := S
  intro T hT X
  rcases vx_callS X hx (bytes := bytes) (maxL := maxL) (ret := ret) ho hl hstt hini hcode hy hK hg (hsize.trans hml.symm) (argsL := As) (rest := rest) (fun sig h => hn.trans (hlen sig h)) hstack hW (by rw [hb]; exact hdg)
    (fun vm₁ hW₁ => ⟨hf.1, hf.2, hp.2 (T.setVm vm₁) hT hW₁⟩) with ⟨v, vm₁, ⟨U', l2, c2, s2⟩, hW₁, X', ⟨g', mk, t, L, e1, e2, hq, h1, hL, h2, h3⟩, st⟩ | ⟨q, vm₁, ⟨U', l2, c2, s2⟩, hW₁, X', ⟨g', mk, t, L, E, ce, e1, e2, hq, hce, hcv, hcl, h1, hL, h2, h3⟩, st⟩
  · dsimp only [Pt.U, Pt.locs, Pt.cells, Pt.slots] at X' e1 e2 h1 h2 h3 st
    subst h1; subst h2; subst h3
    exact Or.inl ⟨v, (T.setVm vm₁).calling g' mk As.toArray, t, U', L, hT, X', hL, e1, e2, hq, st⟩
  · dsimp only [Pt.U, Pt.locs, Pt.cells, Pt.slots] at X' e1 e2 h1 h2 h3 st hcl
    subst h1; subst h2; subst h3
    exact Or.inr ⟨q, (T.setVm vm₁).calling g' mk As.toArray, t, U', L, E, ce, hT, X', hL, e1, e2, hq, hce, hcv, vx_cls hW₁ hcl, st⟩
end Runs
section Rows
variable {p : Program} {l : Launch} {e : Env} {R : Room} {s : State} {m : MethodId} {args : Array Value} {below : List Frame} {meth : Method} {c : Code} {H : Heap} {locs : List Loc} {cells slots : Nat} {Q : State → Prop}
variable {mc ms : Nat} {free : Addr → Prop} {A0 A1 : Nat → Prop} {H0 : Heap} {a : Array Value} {pc : Nat} {ls : Array Slot} {st0 rest : List Value}
theorem vx_keep {st₀ t T' : State} {L : List Loc} (h0 : st₀.heap = H) (e1 : T'.heap = t.heap) (hS : va_S A0 H0 H locs) (hA : ∀ q, q < H.size → A1 q → A0 q) (hf : ∀ q, free q → A0 q) (hL : ∀ q ∈ L, free q.base) (hF : va_F A1 st₀ t) :
    H.size ≤ T'.heap.size ∧ (∀ q : Nat, q < H.size → ¬ A1 q → T'.heap[q]? = H[q]?) ∧ va_S A0 H0 T'.heap (locs ++ L) := by
  obtain ⟨hz, hk⟩ := hF
  rw [h0] at hz hk
  exact ⟨by rw [e1]; exact hz, fun q h1 h2 => by rw [e1]; exact hk q h1 h2,
    ⟨Nat.le_trans hS.1 (by rw [e1]; exact hz), fun q h1 h2 => by rw [e1, hk q (Nat.lt_of_lt_of_le h1 hS.1) (fun z => h2 (hA q (Nat.lt_of_lt_of_le h1 hS.1) z))]; exact hS.2.1 q h1 h2, fun q hq => by
      rcases List.mem_append.mp hq with h | h
      · exact hS.2.2 q h
      · exact hf _ (hL q h)⟩⟩
theorem vx_calli {S SX : Type} {post : Int32 → S → Prop} {px : SX → Prop} {B : S → State → Prop} {BX : String → SX → State → Prop} {AX : Nat → Prop} (hr : vx_Run p l e R s m args below meth c H locs cells slots mc ms (F0 m pc ls st0) rest (va_Qi post B A1 a) (vx_X px BX AX) free) (hS : va_S A0 H0 H locs) (hA : ∀ q, q < H.size → A1 q → A0 q) (hf : ∀ q, free q → A0 q) (hAX : ∀ q, q < H.size → AX q → A0 q)
    (kx : ∀ (E : String) (ce : Cell) (q9 : Addr) (u : SX) (t : State) (H1 : Heap) (locs1 : List Loc), t.heap = H1 → s.vm.Alike t.vm → px u → BX E u t → H.size ≤ H1.size → (∀ q : Nat, q < H.size → ¬ AX q → H1[q]? = H[q]?) → va_S A0 H0 H1 locs1 → H1[q9]? = some ce → ce.vm = .none → s.vm.findClass E = some ce.cls → vx_W p l e R s m args below meth c H1 locs1 (cells + mc) (slots + ms) Q (F0 m pc ls rest) q9)
    (kk : ∀ (r : Int32) (u : S) (t : State) (H1 : Heap) (locs1 : List Loc), t.heap = H1 → s.vm.Alike t.vm → post r u → B u t → H.size ≤ H1.size → (∀ q : Nat, q < H.size → ¬ A1 q → H1[q]? = H[q]?) → va_S A0 H0 H1 locs1 → W p l e R s m args below meth c H1 locs1 (cells + mc) (slots + ms) Q (F0 m (pc + 3) ls (.int r :: rest))) : W p l e R s m args below meth c H locs cells slots Q (F0 m pc ls st0) := by
  intro T hT X
  rcases hr T hT X with ⟨v, st₀, t, T', L, h0, X', hL, e1, e2, ⟨⟨r, u, hv, hp, hb⟩, hF⟩, st⟩ | ⟨q, st₀, t, T', L, E, ce, h0, X', hL, e1, e2, ⟨u, hp, hb, hF⟩, hce, hcv, hcl, st⟩
  · cases hv
    obtain ⟨k1, k2, k3⟩ := vx_keep h0 e1 hS hA hf hL hF
    obtain ⟨t2, a1, b1⟩ := kk r u t T'.heap (locs ++ L) e1.symm (by rw [← e2]; exact X'.warmed.alike) hp hb k1 k2 k3 T' rfl X'
    exact ⟨t2, st t2 a1, b1⟩
  · obtain ⟨k1, k2, k3⟩ := vx_keep h0 e1 hS hAX hf hL hF
    obtain ⟨t2, a1, b1⟩ := kx E ce q u t T'.heap (locs ++ L) e1.symm (by rw [← e2]; exact X'.warmed.alike) hp hb k1 k2 k3 (by rw [e1]; exact hce) hcv hcl T' rfl X'
    exact ⟨t2, st.trans a1, b1⟩
theorem vx_calll {S SX : Type} {post : Int64 → S → Prop} {px : SX → Prop} {B : S → State → Prop} {BX : String → SX → State → Prop} {AX : Nat → Prop} (hr : vx_Run p l e R s m args below meth c H locs cells slots mc ms (F0 m pc ls st0) rest (va_Ql post B A1 a) (vx_X px BX AX) free) (hS : va_S A0 H0 H locs) (hA : ∀ q, q < H.size → A1 q → A0 q) (hf : ∀ q, free q → A0 q) (hAX : ∀ q, q < H.size → AX q → A0 q)
    (kx : ∀ (E : String) (ce : Cell) (q9 : Addr) (u : SX) (t : State) (H1 : Heap) (locs1 : List Loc), t.heap = H1 → s.vm.Alike t.vm → px u → BX E u t → H.size ≤ H1.size → (∀ q : Nat, q < H.size → ¬ AX q → H1[q]? = H[q]?) → va_S A0 H0 H1 locs1 → H1[q9]? = some ce → ce.vm = .none → s.vm.findClass E = some ce.cls → vx_W p l e R s m args below meth c H1 locs1 (cells + mc) (slots + ms) Q (F0 m pc ls rest) q9)
    (kk : ∀ (r : Int64) (u : S) (t : State) (H1 : Heap) (locs1 : List Loc), t.heap = H1 → s.vm.Alike t.vm → post r u → B u t → H.size ≤ H1.size → (∀ q : Nat, q < H.size → ¬ A1 q → H1[q]? = H[q]?) → va_S A0 H0 H1 locs1 → W p l e R s m args below meth c H1 locs1 (cells + mc) (slots + ms) Q (F0 m (pc + 3) ls (.long r :: rest))) : W p l e R s m args below meth c H locs cells slots Q (F0 m pc ls st0) := by
  intro T hT X
  rcases hr T hT X with ⟨v, st₀, t, T', L, h0, X', hL, e1, e2, ⟨⟨r, u, hv, hp, hb⟩, hF⟩, st⟩ | ⟨q, st₀, t, T', L, E, ce, h0, X', hL, e1, e2, ⟨u, hp, hb, hF⟩, hce, hcv, hcl, st⟩
  · cases hv
    obtain ⟨k1, k2, k3⟩ := vx_keep h0 e1 hS hA hf hL hF
    obtain ⟨t2, a1, b1⟩ := kk r u t T'.heap (locs ++ L) e1.symm (by rw [← e2]; exact X'.warmed.alike) hp hb k1 k2 k3 T' rfl X'
    exact ⟨t2, st t2 a1, b1⟩
  · obtain ⟨k1, k2, k3⟩ := vx_keep h0 e1 hS hAX hf hL hF
    obtain ⟨t2, a1, b1⟩ := kx E ce q u t T'.heap (locs ++ L) e1.symm (by rw [← e2]; exact X'.warmed.alike) hp hb k1 k2 k3 (by rw [e1]; exact hce) hcv hcl T' rfl X'
    exact ⟨t2, st.trans a1, b1⟩
theorem vx_callf {S SX : Type} {post : UInt32 → S → Prop} {px : SX → Prop} {B : S → State → Prop} {BX : String → SX → State → Prop} {AX : Nat → Prop} (hr : vx_Run p l e R s m args below meth c H locs cells slots mc ms (F0 m pc ls st0) rest (va_Qf post B A1 a) (vx_X px BX AX) free) (hS : va_S A0 H0 H locs) (hA : ∀ q, q < H.size → A1 q → A0 q) (hf : ∀ q, free q → A0 q) (hAX : ∀ q, q < H.size → AX q → A0 q)
    (kx : ∀ (E : String) (ce : Cell) (q9 : Addr) (u : SX) (t : State) (H1 : Heap) (locs1 : List Loc), t.heap = H1 → s.vm.Alike t.vm → px u → BX E u t → H.size ≤ H1.size → (∀ q : Nat, q < H.size → ¬ AX q → H1[q]? = H[q]?) → va_S A0 H0 H1 locs1 → H1[q9]? = some ce → ce.vm = .none → s.vm.findClass E = some ce.cls → vx_W p l e R s m args below meth c H1 locs1 (cells + mc) (slots + ms) Q (F0 m pc ls rest) q9)
    (kk : ∀ (r : UInt32) (u : S) (t : State) (H1 : Heap) (locs1 : List Loc), t.heap = H1 → s.vm.Alike t.vm → post r u → B u t → H.size ≤ H1.size → (∀ q : Nat, q < H.size → ¬ A1 q → H1[q]? = H[q]?) → va_S A0 H0 H1 locs1 → W p l e R s m args below meth c H1 locs1 (cells + mc) (slots + ms) Q (F0 m (pc + 3) ls (.float r :: rest))) : W p l e R s m args below meth c H locs cells slots Q (F0 m pc ls st0) := by
  intro T hT X
  rcases hr T hT X with ⟨v, st₀, t, T', L, h0, X', hL, e1, e2, ⟨⟨r, u, hv, hp, hb⟩, hF⟩, st⟩ | ⟨q, st₀, t, T', L, E, ce, h0, X', hL, e1, e2, ⟨u, hp, hb, hF⟩, hce, hcv, hcl, st⟩
  · cases hv
    obtain ⟨k1, k2, k3⟩ := vx_keep h0 e1 hS hA hf hL hF
    obtain ⟨t2, a1, b1⟩ := kk r u t T'.heap (locs ++ L) e1.symm (by rw [← e2]; exact X'.warmed.alike) hp hb k1 k2 k3 T' rfl X'
    exact ⟨t2, st t2 a1, b1⟩
  · obtain ⟨k1, k2, k3⟩ := vx_keep h0 e1 hS hAX hf hL hF
    obtain ⟨t2, a1, b1⟩ := kx E ce q u t T'.heap (locs ++ L) e1.symm (by rw [← e2]; exact X'.warmed.alike) hp hb k1 k2 k3 (by rw [e1]; exact hce) hcv hcl T' rfl X'
    exact ⟨t2, st.trans a1, b1⟩
theorem vx_calld {S SX : Type} {post : UInt64 → S → Prop} {px : SX → Prop} {B : S → State → Prop} {BX : String → SX → State → Prop} {AX : Nat → Prop} (hr : vx_Run p l e R s m args below meth c H locs cells slots mc ms (F0 m pc ls st0) rest (va_Qd post B A1 a) (vx_X px BX AX) free) (hS : va_S A0 H0 H locs) (hA : ∀ q, q < H.size → A1 q → A0 q) (hf : ∀ q, free q → A0 q) (hAX : ∀ q, q < H.size → AX q → A0 q)
    (kx : ∀ (E : String) (ce : Cell) (q9 : Addr) (u : SX) (t : State) (H1 : Heap) (locs1 : List Loc), t.heap = H1 → s.vm.Alike t.vm → px u → BX E u t → H.size ≤ H1.size → (∀ q : Nat, q < H.size → ¬ AX q → H1[q]? = H[q]?) → va_S A0 H0 H1 locs1 → H1[q9]? = some ce → ce.vm = .none → s.vm.findClass E = some ce.cls → vx_W p l e R s m args below meth c H1 locs1 (cells + mc) (slots + ms) Q (F0 m pc ls rest) q9)
    (kk : ∀ (r : UInt64) (u : S) (t : State) (H1 : Heap) (locs1 : List Loc), t.heap = H1 → s.vm.Alike t.vm → post r u → B u t → H.size ≤ H1.size → (∀ q : Nat, q < H.size → ¬ A1 q → H1[q]? = H[q]?) → va_S A0 H0 H1 locs1 → W p l e R s m args below meth c H1 locs1 (cells + mc) (slots + ms) Q (F0 m (pc + 3) ls (.double r :: rest))) : W p l e R s m args below meth c H locs cells slots Q (F0 m pc ls st0) := by
  intro T hT X
  rcases hr T hT X with ⟨v, st₀, t, T', L, h0, X', hL, e1, e2, ⟨⟨r, u, hv, hp, hb⟩, hF⟩, st⟩ | ⟨q, st₀, t, T', L, E, ce, h0, X', hL, e1, e2, ⟨u, hp, hb, hF⟩, hce, hcv, hcl, st⟩
  · cases hv
    obtain ⟨k1, k2, k3⟩ := vx_keep h0 e1 hS hA hf hL hF
    obtain ⟨t2, a1, b1⟩ := kk r u t T'.heap (locs ++ L) e1.symm (by rw [← e2]; exact X'.warmed.alike) hp hb k1 k2 k3 T' rfl X'
    exact ⟨t2, st t2 a1, b1⟩
  · obtain ⟨k1, k2, k3⟩ := vx_keep h0 e1 hS hAX hf hL hF
    obtain ⟨t2, a1, b1⟩ := kx E ce q u t T'.heap (locs ++ L) e1.symm (by rw [← e2]; exact X'.warmed.alike) hp hb k1 k2 k3 (by rw [e1]; exact hce) hcv hcl T' rfl X'
    exact ⟨t2, st.trans a1, b1⟩
theorem vx_callv {S SX : Type} {post : S → Prop} {px : SX → Prop} {B : S → State → Prop} {BX : String → SX → State → Prop} {AX : Nat → Prop} (hr : vx_Run p l e R s m args below meth c H locs cells slots mc ms (F0 m pc ls st0) rest (va_Qv post B A1 a) (vx_X px BX AX) free) (hS : va_S A0 H0 H locs) (hA : ∀ q, q < H.size → A1 q → A0 q) (hf : ∀ q, free q → A0 q) (hAX : ∀ q, q < H.size → AX q → A0 q)
    (kx : ∀ (E : String) (ce : Cell) (q9 : Addr) (u : SX) (t : State) (H1 : Heap) (locs1 : List Loc), t.heap = H1 → s.vm.Alike t.vm → px u → BX E u t → H.size ≤ H1.size → (∀ q : Nat, q < H.size → ¬ AX q → H1[q]? = H[q]?) → va_S A0 H0 H1 locs1 → H1[q9]? = some ce → ce.vm = .none → s.vm.findClass E = some ce.cls → vx_W p l e R s m args below meth c H1 locs1 (cells + mc) (slots + ms) Q (F0 m pc ls rest) q9)
    (kk : ∀ (u : S) (t : State) (H1 : Heap) (locs1 : List Loc), t.heap = H1 → s.vm.Alike t.vm → post u → B u t → H.size ≤ H1.size → (∀ q : Nat, q < H.size → ¬ A1 q → H1[q]? = H[q]?) → va_S A0 H0 H1 locs1 → W p l e R s m args below meth c H1 locs1 (cells + mc) (slots + ms) Q (F0 m (pc + 3) ls (rest))) : W p l e R s m args below meth c H locs cells slots Q (F0 m pc ls st0) := by
  intro T hT X
  rcases hr T hT X with ⟨v, st₀, t, T', L, h0, X', hL, e1, e2, ⟨⟨u, hv, hp, hb⟩, hF⟩, st⟩ | ⟨q, st₀, t, T', L, E, ce, h0, X', hL, e1, e2, ⟨u, hp, hb, hF⟩, hce, hcv, hcl, st⟩
  · cases hv
    obtain ⟨k1, k2, k3⟩ := vx_keep h0 e1 hS hA hf hL hF
    obtain ⟨t2, a1, b1⟩ := kk u t T'.heap (locs ++ L) e1.symm (by rw [← e2]; exact X'.warmed.alike) hp hb k1 k2 k3 T' rfl X'
    exact ⟨t2, st t2 a1, b1⟩
  · obtain ⟨k1, k2, k3⟩ := vx_keep h0 e1 hS hAX hf hL hF
    obtain ⟨t2, a1, b1⟩ := kx E ce q u t T'.heap (locs ++ L) e1.symm (by rw [← e2]; exact X'.warmed.alike) hp hb k1 k2 k3 (by rw [e1]; exact hce) hcv hcl T' rfl X'
    exact ⟨t2, st.trans a1, b1⟩
/-- caught by the row x of this method's table; the rows ahead don't take it -/
theorem vx_catch {own name : String} {E : String} {ce : Cell} {q : Addr} (hown : s.vm.findClass own = some m.cls) (pre : List ExceptionTableEntry) (x : ExceptionTableEntry) (suf : List ExceptionTableEntry) (hsplit : c.exceptionTable.toList = pre ++ x :: suf)
    (hpass : ∀ z ∈ pre, covers z pc = false ∨ (z.catchType ≠ 0 ∧ ∃ nm : String, (Cond.classLink own z.catchType nm).before args s = true ∧ va_Nc E nm s)) (hx : covers x pc = true) (h0 : x.catchType ≠ 0)
    (hlink : (Cond.classLink own x.catchType name).before args s = true) (hcast : (Cond.castable E name).before args s = true) (hcell : H[q]? = some ce) (hv : ce.vm = .none) (hcl : s.vm.findClass E = some ce.cls)
    (kk : W p l e R s m args below meth c H locs cells slots Q (F0 m x.handlerPc ls [.ref q])) : vx_W p l e R s m args below meth c H locs cells slots Q (F0 m pc ls rest) q := by
  intro T hT X
  have hpl : e.platform.magicAccessors = ({} : Platform).magicAccessors := by rw [X.admits.platform]
  obtain ⟨c3, c4, hc3, hc4, hasg⟩ := Cond.castable_spec hcast
  cases Option.some.inj (hc3.symm.trans hcl)
  obtain ⟨c5, hc5, hcl5⟩ := Cond.classLink_spec hown hlink e.platform hpl
  cases Option.some.inj (hc4.symm.trans hc5)
  obtain ⟨vm', X', st⟩ := X.thenCaughtThrough q (g := F0 m pc ls rest) rfl (Steps.refl _) (by rw [hT]; exact hcell) (by rw [hv]; rfl) (by obtain ⟨k9, h9, -⟩ := Vm.findClass_spec hcl; exact ⟨k9, h9⟩) pre x suf hsplit
    (fun z hz => by
      rcases hpass z hz with h | ⟨hz0, nm, hl1, hn1⟩
      · exact Or.inl h
      · obtain ⟨c6, hc6, hcl6⟩ := Cond.classLink_spec hown hl1 e.platform hpl
        obtain ⟨a8, b8, h1, h2, h3⟩ := hn1
        cases Option.some.inj (h1.symm.trans hcl)
        cases Option.some.inj (h2.symm.trans hc6)
        exact Or.inr ⟨hz0, _, hcl6, h3⟩) hx (Or.inr ⟨h0, c4, hcl5, hasg⟩)
  obtain ⟨t, a1, b1⟩ := kk (T.setVm vm') hT X'
  exact ⟨t, st.trans a1, b1⟩
end Rows
section Ends
variable {p : Program} {l : Launch} {e : Env} {R : Room} {s : State} {m : MethodId} {args : Array Value} {below : List Frame} {meth : Method} {c : Code} {H : Heap} {locs : List Loc} {cells slots : Nat} {Q : State → Prop}
variable {mc ms : Nat} {free : Addr → Prop} {A0 A1 : Nat → Prop} {H0 : Heap} {a : Array Value} {ls : Array Slot} {st0 rest : List Value}
variable {Qc : Array Value → State → Outcome → State → Prop} {XC : String → State → State → Prop}
/-- what a body that may throw owes at its end -/
def vx_MQ (below : List Frame) (Qc : Array Value → State → Outcome → State → Prop) (XC : String → State → State → Prop) (a : Array Value) (s : State) (mc ms : Nat) (free : Addr → Prop) : State → Prop := fun t =>
  ∃ o, t.status = .running ∧ Ended t below o ∧ vx_Q Qc XC mc ms free a s o t
theorem vx_ret {g : JFrame} {mc ms : Nat} (k : W p l e R s m args below meth c H locs cells slots (MQ below Qc args s mc ms free) g) : W p l e R s m args below meth c H locs cells slots (vx_MQ below Qc XC args s mc ms free) g := by
  intro T hT X
  obtain ⟨t, a1, o, b1, b2, b3, b4⟩ := k T hT X
  exact ⟨t, a1, o, b1, b2, Or.inl ⟨b3, b4⟩⟩
/-- not caught here: it goes on to the caller -/
theorem vx_widen {g : JFrame} {q : Addr} {k n : Nat} (h1 : cells ≤ k) (h2 : slots ≤ n) (kk : vx_W p l e R s m args below meth c H locs k n Q g q) : vx_W p l e R s m args below meth c H locs cells slots Q g q := fun T hT X => kk T hT (stand_widen X h1 h2)
theorem vx_out {pc : Nat} {E : String} {ce : Cell} {q : Addr} {mc ms : Nat} (hout : ∀ x ∈ c.exceptionTable.toList, covers x pc = false) (hlocks : meth.locks = false) (hcell : H[q]? = some ce) (hv : ce.vm = .none) (hcl : s.vm.findClass E = some ce.cls)
    (hx : ∀ t : State, t.heap = H → s.vm.Alike t.vm → XC E s t) (hf : ∀ z ∈ locs, free z.base) (hc : cells ≤ mc) (hs : slots ≤ ms) :
    vx_W p l e R s m args below meth c H locs cells slots (vx_MQ below Qc XC args s mc ms free) (F0 m pc ls rest) q := by
  intro T hT X
  obtain ⟨st1, hrun, hend, hW, hsm⟩ := X.leaveThrown q (g := F0 m pc ls rest) rfl rfl rfl hout hlocks
  have hcell9 : (T.setFrames (.throwing q :: below)).heap[q]? = some ce := by
    show T.heap[q]? = some ce
    rw [hT]; exact hcell
  exact ⟨_, st1, .threw q, hrun, hend, Or.inr ⟨q, rfl, E, ce, locs, hx _ hT hW.alike, hcell9, hv, hcl, hW, hsm.mono hc hs, hf⟩⟩
theorem vx_frame {U : State} {k n : Nat} (h : s.sameButNew ({ U with vm := s.vm } : State) locs k n) : s.heap.size ≤ U.heap.size ∧ ∀ q : Nat, q < s.heap.size → (∀ z ∈ locs, z.base ≠ q) → U.heap[q]? = s.heap[q]? := by
  obtain ⟨-, h2, -, -, -, h6⟩ := h
  refine ⟨h2, fun q hq hz => ?_⟩
  obtain ⟨c9, e1, e2, e3, e4⟩ := h6 q _ (Array.getElem?_eq_getElem hq)
  have hs : c9.slots = (s.heap[q]).slots := Array.ext_getElem? fun i => e4 i fun hm => hz _ hm rfl
  have h9 : c9 = s.heap[q] := by
    rw [hs] at e2
    exact e2
  have e5 : U.heap[q]? = some c9 := e1
  rw [e5, h9, Array.getElem?_eq_getElem hq]
/-- the words of a throw but the four that speak of the heap -/
def vx_no (w : Cond) : Bool := decide (w ≠ .isRef (.static Bundle.tN "UNASSIGNED_STACK" Bundle.steD)) && decide (w ≠ .isRef (.static Bundle.tN "SUPPRESSED_SENTINEL" Bundle.listD)) && decide (w ≠ .laysStatic Bundle.tN "UNASSIGNED_STACK" Bundle.steD) && decide (w ≠ .laysStatic Bundle.tN "SUPPRESSED_SENTINEL" Bundle.listD)
def vx_at0 (own : String) (ic : Nat) (X : String) (names : List String) : List Cond := (Bundle.ownAtoms0 own ic X names).filter vx_no
def vx_atS (own : String) (ic : Nat) (X : String) (names : List String) : List Cond := (Bundle.ownAtoms own ic X names).filter vx_no
/-- a word that the tables alone decide, or a good one -/
def vx_ot (w : Cond) : Bool := w.onTables || goodWord w
theorem vx_ot_at {args a' : Array Value} {s U : State} {w : Cond} (hW : s.WarmedH U.vm) (hvm : s.vm = U.vm) (hg : vx_ot w = true) (h : w.before args s = true) : w.before a' U = true := by
  simp only [vx_ot, Bool.or_eq_true] at hg
  rcases hg with hg | hg
  · exact va_tabs hg hvm h
  · exact word_at hW (good_of_word hg) h
/-- a list's words: the good ones out of the method's own list, the others by premises of their own -/
theorem vx_hat {args : Array Value} {s : State} {L B : List Cond} (h1 : ∀ w ∈ L.filter goodWord, w.before args s = true) (h2 : ∀ w ∈ L.filter (fun w => !goodWord w), w ∈ B) (h3 : ∀ w ∈ B, w.before args s = true) : ∀ w ∈ L, w.before args s = true := by
  intro w hw
  by_cases g : goodWord w = true
  · exact h1 w (List.mem_filter.mpr ⟨hw, g⟩)
  · refine h3 w (h2 w (List.mem_filter.mpr ⟨hw, ?_⟩))
    show (!goodWord w) = true
    cases hgw : goodWord w
    · rfl
    · exact absurd hgw g
theorem vx_c {args : Array Value} {s : State} {w : Cond} {B : List Cond} (h : w.before args s = true) (t : ∀ w ∈ B, w.before args s = true) : ∀ w' ∈ w :: B, w'.before args s = true := fun w' h' => (List.mem_cons.mp h').elim (fun e => by rw [e]; exact h) (t w')
theorem vx_n {args : Array Value} {s : State} : ∀ w ∈ ([] : List Cond), w.before args s = true := fun _ h => nomatch h
theorem vx_own {args : Array Value} {s : State} {L : List Cond} (h1 : ∀ w ∈ L.filter vx_no, w.before args s = true)
    (hU : (Cond.isRef (.static Bundle.tN "UNASSIGNED_STACK" Bundle.steD)).before args s = true) (hN : (Cond.isRef (.static Bundle.tN "SUPPRESSED_SENTINEL" Bundle.listD)).before args s = true)
    (lU : (Cond.laysStatic Bundle.tN "UNASSIGNED_STACK" Bundle.steD).before args s = true) (lN : (Cond.laysStatic Bundle.tN "SUPPRESSED_SENTINEL" Bundle.listD).before args s = true) : ∀ w ∈ L, w.before args s = true := by
  intro w hw
  by_cases e1 : w = .isRef (.static Bundle.tN "UNASSIGNED_STACK" Bundle.steD)
  · rw [e1]; exact hU
  · by_cases e2 : w = .isRef (.static Bundle.tN "SUPPRESSED_SENTINEL" Bundle.listD)
    · rw [e2]; exact hN
    · by_cases e3 : w = .laysStatic Bundle.tN "UNASSIGNED_STACK" Bundle.steD
      · rw [e3]; exact lU
      · by_cases e4 : w = .laysStatic Bundle.tN "SUPPRESSED_SENTINEL" Bundle.listD
        · rw [e4]; exact lN
        · exact h1 w (List.mem_filter.mpr ⟨hw, by unfold vx_no; rw [decide_eq_true e1, decide_eq_true e2, decide_eq_true e3, decide_eq_true e4]; rfl⟩)
/-- where a static field lies, its class's statics cell in H -/
def vx_L (C n d : String) (A : Nat → Prop) (U : State) (H : Heap) : Prop := ∃ (c : ClassId) (k : Class) (i : Nat) (f : Field) (a : Nat) (cell : Cell), U.vm.findClass C = some c ∧ U.fieldFound? C n d = some (c, k, i, f) ∧ f.isStatic = true ∧ k.statics = some a ∧ H[a]? = some cell ∧ cell.vm.isStatics = true ∧ cell.cls = c ∧ f.slot < cell.slots.size ∧ k.staticTypes[f.slot]? = some f.type ∧ ¬ A a
theorem vx_L.moved {C n d : String} {A : Nat → Prop} {u U : State} {H : Heap} (hvm : u.vm.Alike U.vm) (h : vx_L C n d A u H) : vx_L C n d A U H := by
  obtain ⟨c, k, i, f, a, cell, h1, h2, h3, h4, h5, h6, h7, h8, h9, h10⟩ := h
  obtain ⟨k', hi', he⟩ := State.fieldFound?_setVm hvm h2
  exact ⟨c, k', i, f, a, cell, by rw [hvm.findClass]; exact h1, hi', h3, by rw [he]; exact h4, h5, h6, h7, h8, by rw [he]; exact h9, h10⟩
theorem vx_L.kept {C n d : String} {A : Nat → Prop} {U : State} {H H1 : Heap} (h : vx_L C n d A U H) (hq : ∀ a : Nat, a < H.size → ¬ A a → H1[a]? = H[a]?) : vx_L C n d A U H1 := by
  obtain ⟨c, k, i, f, a, cell, h1, h2, h3, h4, h5, h6, h7, h8, h9, h10⟩ := h
  exact ⟨c, k, i, f, a, cell, h1, h2, h3, h4, by rw [hq a (Array.getElem?_eq_some_iff.mp h5).1 h10]; exact h5, h6, h7, h8, h9, h10⟩
theorem vx_L.narrow {C n d : String} {A B : Nat → Prop} {U : State} {H : Heap} (h : vx_L C n d A U H) (hAB : ∀ q, B q → A q) : vx_L C n d B U H := by
  obtain ⟨c, k, i, f, a, cell, h1, h2, h3, h4, h5, h6, h7, h8, h9, h10⟩ := h
  exact ⟨c, k, i, f, a, cell, h1, h2, h3, h4, h5, h6, h7, h8, h9, fun z => h10 (hAB _ z)⟩
theorem vx_L.word {C n d : String} {A : Nat → Prop} {s : State} {args : Array Value} (h : vx_L C n d A s s.heap) : (Cond.laysStatic C n d).before args s = true := by
  obtain ⟨c, k, i, f, a, cell, h1, h2, h3, h4, h5, h6, h7, h8, h9, -⟩ := h
  show (Cond.laysStatic C n d).holds args s none s [] = true
  exact Cond.laysStatic_of h1 h2 h3 h4 h5 h6 h7 h8 h9
/-- .. and what it holds: null or some reference -/
def vx_Zq (C n d : String) (A : Nat → Prop) (U : State) (H : Heap) : Prop := va_Zq C n d A U H ∧ vx_L C n d A U H
theorem vx_Zq.moved {C n d : String} {A : Nat → Prop} {u U : State} {H : Heap} (hvm : u.vm.Alike U.vm) (h : vx_Zq C n d A u H) : vx_Zq C n d A U H := ⟨va_Zq.moved hvm h.1, vx_L.moved hvm h.2⟩
theorem vx_Zq.kept {C n d : String} {A : Nat → Prop} {U : State} {H H1 : Heap} (h : vx_Zq C n d A U H) (hq : ∀ a : Nat, a < H.size → ¬ A a → H1[a]? = H[a]?) : vx_Zq C n d A U H1 := ⟨va_Zq.kept h.1 hq, vx_L.kept h.2 hq⟩
theorem vx_Zq.narrow {C n d : String} {A B : Nat → Prop} {U : State} {H : Heap} (h : vx_Zq C n d A U H) (hAB : ∀ q, B q → A q) : vx_Zq C n d B U H := ⟨va_Zq.narrow h.1 hAB, vx_L.narrow h.2 hAB⟩
theorem vx_Zqof {args : Array Value} {s : State} {C n d : String} {A : Nat → Prop} (hl : (Cond.laysStatic C n d).before args s = true) (hini : (Cond.initialized C).before args s = true) (h : (Cond.isRef (.static C n d)).before args s = true) (hA : ∀ a : Nat, a < s.heap.size → ¬ A a) : vx_Zq C n d A s s.heap := by
  refine ⟨va_Zqof hl hini h hA, ?_⟩
  obtain ⟨c, k, i, f, a, cell, h1, h2, h3, h4, h5, h6, h7, h8, h9⟩ := Cond.laysStatic_spec hl
  exact ⟨c, k, i, f, a, cell, h1, h2, h3, h4, h5, h6, h7, h8, h9, hA a (Array.getElem?_eq_some_iff.mp h5).1⟩
theorem vx_isRef {C n d : String} {v : Value} {A : Nat → Prop} {s : State} {args : Array Value} (h : va_Z C n d v A s s.heap) (hv : v.isRef = true) : (Cond.isRef (.static C n d)).before args s = true := by
  obtain ⟨cf, kf, fi, f, a, cell, h1, h2, h3, h4, h5, h6, h7, -⟩ := h
  have he : (Term.static C n d).eval args s none [] s = some v := by
    simp [Term.eval, State.fieldNamed?, h1, h2, h4, h5, h6, h7]
  simp only [Cond.before, Cond.holds, Cond.value, he]
  cases v <;> simp_all [Value.isRef]
theorem vx_isRefq {C n d : String} {A : Nat → Prop} {s : State} {args : Array Value} (h : va_Zq C n d A s s.heap) : (Cond.isRef (.static C n d)).before args s = true := by
  rcases h with h | ⟨t, h⟩
  · exact vx_isRef h rfl
  · exact vx_isRef h rfl
/-- the same frame, seen from here: as if the method were called anew in this heap -/
theorem vx_rebase {T : State} (X : Stand p l e R s m args below meth c T locs cells slots) {R' : Room} (hf : R'.frames ≤ R.frames) (hl : R'.locals ≤ R.locals) (hc : cells + R'.cells ≤ R.cells) (hs : slots + R'.slots ≤ R.slots) :
    Stand p l e R' ((T.setVm s.vm).setFrames (.invoking m args :: below)) m args below meth c T [] 0 0 := by
  have htop : (T.setVm s.vm).topJava?.isSome := X.here.top
  have hF : ((T.setVm s.vm).setFrames (.invoking m args :: below)).frames = .invoking m args :: below := State.frames_setFrames _ (State.cur_lt_of_top htop)
  obtain ⟨g₀, hg0⟩ := Option.isSome_iff_exists.mp htop
  obtain ⟨r, hr⟩ := State.topJava?_eq_some.mp hg0
  have hl9 : e.platform.stackLimits (T.setVm s.vm).me = e.platform.stackLimits s.me := X.limits
  have hb9 : (T.setVm s.vm).me.stackBytes = s.me.stackBytes := X.bytes
  refine ⟨X.admits, X.cas, X.clock, hF, ?_, X.hears, X.method, X.code, X.here, X.tail, X.warmed, ?_, ?_, ?_⟩
  · have h := X.room
    have hU : ((T.setVm s.vm).setFrames (.invoking m args :: below)).localsInUse = s.localsInUse := by
      rw [State.localsInUse_invoking hF (meth := meth) (c := c) X.method X.code, State.localsInUse_invoking X.frames X.method X.code]
    simp only [State.hasRoom, Bool.and_eq_true, decide_eq_true_eq] at h ⊢
    obtain ⟨⟨⟨⟨h1, h2, h3, h4, h5, h6⟩, h7⟩, h8⟩, h9⟩ := h
    rw [X.frames, List.length_cons] at h2 h3
    have q1 := X.heapSize
    have q2 := X.used
    simp only [hF, hU, List.length_cons, State.stackLimits_setFrames, State.stackBytes_setFrames, hl9, hb9]
    refine ⟨⟨⟨⟨by omega, by omega, by omega, by omega, by omega, h6⟩, ?_⟩, ?_⟩, X.book⟩
    · show T.heap.size + R'.cells ≤ e.platform.maxCells
      omega
    · show T.slotsUsed + R'.slots ≤ e.platform.maxSlots
      omega
  · rw [State.stackLimits_setFrames]; rfl
  · rw [State.stackBytes_setFrames]; rfl
  · refine ⟨?_, Nat.le_refl _, Nat.le_refl _, ?_, ?_, fun a c9 h9 => ⟨c9, h9, rfl, rfl, fun _ _ => rfl⟩⟩
    · obtain ⟨t, ht, -⟩ := State.frames_cons hr
      show T.setVm s.vm = { ((T.setVm s.vm).setFrames (.invoking m args :: below)).setFrames (T.setVm s.vm).frames with heap := T.heap, slotsUsed := T.slotsUsed }
      rw [State.setFrames_setFrames, State.setFrames_self ht]
      rfl
    · show T.slotsUsed = T.slotsUsed + ((T.heap.toList.drop T.heap.size).map (·.slots.size)).sum
      rw [List.drop_eq_nil_of_le (Nat.le_of_eq Array.length_toList)]
      rfl
    · show ((T.heap.toList.drop T.heap.size).map (·.slots.size)).sum ≤ 0
      rw [List.drop_eq_nil_of_le (Nat.le_of_eq Array.length_toList)]
      exact Nat.le_refl _
/-- 'throw new E()': new; dup; invokespecial; athrow -/
theorem vx_throw0 {cc : ByteArray} {pc : Nat} (hexec : p.tables.exec = Jvm.exec) (hb : c.code = cc) (hl : l.stackTraces = false) {own cls : String} {names : List String} {ik ic mc ms : Nat} {A : Nat → Prop}
    (hown : s.vm.findClass own = some m.cls) (hcls : Bundle.fit cls = true) (hnames : ∀ n ∈ names, Bundle.fit n = true)
    (hk : (Cond.classLink own ik cls).before args s = true) (hini : (Cond.initialized cls).before args s = true) (hat : ∀ w ∈ vx_at0 own ic cls names, w.before args s = true)
    (hgood : ∀ w ∈ Cond.classLink own ik cls :: Cond.initialized cls :: vx_at0 own ic cls names, vx_ot w = true)
    (hU : vx_Zq Bundle.tN "UNASSIGNED_STACK" Bundle.steD A s s.heap) (hN : vx_Zq Bundle.tN "SUPPRESSED_SENTINEL" Bundle.listD A s s.heap) (hS : va_S A s.heap H locs) (hsize : ls.size = c.maxLocals)
    (d0 : decode cc pc = .ok (.new ik, 3)) (d3 : decode cc (pc + 3) = .ok (.dup, 1)) (d4 : decode cc (pc + 4) = .ok (.invokespecial ic, 3)) (d7 : decode cc (pc + 7) = .ok (.athrow, 1))
    (hout : ∀ x ∈ c.exceptionTable.toList, covers x (pc + 7) = false)
    (hRframes : names.length + 3 < R.frames) (hRlocals : (rest.map fun v => v.category).sum + (13 * (names.length + 1) + 42) ≤ R.locals) (hRcells : cells + 1 ≤ R.cells) (hRslots : slots + 6 ≤ R.slots) (hlocks : meth.locks = false)
    (hx : ∀ t : State, s.vm.Alike t.vm → H.size ≤ t.heap.size → (∀ q : Nat, q < H.size → t.heap[q]? = H[q]?) → XC cls s t)
    (hf : ∀ z ∈ locs, free z.base) (hc : cells + 1 ≤ mc) (hs : slots + 6 ≤ ms) :
    W p l e R s m args below meth c H locs cells slots (vx_MQ below Qc XC args s mc ms free) (F0 m pc ls rest) := by
  intro T hT X
  have htr : e.platform.stackTraces = false := (show e.platform.stackTraces = l.stackTraces by rw [X.admits.platform]).trans hl
  have Y := vx_rebase X (R' := { frames := R.frames, locals := R.locals, cells := 1, slots := 6 }) (Nat.le_refl _) (Nat.le_refl _) hRcells hRslots
  obtain ⟨s', hA⟩ : ∃ z, z = (T.setVm s.vm).setFrames (.invoking m args :: below) := ⟨_, rfl⟩
  rw [← hA] at Y
  have hvm : s'.vm = s.vm := by rw [hA]; rfl
  have hhp : s'.heap = H := by rw [hA]; exact hT
  have hW0 : s.WarmedH s'.vm := by rw [hvm]; exact State.WarmedH.refl s
  have hat' : ∀ w ∈ vx_at0 own ic cls names, w.before args s' = true := fun w hw => vx_ot_at hW0 hvm.symm (hgood w (List.mem_cons_of_mem _ (List.mem_cons_of_mem _ hw))) (hat w hw)
  have hk' : (Cond.classLink own ik cls).before args s' = true := vx_ot_at hW0 hvm.symm (hgood _ List.mem_cons_self) hk
  have hini' : (Cond.initialized cls).before args s' = true := vx_ot_at hW0 hvm.symm (hgood _ (List.mem_cons_of_mem _ List.mem_cons_self)) hini
  have hU' : vx_Zq Bundle.tN "UNASSIGNED_STACK" Bundle.steD A s' s'.heap := by rw [hhp]; exact vx_Zq.moved hW0.alike (hU.kept hS.2.1)
  have hN' : vx_Zq Bundle.tN "SUPPRESSED_SENTINEL" Bundle.listD A s' s'.heap := by rw [hhp]; exact vx_Zq.moved hW0.alike (hN.kept hS.2.1)
  have h : ∀ w ∈ Bundle.ownAtoms0 own ic cls names, w.before args s' = true := vx_own hat' (vx_isRefq hU'.1) (vx_isRefq hN'.1) hU'.2.word hN'.2.word
  have hown' : s'.vm.findClass own = some m.cls := by rw [hvm]; exact hown
  have hins : (Cond.instantiable cls 6).before args s' = true := h _ (by simp [Bundle.ownAtoms0])
  obtain ⟨vm₁, cX, kX, hfX, hkX, -, -, X₁, st1⟩ := Y.newCold hexec (own := own) (C := cls) (index := ik) (n := 6) hown' hk' hins hini'
    (g := F0 m pc ls rest) rfl (by rw [hb]; exact d0) (Nat.le_refl _) (Nat.le_refl _)
  generalize hT1 : (T.setVm vm₁).pushCell { cls := cX, slots := kX.instanceTypes.map defaultValue, vm := .none } = T1 at X₁ st1
  have hcat : (Value.ref T.heap.size).category = 1 := rfl
  have hcellA : T1.heap[T.heap.size]? = some (freshCell cX kX) := by rw [← hT1]; exact State.heap_pushCell_size _ _
  have d3' : decode c.code (pc + 3) = .ok (.dup, 1) := by rw [hb]; exact d3
  obtain ⟨U, hsteps, hrun, hend, hW, hsame, ce, hce, hO⟩ := X₁.ctorThrow0 hexec htr (own := own) (cls := cls) (names := names) (ic := ic) hown' hcls hnames h (fun x hx => nomatch hx) hfX hkX hcellA (by rw [hhp, hT]; exact Nat.le_refl _)
    (g := { method := m, pc := pc + 4, locals := ls, stack := .ref T.heap.size :: .ref T.heap.size :: rest, locked := none }) rfl hsize rfl rfl (rest := rest) rfl
    (by rw [hb]; exact d4) (by rw [hb]; exact d7) hout hRframes (by simp only [List.map_cons, List.sum_cons, hcat]; omega) hlocks
  obtain ⟨f1, f2⟩ := vx_frame hsame
  rw [hhp] at f1 f2
  have hWs : s.WarmedH U.vm := State.WarmedH.trans hW0 hW
  have hcl : s.vm.findClass cls = some ce.cls := by
    have h9 := hO.cls
    rw [hvm] at h9
    exact h9
  have hall : s.sameButNew ({ U with vm := s.vm } : State) locs mc ms := by
    subst hA
    obtain ⟨e1, e2⟩ := hsame
    rw [State.setFrames_setFrames] at e1
    have h2 : (T.setVm s.vm).sameButNew ({ U with vm := s.vm } : State) [] (0 + 1) (0 + 6) := ⟨e1, e2⟩
    have h3 := X.same.trans h2
    rw [List.append_nil] at h3
    exact h3.mono hc hs
  refine ⟨U, ?_, .threw T.heap.size, hrun, hend, Or.inr ⟨T.heap.size, rfl, cls, ce, locs, hx U hWs.alike f1 (fun q hq => f2 q hq (fun z hz => nomatch hz)), hce, hO.vm, hcl, hWs, hall, hf⟩⟩
  refine st1 _ ?_
  show Steps p.tables e below (T1.setTop { method := m, pc := pc + 3, locals := ls, stack := .ref T.heap.size :: rest, locked := none }) _
  jvm_step X₁.here [X₁.here.top, hexec, d3', Value.category]
  exact hsteps
/-- 'throw new E("text")': new; dup; ldc; invokespecial; athrow -/
theorem vx_throwS {cc : ByteArray} {pc : Nat} (hexec : p.tables.exec = Jvm.exec) (hb : c.code = cc) (hl : l.stackTraces = false) {own cls text : String} {names : List String} {ik is ic mc ms sa : Nat} {A : Nat → Prop}
    (hown : s.vm.findClass own = some m.cls) (hcls : Bundle.fit cls = true) (hnames : ∀ n ∈ names, Bundle.fit n = true)
    (hk : (Cond.classLink own ik cls).before args s = true) (hini : (Cond.initialized cls).before args s = true) (hstr : vk_R own is text sa s) (hat : ∀ w ∈ vx_atS own ic cls names, w.before args s = true)
    (hgood : ∀ w ∈ Cond.classLink own ik cls :: Cond.initialized cls :: vx_atS own ic cls names, vx_ot w = true)
    (hU : vx_Zq Bundle.tN "UNASSIGNED_STACK" Bundle.steD A s s.heap) (hN : vx_Zq Bundle.tN "SUPPRESSED_SENTINEL" Bundle.listD A s s.heap) (hS : va_S A s.heap H locs) (hsize : ls.size = c.maxLocals)
    (d0 : decode cc pc = .ok (.new ik, 3)) (d3 : decode cc (pc + 3) = .ok (.dup, 1)) (d4 : decode cc (pc + 4) = .ok (.ldc is, 2)) (d6 : decode cc (pc + 6) = .ok (.invokespecial ic, 3)) (d9 : decode cc (pc + 9) = .ok (.athrow, 1))
    (hout : ∀ x ∈ c.exceptionTable.toList, covers x (pc + 9) = false)
    (hRframes : names.length + 3 < R.frames) (hRlocals : (rest.map fun v => v.category).sum + (13 * (names.length + 1) + 43) ≤ R.locals) (hRcells : cells + 1 ≤ R.cells) (hRslots : slots + 6 ≤ R.slots) (hlocks : meth.locks = false)
    (hx : ∀ t : State, s.vm.Alike t.vm → H.size ≤ t.heap.size → (∀ q : Nat, q < H.size → t.heap[q]? = H[q]?) → XC cls s t)
    (hf : ∀ z ∈ locs, free z.base) (hc : cells + 1 ≤ mc) (hs : slots + 6 ≤ ms) :
    W p l e R s m args below meth c H locs cells slots (vx_MQ below Qc XC args s mc ms free) (F0 m pc ls rest) := by
  intro T hT X
  have htr : e.platform.stackTraces = false := (show e.platform.stackTraces = l.stackTraces by rw [X.admits.platform]).trans hl
  have Y := vx_rebase X (R' := { frames := R.frames, locals := R.locals, cells := 1, slots := 6 }) (Nat.le_refl _) (Nat.le_refl _) hRcells hRslots
  obtain ⟨s', hA⟩ : ∃ z, z = (T.setVm s.vm).setFrames (.invoking m args :: below) := ⟨_, rfl⟩
  rw [← hA] at Y
  have hvm : s'.vm = s.vm := by rw [hA]; rfl
  have hhp : s'.heap = H := by rw [hA]; exact hT
  have hW0 : s.WarmedH s'.vm := by rw [hvm]; exact State.WarmedH.refl s
  have hat' : ∀ w ∈ vx_atS own ic cls names, w.before args s' = true := fun w hw => vx_ot_at hW0 hvm.symm (hgood w (List.mem_cons_of_mem _ (List.mem_cons_of_mem _ hw))) (hat w hw)
  have hk' : (Cond.classLink own ik cls).before args s' = true := vx_ot_at hW0 hvm.symm (hgood _ List.mem_cons_self) hk
  have hini' : (Cond.initialized cls).before args s' = true := vx_ot_at hW0 hvm.symm (hgood _ (List.mem_cons_of_mem _ List.mem_cons_self)) hini
  have hU' : vx_Zq Bundle.tN "UNASSIGNED_STACK" Bundle.steD A s' s'.heap := by rw [hhp]; exact vx_Zq.moved hW0.alike (hU.kept hS.2.1)
  have hN' : vx_Zq Bundle.tN "SUPPRESSED_SENTINEL" Bundle.listD A s' s'.heap := by rw [hhp]; exact vx_Zq.moved hW0.alike (hN.kept hS.2.1)
  have h : ∀ w ∈ Bundle.ownAtoms own ic cls names, w.before args s' = true := vx_own hat' (vx_isRefq hU'.1) (vx_isRefq hN'.1) hU'.2.word hN'.2.word
  have hown' : s'.vm.findClass own = some m.cls := by rw [hvm]; exact hown
  have hins : (Cond.instantiable cls 6).before args s' = true := h _ (by simp [Bundle.ownAtoms])
  obtain ⟨vm₁, cX, kX, hfX, hkX, -, -, X₁, st1⟩ := Y.newCold hexec (own := own) (C := cls) (index := ik) (n := 6) hown' hk' hins hini'
    (g := F0 m pc ls rest) rfl (by rw [hb]; exact d0) (Nat.le_refl _) (Nat.le_refl _)
  generalize hT1 : (T.setVm vm₁).pushCell { cls := cX, slots := kX.instanceTypes.map defaultValue, vm := .none } = T1 at X₁ st1
  have hcat : (Value.ref T.heap.size).category = 1 := rfl
  have hcellA : T1.heap[T.heap.size]? = some (freshCell cX kX) := by rw [← hT1]; exact State.heap_pushCell_size _ _
  have d3' : decode c.code (pc + 3) = .ok (.dup, 1) := by rw [hb]; exact d3
  have d4' : decode c.code (pc + 4) = .ok (.ldc is, 2) := by rw [hb]; exact d4
  have hstr' : vk_R own is text sa s' := vk_R.warm hW0 hstr
  obtain ⟨U, hsteps, hrun, hend, hW, hsame, ce, hce, hO⟩ := X₁.ctorThrowS hexec htr (own := own) (cls := cls) (names := names) (ic := ic) hown' hcls hnames h (fun x hx => nomatch hx) hfX hkX hcellA (by rw [hhp, hT]; exact Nat.le_refl _) (msg := .ref sa) rfl
    (g := { method := m, pc := pc + 6, locals := ls, stack := .ref sa :: .ref T.heap.size :: .ref T.heap.size :: rest, locked := none }) rfl hsize rfl rfl (rest := rest) rfl
    (by rw [hb]; exact d6) (by rw [hb]; exact d9) hout hRframes (by simp only [List.map_cons, List.sum_cons, hcat]; omega) hlocks
  obtain ⟨f1, f2⟩ := vx_frame hsame
  rw [hhp] at f1 f2
  have hWs : s.WarmedH U.vm := State.WarmedH.trans hW0 hW
  have hcl : s.vm.findClass cls = some ce.cls := by
    have h9 := hO.cls
    rw [hvm] at h9
    exact h9
  have hall : s.sameButNew ({ U with vm := s.vm } : State) locs mc ms := by
    subst hA
    obtain ⟨e1, e2⟩ := hsame
    rw [State.setFrames_setFrames] at e1
    have h2 : (T.setVm s.vm).sameButNew ({ U with vm := s.vm } : State) [] (0 + 1) (0 + 6) := ⟨e1, e2⟩
    have h3 := X.same.trans h2
    rw [List.append_nil] at h3
    exact h3.mono hc hs
  refine ⟨U, ?_, .threw T.heap.size, hrun, hend, Or.inr ⟨T.heap.size, rfl, cls, ce, locs, hx U hWs.alike f1 (fun q hq => f2 q hq (fun z hz => nomatch hz)), hce, hO.vm, hcl, hWs, hall, hf⟩⟩
  refine st1 _ ?_
  show Steps p.tables e below (T1.setTop { method := m, pc := pc + 3, locals := ls, stack := .ref T.heap.size :: rest, locked := none }) _
  jvm_step X₁.here [X₁.here.top, hexec, d3', Value.category]
  exact X₁.ldcString hexec (own := own) (text := text) (index := is) (a := sa) hown' hstr'.1 hstr'.2
    (g := { method := m, pc := pc + 4, locals := ls, stack := .ref T.heap.size :: .ref T.heap.size :: rest, locked := none }) rfl d4' _ hsteps
/-- 'throw new E("text")', the text by a wide index -/
theorem vx_throwSW {cc : ByteArray} {pc : Nat} (hexec : p.tables.exec = Jvm.exec) (hb : c.code = cc) (hl : l.stackTraces = false) {own cls text : String} {names : List String} {ik is ic mc ms sa : Nat} {A : Nat → Prop}
    (hown : s.vm.findClass own = some m.cls) (hcls : Bundle.fit cls = true) (hnames : ∀ n ∈ names, Bundle.fit n = true)
    (hk : (Cond.classLink own ik cls).before args s = true) (hini : (Cond.initialized cls).before args s = true) (hstr : vk_R own is text sa s) (hat : ∀ w ∈ vx_atS own ic cls names, w.before args s = true)
    (hgood : ∀ w ∈ Cond.classLink own ik cls :: Cond.initialized cls :: vx_atS own ic cls names, vx_ot w = true)
    (hU : vx_Zq Bundle.tN "UNASSIGNED_STACK" Bundle.steD A s s.heap) (hN : vx_Zq Bundle.tN "SUPPRESSED_SENTINEL" Bundle.listD A s s.heap) (hS : va_S A s.heap H locs) (hsize : ls.size = c.maxLocals)
    (d0 : decode cc pc = .ok (.new ik, 3)) (d3 : decode cc (pc + 3) = .ok (.dup, 1)) (d4 : decode cc (pc + 4) = .ok (.ldc_w is, 3)) (d7 : decode cc (pc + 7) = .ok (.invokespecial ic, 3)) (d10 : decode cc (pc + 10) = .ok (.athrow, 1))
    (hout : ∀ x ∈ c.exceptionTable.toList, covers x (pc + 10) = false)
    (hRframes : names.length + 3 < R.frames) (hRlocals : (rest.map fun v => v.category).sum + (13 * (names.length + 1) + 43) ≤ R.locals) (hRcells : cells + 1 ≤ R.cells) (hRslots : slots + 6 ≤ R.slots) (hlocks : meth.locks = false)
    (hx : ∀ t : State, s.vm.Alike t.vm → H.size ≤ t.heap.size → (∀ q : Nat, q < H.size → t.heap[q]? = H[q]?) → XC cls s t)
    (hf : ∀ z ∈ locs, free z.base) (hc : cells + 1 ≤ mc) (hs : slots + 6 ≤ ms) :
    W p l e R s m args below meth c H locs cells slots (vx_MQ below Qc XC args s mc ms free) (F0 m pc ls rest) := by
  intro T hT X
  have htr : e.platform.stackTraces = false := (show e.platform.stackTraces = l.stackTraces by rw [X.admits.platform]).trans hl
  have Y := vx_rebase X (R' := { frames := R.frames, locals := R.locals, cells := 1, slots := 6 }) (Nat.le_refl _) (Nat.le_refl _) hRcells hRslots
  obtain ⟨s', hA⟩ : ∃ z, z = (T.setVm s.vm).setFrames (.invoking m args :: below) := ⟨_, rfl⟩
  rw [← hA] at Y
  have hvm : s'.vm = s.vm := by rw [hA]; rfl
  have hhp : s'.heap = H := by rw [hA]; exact hT
  have hW0 : s.WarmedH s'.vm := by rw [hvm]; exact State.WarmedH.refl s
  have hat' : ∀ w ∈ vx_atS own ic cls names, w.before args s' = true := fun w hw => vx_ot_at hW0 hvm.symm (hgood w (List.mem_cons_of_mem _ (List.mem_cons_of_mem _ hw))) (hat w hw)
  have hk' : (Cond.classLink own ik cls).before args s' = true := vx_ot_at hW0 hvm.symm (hgood _ List.mem_cons_self) hk
  have hini' : (Cond.initialized cls).before args s' = true := vx_ot_at hW0 hvm.symm (hgood _ (List.mem_cons_of_mem _ List.mem_cons_self)) hini
  have hU' : vx_Zq Bundle.tN "UNASSIGNED_STACK" Bundle.steD A s' s'.heap := by rw [hhp]; exact vx_Zq.moved hW0.alike (hU.kept hS.2.1)
  have hN' : vx_Zq Bundle.tN "SUPPRESSED_SENTINEL" Bundle.listD A s' s'.heap := by rw [hhp]; exact vx_Zq.moved hW0.alike (hN.kept hS.2.1)
  have h : ∀ w ∈ Bundle.ownAtoms own ic cls names, w.before args s' = true := vx_own hat' (vx_isRefq hU'.1) (vx_isRefq hN'.1) hU'.2.word hN'.2.word
  have hown' : s'.vm.findClass own = some m.cls := by rw [hvm]; exact hown
  have hins : (Cond.instantiable cls 6).before args s' = true := h _ (by simp [Bundle.ownAtoms])
  obtain ⟨vm₁, cX, kX, hfX, hkX, -, -, X₁, st1⟩ := Y.newCold hexec (own := own) (C := cls) (index := ik) (n := 6) hown' hk' hins hini'
    (g := F0 m pc ls rest) rfl (by rw [hb]; exact d0) (Nat.le_refl _) (Nat.le_refl _)
  generalize hT1 : (T.setVm vm₁).pushCell { cls := cX, slots := kX.instanceTypes.map defaultValue, vm := .none } = T1 at X₁ st1
  have hcat : (Value.ref T.heap.size).category = 1 := rfl
  have hcellA : T1.heap[T.heap.size]? = some (freshCell cX kX) := by rw [← hT1]; exact State.heap_pushCell_size _ _
  have d3' : decode c.code (pc + 3) = .ok (.dup, 1) := by rw [hb]; exact d3
  have d4' : decode c.code (pc + 4) = .ok (.ldc_w is, 3) := by rw [hb]; exact d4
  have hstr' : vk_R own is text sa s' := vk_R.warm hW0 hstr
  obtain ⟨U, hsteps, hrun, hend, hW, hsame, ce, hce, hO⟩ := X₁.ctorThrowS hexec htr (own := own) (cls := cls) (names := names) (ic := ic) hown' hcls hnames h (fun x hx => nomatch hx) hfX hkX hcellA (by rw [hhp, hT]; exact Nat.le_refl _) (msg := .ref sa) rfl
    (g := { method := m, pc := pc + 7, locals := ls, stack := .ref sa :: .ref T.heap.size :: .ref T.heap.size :: rest, locked := none }) rfl hsize rfl rfl (rest := rest) rfl
    (by rw [hb]; exact d7) (by rw [hb]; exact d10) hout hRframes (by simp only [List.map_cons, List.sum_cons, hcat]; omega) hlocks
  obtain ⟨f1, f2⟩ := vx_frame hsame
  rw [hhp] at f1 f2
  have hWs : s.WarmedH U.vm := State.WarmedH.trans hW0 hW
  have hcl : s.vm.findClass cls = some ce.cls := by
    have h9 := hO.cls
    rw [hvm] at h9
    exact h9
  have hall : s.sameButNew ({ U with vm := s.vm } : State) locs mc ms := by
    subst hA
    obtain ⟨e1, e2⟩ := hsame
    rw [State.setFrames_setFrames] at e1
    have h2 : (T.setVm s.vm).sameButNew ({ U with vm := s.vm } : State) [] (0 + 1) (0 + 6) := ⟨e1, e2⟩
    have h3 := X.same.trans h2
    rw [List.append_nil] at h3
    exact h3.mono hc hs
  refine ⟨U, ?_, .threw T.heap.size, hrun, hend, Or.inr ⟨T.heap.size, rfl, cls, ce, locs, hx U hWs.alike f1 (fun q hq => f2 q hq (fun z hz => nomatch hz)), hce, hO.vm, hcl, hWs, hall, hf⟩⟩
  refine st1 _ ?_
  show Steps p.tables e below (T1.setTop { method := m, pc := pc + 3, locals := ls, stack := .ref T.heap.size :: rest, locked := none }) _
  jvm_step X₁.here [X₁.here.top, hexec, d3', Value.category]
  exact X₁.ldcStringW hexec (own := own) (text := text) (index := is) (a := sa) hown' hstr'.1 hstr'.2
    (g := { method := m, pc := pc + 4, locals := ls, stack := .ref T.heap.size :: .ref T.heap.size :: rest, locked := none }) rfl d4' _ hsteps
end Ends
section Bodies
variable {l : Launch}
theorem vx_ofW {y : MethodName} {ws ws' : List Cond} {rm : Room} {Pc : Array Value → State → Prop} {Qc : Array Value → State → Outcome → State → Prop} {XC : String → State → State → Prop} {mc ms : Nat} {free : Addr → Prop} {cc : ByteArray} {maxL : Nat} {ret : Option FieldType}
    (hy : plainName y.cls = true) (hw : ws = Cond.code y cc maxL ret :: ws')
    (body : ∀ p e s m args below meth c s₁, BodyLoose p l y (headSpec ws rm) cc maxL ret e s m args below meth c s₁ → c.maxLocals = maxL → (∀ x ∈ c.exceptionTable.toList, False) → Pc args s →
      W p l e (headSpec ws rm).room s m args below meth c s.heap [] 0 0 (vx_MQ below Qc XC args s mc ms free) (entryFrame m args maxL)) : vx_Met l y ws rm Pc Qc XC mc ms free := by
  refine MetFree.of_bodyS (code := cc) (maxLocals := maxL) (ret := ret) hy ?_ ?_
  · intro args s m h hn
    obtain ⟨meth, c, h1, h2, h3, h4, h5, h6, -, -⟩ := Cond.code_spec hn (atoms_spec (ws := ws) h _ (by rw [hw]; exact List.mem_cons_self))
    exact ⟨meth, c, h1, h2, h3, h4, h5, h6⟩
  · intro p e s m args below meth c s₁ B hml hP _
    have hh0 : s₁.heap = s.heap := by rw [B.state]; rfl
    have ht : ∀ x ∈ c.exceptionTable.toList, False := by
      obtain ⟨meth9, c9, h1, h2, -, -, -, -, h7, -⟩ := Cond.code_spec B.named (atoms_spec (ws := ws) B.pre _ (by rw [hw]; exact List.mem_cons_self))
      cases Option.some.inj (h1.symm.trans B.method)
      cases Option.some.inj (h2.symm.trans (Stand.of_body B).code)
      intro x hx
      rw [Array.isEmpty_iff.mp h7] at hx
      cases hx
    obtain ⟨t, a1, o, b1, b2, b3⟩ := body p e s m args below meth c s₁ B hml ht hP s₁ hh0 (Stand.of_body B)
    exact ⟨t, o, a1, b1, b2, b3⟩
/-- the table of a body with handlers -/
theorem vx_table {p : Program} {x y : MethodName} {S : Spec} {cc bytes : ByteArray} {maxL maxL' : Nat} {ret ret' : Option FieldType} {e : Env} {s s₁ : State} {m : MethodId} {args : Array Value} {below : List Frame} {meth : Method} {c : Code} {hh : List (Nat × Nat × Nat × Nat)}
    (B : BodyLoose p l y S cc maxL ret e s m args below meth c s₁) (h : (Cond.codeWith y bytes maxL' ret' hh).before args s = true) : c.exceptionTable.toList = tableOf hh := by
  obtain ⟨m9, meth9, c9, hn9, h1, h2, -, -, h6, -⟩ := Cond.codeWith_spec h
  cases Option.some.inj (hn9.symm.trans B.named)
  cases Option.some.inj (h1.symm.trans B.method)
  cases Option.some.inj (h2.symm.trans (Stand.of_body B).code)
  rw [← h6, table_eq]
end Bodies
end VXA
/-! ===== END ===== -/
/-! ===== BEGIN a static call of a method with an exception table ===== -/
section VXS
variable {p : Program} {l : Launch} {e : Env} {R : Room} {s : State} {m : MethodId} {args : Array Value} {below : List Frame} {meth : Method} {c : Code} {T : State} {H : Heap} {locs : List Loc} {cells slots : Nat}
abbrev vx_CSW (R : Room) (s : State) (args : Array Value) (own : String) (index : Nat) (y : MethodName) (bytes : ByteArray) (maxL : Nat) (ret : Option FieldType) (hh : List (Nat × Nat × Nat × Nat)) (ws : List Cond) (rm : Room) (mc ms n : Nat) : Prop :=
  (rm.cells = mc ∧ rm.slots = ms ∧ rm.frames + 1 ≤ R.frames ∧ 8 + (maxL + 11) + rm.locals ≤ R.locals ∧ (∀ w ∈ ws, ∀ (a' : Array Value) (U : State), s.WarmedH U.vm → w.before a' U = true) ∧ Cond.codeWith y bytes maxL ret hh ∈ ws) ∧
  (Cond.codeWith y bytes maxL ret hh).before args s = true ∧ (Cond.initialized y.cls).before args s = true ∧ (y.cls ≠ "java/lang/invoke/MethodHandle" ∧ y.cls ≠ "java/lang/invoke/VarHandle") ∧
  (∀ sig, parseMethodDescriptor y.desc = some sig → n = sig.parameters.length) ∧ (Cond.methodLink own index y).before args s = true ∧ (Cond.static y).before args s = true
theorem vx_cwSW {own : String} {index maxL mc ms : Nat} {y : MethodName} {bytes : ByteArray} {ret : Option FieldType} {hh : List (Nat × Nat × Nat × Nat)} {Ts ws ws' : List Cond} {rm : Room} (n : Nat) (ht : ∀ w ∈ Ts, w.before args s = true) (hT : GoodIn Ts (va_wsS own index y ws)) (hw : ws = Cond.codeWith y bytes maxL ret hh :: ws') (hrc : rm.cells = mc) (hrs : rm.slots = ms)
    (hd : y.cls ≠ "java/lang/invoke/MethodHandle" ∧ y.cls ≠ "java/lang/invoke/VarHandle" ∧ (parseMethodDescriptor y.desc).map (fun d => d.parameters.length) = some n) (hR : rm.frames + 1 ≤ R.frames ∧ 8 + (maxL + 11) + rm.locals ≤ R.locals) :
    vx_CSW R s args own index y bytes maxL ret hh ws rm mc ms n := by
  have ok : ∀ w ∈ va_wsS own index y ws, w.before args s = true := fun w h => ht w (hT w h).1
  have hG : GoodIn Ts ws := fun w h => hT w (by unfold va_wsS; exact List.mem_append_right _ h)
  have hc : Cond.codeWith y bytes maxL ret hh ∈ ws := by rw [hw]; exact List.mem_cons_self
  refine ⟨⟨hrc, hrs, hR.1, hR.2, pay_in ht hG, hc⟩, ht _ (hG _ hc).1, ok _ (by simp [va_wsS]), ⟨hd.1, hd.2.1⟩, fun sig h => ?_, ok _ (by simp [va_wsS]), ok _ (by simp [va_wsS])⟩
  have h2 := hd.2.2
  rw [h] at h2
  exact (Option.some.inj h2).symm
theorem vx_callSW (X : Stand p l e R s m args below meth c T locs cells slots) (hexec : p.tables.exec = Jvm.exec) {own : String} {index : Nat} {y : MethodName} {bytes : ByteArray} {maxL : Nat} {ret : Option FieldType} {hh : List (Nat × Nat × Nat × Nat)}
    (hown : s.vm.findClass own = some m.cls) (hlink : (Cond.methodLink own index y).before args s = true) (hstat : (Cond.static y).before args s = true) (hinit : (Cond.initialized y.cls).before args s = true)
    (hcode : (Cond.codeWith y bytes maxL ret hh).before args s = true) (hy : y.cls ≠ "java/lang/invoke/MethodHandle" ∧ y.cls ≠ "java/lang/invoke/VarHandle")
    {W9 : Nat} {Pre : Pt → Array Value → Prop} {Post : Pt → Array Value → Option Value → Pt → Prop} (hK : Back l R p e below s args y 3 W9 Pre Post)
    {g : JFrame} (hg : g.method = m) (hsize : g.locals.size = c.maxLocals) {argsL rest : List Value} (hlen : ∀ sig, parseMethodDescriptor y.desc = some sig → argsL.length = sig.parameters.length)
    (hstack : g.stack = argsL.reverse ++ rest) (hW : 2 * g.monitorRoom + (rest.map fun v => v.category).sum ≤ W9) (hdg : decode c.code g.pc = .ok (.invokestatic index, 3))
    (hpre : ∀ vm₁, s.WarmedH vm₁ → Pre ⟨T.setVm vm₁, locs, cells, slots⟩ argsL.toArray) :
    ∃ (v : Option Value) (vm₁ : Vm) (B : Pt), s.WarmedH vm₁ ∧ Stand p l e R s m args below meth c B.U B.locs B.cells B.slots ∧ Post ⟨T.setVm vm₁, locs, cells, slots⟩ argsL.toArray v B ∧
      ∀ target, Steps p.tables e below (B.U.setTop { g with pc := g.pc + 3, stack := v.toList ++ rest }) target → Steps p.tables e below (T.setTop g) target := by
  obtain ⟨mk, methM, cM, hnamed, hmethM, -, -, -, -, -, -, hsigM⟩ := Cond.codeWith_spec hcode
  have hstatic : methM.isStatic = true := Cond.static_spec hnamed hmethM hstat
  obtain ⟨kP, hkP, -⟩ := className_of_methodNamed hnamed
  have hinitP : kP.init = .initialized := Cond.initialized_spec (findClass_of_methodNamed hnamed) hkP hinit
  obtain ⟨vm₁, X₁, hstep₁⟩ := X.invokestatic hexec hown hlink hnamed hmethM hstatic hkP hinitP hy (g := g) hg (argsL := argsL) (rest := rest) (hlen _ hsigM) hstack hdg
  obtain ⟨v, B, X', hpost, hsteps⟩ := hK m meth c ⟨T.setVm vm₁, locs, cells, slots⟩ { g with stack := rest } (.invokestatic index) mk argsL.toArray X₁ hg hsize hdg hW (X₁.named hnamed) (hpre vm₁ X₁.warmed)
  exact ⟨v, vm₁, B, X₁.warmed, X', hpost, fun target h => hstep₁ _ fun acts => by rw [doInvoke_state]; exact hsteps.trans h⟩
theorem vx_runSW {y : MethodName} {bytes cc : ByteArray} {maxL nL mc ms n index : Nat} {ret : Option FieldType} {hh : List (Nat × Nat × Nat × Nat)} {ws : List Cond} {rm : Room} {Pc : Array Value → State → Prop} {Qc : Array Value → State → Outcome → State → Prop} {free : Addr → Prop} {Ts : List Cond} {own : String} {As rest : List Value} {g : JFrame}
    (S : CallFix p m c cc nL s args Ts own) (hM : Met l y ws rm Pc Qc mc ms free) (cw : vx_CSW R s args own index y bytes maxL ret hh ws rm mc ms n) (hp : PreS s H Pc As)
    (hg : g.method = m) (hn : As.length = n) (hsize : g.locals.size = nL) (hstack : g.stack = As.reverse ++ rest) (hW : 2 * g.monitorRoom + (rest.map fun v => v.category).sum ≤ 8) (hdg : decode cc g.pc = .ok (.invokestatic index, 3)) (hf : cells + mc ≤ R.cells ∧ slots + ms ≤ R.slots) :
    va_Run p l e R s m args below meth c H locs cells slots mc ms g rest (Qc As.toArray) (free) := by
  obtain ⟨⟨hrc, hrs, hfr, hlo, hws, hcw⟩, hcode, hini, hy, hlen, hl, hstt⟩ := cw
  have hK : Back l R p e below s args y 3 8 (PreOf R mc ms Pc) (PostOf Qc mc ms free) := va_backW (hh := hh) (bytes := bytes) (maxL := maxL) (ret := ret) hM hp.1 hrc hrs hfr hlo hws hcw (fun a' U hW => word_at hW (Or.inl (by first | rfl | simp [Cond.onTables, Cond.keeps, Cond.steady])) hini)
  obtain ⟨hx, hb, hml, ho, -⟩ := S
  intro T hT X
  obtain ⟨v, vm₁, ⟨U', l2, c2, s2⟩, hW₁, X', ⟨g', mk, t, L, e1, e2, hq, h1, hL, h2, h3⟩, st⟩ := vx_callSW X hx (hh := hh) (bytes := bytes) (maxL := maxL) (ret := ret) ho hl hstt hini hcode hy hK hg (hsize.trans hml.symm) (argsL := As) (rest := rest) (fun sig h => hn.trans (hlen sig h)) hstack hW (by rw [hb]; exact hdg)
    (fun vm₁ hW₁ => ⟨hf.1, hf.2, hp.2 (T.setVm vm₁) hT hW₁⟩)
  dsimp only [Pt.U, Pt.locs, Pt.cells, Pt.slots] at X' e1 e2 h1 h2 h3 st
  subst h1; subst h2; subst h3
  exact ⟨v, (T.setVm vm₁).calling g' mk As.toArray, t, U', L, hT, X', hL, e1, e2, hq, st⟩
/-- not caught here, past rows that name other classes: it goes on to the caller -/
theorem vx_outP {p : Program} {l : Launch} {e : Env} {R : Room} {s : State} {m : MethodId} {args : Array Value} {below : List Frame} {meth : Method} {c : Code} {H : Heap} {locs : List Loc} {cells slots : Nat} {free : Addr → Prop} {ls : Array Slot} {rest : List Value} {Qc : Array Value → State → Outcome → State → Prop} {XC : String → State → State → Prop}
    {pc : Nat} {own E : String} {ce : Cell} {q : Addr} {mc ms : Nat} (hown : s.vm.findClass own = some m.cls) (hlocks : meth.locks = false)
    (hpass : ∀ z ∈ c.exceptionTable.toList, covers z pc = false ∨ (z.catchType ≠ 0 ∧ ∃ nm : String, (Cond.classLink own z.catchType nm).before args s = true ∧ va_Nc E nm s)) (hcell : H[q]? = some ce) (hv : ce.vm = .none) (hcl : s.vm.findClass E = some ce.cls)
    (hx : ∀ t : State, t.heap = H → s.vm.Alike t.vm → XC E s t) (hf : ∀ z ∈ locs, free z.base) (hc : cells ≤ mc) (hs : slots ≤ ms) :
    vx_W p l e R s m args below meth c H locs cells slots (vx_MQ below Qc XC args s mc ms free) (F0 m pc ls rest) q := by
  intro T hT X
  have hpl : e.platform.magicAccessors = ({} : Platform).magicAccessors := by rw [X.admits.platform]
  obtain ⟨vm', hW', X', st⟩ := X.outThrough hlocks q (g := F0 m pc ls rest) rfl rfl rfl (cell := ce) (by rw [hT]; exact hcell) (by rw [hv]; rfl)
    (by obtain ⟨k9, h9, -⟩ := Vm.findClass_spec hcl; exact ⟨k9, h9⟩) (fun z hz => by
      rcases hpass z hz with h | ⟨hz0, nm, hl1, hn1⟩
      · exact Or.inl h
      · obtain ⟨c6, hc6, hcl6⟩ := Cond.classLink_spec hown hl1 e.platform hpl
        obtain ⟨a8, b8, h1, h2, h3⟩ := hn1
        cases Option.some.inj (h1.symm.trans hcl)
        cases Option.some.inj (h2.symm.trans hc6)
        exact Or.inr ⟨hz0, _, hcl6, h3⟩)
  obtain ⟨g₀, hfr⟩ := X'.frames_eq
  have hcell9 : ((T.setVm vm').setFrames (.throwing q :: below)).heap[q]? = some ce := by
    show T.heap[q]? = some ce
    rw [hT]; exact hcell
  have hend : Ended ((T.setVm vm').setFrames (.throwing q :: below)) below (.threw q) := State.frames_setFrames _ (State.cur_lt_of_frames hfr)
  refine ⟨(T.setVm vm').setFrames (.throwing q :: below), ?_, .threw q, X'.here.running, hend, Or.inr ⟨q, rfl, E, ce, locs, hx _ hT (X'.ends _).1.alike, hcell9, hv, hcl, (X'.ends _).1, (X'.ends _).2.mono hc hs, hf⟩⟩
  rw [X.pushThrowing_eq]
  exact st
/-- a thing of a world lies in the heap -/
theorem vx_lt {D : va_G} {cl : List vw_C} {ws : va_W} {H1 : Heap} (h : va_P D cl ws H1) {k : Nat} {q : Nat × va_E} (hk : ws[k]? = some q) : q.1 < H1.size := (h k q hk).lt
end VXS
/-! ===== END ===== -/
/-! ===== BEGIN methods with a table of their own: called by a name, returning or throwing ===== -/
section VXH
/-! vx_backW, vx_callVX, vx_callSX, vx_callVW, vx_runVW, vx_runVX, vx_runSX, vx_ofWH follow the same proofs as their sisters above (Free/Laws.lean, Shelf42/LK1.lean); vx_outP calls Shelf42/NT130.lean (outThrough). -/
section
variable {l : Launch} {R : Room} {p : Program} {e : Env} {below : List Frame} {s : State} {sargs : Array Value} {y : MethodName} {len W9 : Nat}
theorem vx_backW {ws : List Cond} {rm : Room} {Pc : Array Value → State → Prop} {Qc : Array Value → State → Outcome → State → Prop} {XC : String → State → State → Prop} {mc ms : Nat} {free : Addr → Prop} {bytes : ByteArray} {maxL : Nat} {ret : Option FieldType} {hh : List (Nat × Nat × Nat × Nat)}
    (hM : vx_Met l y ws rm Pc Qc XC mc ms free) (hblind : FrameBlind Pc) (hrc : rm.cells = mc) (hrs : rm.slots = ms)
    (hframes : rm.frames + 1 ≤ R.frames) (hlocals : W9 + (maxL + 11) + rm.locals ≤ R.locals)
    (hws : ∀ w ∈ ws, ∀ a' U, s.WarmedH U.vm → w.before a' U = true) (hcode : Cond.codeWith y bytes maxL ret hh ∈ ws) (hinit : ∀ a' U, s.WarmedH U.vm → (Cond.initialized y.cls).before a' U = true) :
    vx_Back l R p e below s sargs y len W9 (PreOf R mc ms Pc) (PostOf Qc mc ms free) (vx_Post XC mc ms free) := by
  intro m meth c A g ig mk a X hg hsize hdg hW hn hp
  have h1 : (headSpec ws rm).pre.before a A.U = true := atoms_intro fun w hw => hws w hw _ _ X.warmed
  have h2 : (Cond.codeWith y bytes maxL ret hh).before a A.U = true := hws _ hcode _ _ X.warmed
  have h3 : (Cond.initialized y.cls).before a A.U = true := hinit _ _ X.warmed
  have h4 : A.cells + (headSpec ws rm).room.cells ≤ R.cells := by rw [show (headSpec ws rm).room.cells = mc from hrc]; exact hp.1
  have h5 : A.slots + (headSpec ws rm).room.slots ≤ R.slots := by rw [show (headSpec ws rm).room.slots = ms from hrs]; exact hp.2.1
  have hPc : Pc a (A.U.calling g mk a) := hblind _ _ _ _ hp.2.2
  obtain ⟨U, Ls, c0, s0⟩ := A
  dsimp only [Pt.U, Pt.locs, Pt.cells, Pt.slots] at h1 h2 h3 h4 h5 X hn hPc ⊢
  obtain ⟨m9, methY, cY, hn9, hmY, hcY, -, hlY, -⟩ := Cond.codeWith_spec h2
  cases Option.some.inj (hn9.symm.trans hn)
  obtain ⟨kY, hkY, -⟩ := className_of_methodNamed hn
  have hinitY : kY.init = .initialized := Cond.initialized_spec (findClass_of_methodNamed hn) hkY h3
  have h : At U g.method c below := by rw [hg]; exact X.here
  have hlocals9 : W9 + (maxL + 11) + (headSpec ws rm).room.locals ≤ R.locals := hlocals
  have happ : (headSpec ws rm).appliesLoose y e.platform (U.calling g mk a) = true :=
    Spec.appliesLoose_calling (g := g) h hdg hn hkY hinitY
      (X.room_calling (g := g) (R' := (headSpec ws rm).room) hsize hmY hcY hframes (by rw [hlY]; omega) h4 h5) h1
  obtain ⟨mid, hmid⟩ := h.above
  have hfr : (U.setTop g).frames = (.java g :: mid) ++ below := by rw [State.frames_setTop' g h.top, hmid]; rfl
  obtain ⟨o, s₂, hsteps, -, hend, hq⟩ := Steps.callFree hM p X.admits X.cas X.clock (acts := []) hfr happ hPc trivial
  have hq' : vx_Q Qc XC mc ms free a (U.calling g mk a) o s₂ := hq
  rw [State.frames_setTop' g h.top] at hend
  obtain ⟨g₀, hg0⟩ := Option.isSome_iff_exists.mp h.top
  obtain ⟨r, hr⟩ := State.topJava?_eq_some.mp hg0
  have hr' : (({ U with heap := s₂.heap, slotsUsed := s₂.slotsUsed } : State).setVm s₂.vm).frames = .java g₀ :: r := hr
  rcases hq' with ⟨hqc, L, hfe, hL⟩ | ⟨q, rfl, E, ce, L, hx, hce, hcv, hcl, hW₂, hsm, hL⟩
  · obtain ⟨⟨v, rfl⟩, hW₂, e2, q2, q3, q4, q5, q6⟩ := id hfe
    have e3 : s₂ = ({ (U.calling g mk a).setFrames s₂.frames with heap := s₂.heap, slotsUsed := s₂.slotsUsed } : State).setVm s₂.vm := by
      have : s₂ = ({ s₂ with vm := (U.calling g mk a).vm } : State).setVm s₂.vm := rfl
      rw [e2] at this
      exact this
    obtain ⟨c₂, i₂, len₂, hc₂, hd₂, hf₂⟩ := hend
    have hW' : U.WarmedH s₂.vm := hW₂
    have hcc : c₂ = c := by
      have h1 : s₂.code? g.method = U.code? g.method := by
        rw [State.code?_eq, State.code?_eq, hW'.alike.method?]
      exact Option.some.inj (hc₂.symm.trans (h1.trans h.code))
    subst hcc
    have hlen : len₂ = len := by rw [hdg] at hd₂; cases hd₂; rfl
    subst hlen
    have hs₂ : s₂ = (({ U with heap := s₂.heap, slotsUsed := s₂.slotsUsed } : State).setVm s₂.vm).setTop { g with pc := g.pc + len₂, stack := v.toList ++ g.stack } := by
      refine e3.trans ?_
      rw [hf₂, State.calling_eq h.top, State.setFrames_setFrames, State.setTop_of_frames _ hr', hr]
      rfl
    have hsame : U.sameButNew ({ U with heap := s₂.heap, slotsUsed := s₂.slotsUsed } : State) L mc ms := by
      refine ⟨?_, q2, q3, q4, q5, q6⟩
      obtain ⟨t, ht, -⟩ := State.frames_cons hr
      show ({ U with heap := s₂.heap, slotsUsed := s₂.slotsUsed } : State) = { U.setFrames U.frames with heap := s₂.heap, slotsUsed := s₂.slotsUsed }
      rw [State.setFrames_self ht]
    subst hg
    refine Or.inl ⟨v, ⟨(({ U with heap := s₂.heap, slotsUsed := s₂.slotsUsed } : State).setVm s₂.vm), Ls ++ L, c0 + mc, s0 + ms⟩,
      ⟨X.admits, X.cas, X.clock, X.frames, X.room, X.hears, X.method, X.code, (X.here.setHeapUsed s₂.heap s₂.slotsUsed).setVm hW'.alike, X.tail, State.WarmedH.trans X.warmed hW', X.limits, X.bytes, X.same.trans (hsame.setVm s.vm)⟩,
      ⟨g, mk, s₂, L, rfl, rfl, hqc, rfl, hL, rfl, rfl⟩, ?_⟩
    show Steps p.tables e below _ ((({ U with heap := s₂.heap, slotsUsed := s₂.slotsUsed } : State).setVm s₂.vm).setTop { g with pc := g.pc + len₂, stack := v.toList ++ g.stack })
    rw [← hs₂]
    exact hsteps
  · obtain ⟨e2, q2, q3, q4, q5, q6⟩ := id hsm
    have e3 : s₂ = ({ (U.calling g mk a).setFrames s₂.frames with heap := s₂.heap, slotsUsed := s₂.slotsUsed } : State).setVm s₂.vm := by
      have : s₂ = ({ s₂ with vm := (U.calling g mk a).vm } : State).setVm s₂.vm := rfl
      rw [e2] at this
      exact this
    have hf₂ : s₂.frames = .throwing q :: .java g :: U.frames.tail := hend
    have hW' : U.WarmedH s₂.vm := hW₂
    have hs₂ : s₂ = ((({ U with heap := s₂.heap, slotsUsed := s₂.slotsUsed } : State).setVm s₂.vm).setTop g).pushFrame (.throwing q) := by
      refine e3.trans ?_
      rw [hf₂, State.calling_eq h.top, State.setFrames_setFrames, State.pushFrame, State.frames_setTop _ hr', State.setTop_of_frames _ hr', State.setFrames_setFrames, hr]
      rfl
    have hsame : U.sameButNew ({ U with heap := s₂.heap, slotsUsed := s₂.slotsUsed } : State) L mc ms := by
      refine ⟨?_, q2, q3, q4, q5, q6⟩
      obtain ⟨t, ht, -⟩ := State.frames_cons hr
      show ({ U with heap := s₂.heap, slotsUsed := s₂.slotsUsed } : State) = { U.setFrames U.frames with heap := s₂.heap, slotsUsed := s₂.slotsUsed }
      rw [State.setFrames_self ht]
    subst hg
    refine Or.inr ⟨q, ⟨(({ U with heap := s₂.heap, slotsUsed := s₂.slotsUsed } : State).setVm s₂.vm), Ls ++ L, c0 + mc, s0 + ms⟩,
      ⟨X.admits, X.cas, X.clock, X.frames, X.room, X.hears, X.method, X.code, (X.here.setHeapUsed s₂.heap s₂.slotsUsed).setVm hW'.alike, X.tail, State.WarmedH.trans X.warmed hW', X.limits, X.bytes, X.same.trans (hsame.setVm s.vm)⟩,
      ⟨g, mk, s₂, L, E, ce, rfl, rfl, hx, hce, hcv, hcl, rfl, hL, rfl, rfl⟩, ?_⟩
    show Steps p.tables e below _ (((({ U with heap := s₂.heap, slotsUsed := s₂.slotsUsed } : State).setVm s₂.vm).setTop g).pushFrame (.throwing q))
    rw [← hs₂]
    exact hsteps
end
variable {p : Program} {l : Launch} {e : Env} {R : Room} {s : State} {m : MethodId} {args : Array Value} {below : List Frame} {meth : Method} {c : Code} {T : State} {H : Heap} {locs : List Loc} {cells slots : Nat}
theorem vx_callVX (X : Stand p l e R s m args below meth c T locs cells slots) (hexec : p.tables.exec = Jvm.exec) {own C : String} {index : Nat} {y : MethodName} {bytes : ByteArray} {maxL : Nat} {ret : Option FieldType} {hh : List (Nat × Nat × Nat × Nat)}
    (hown : s.vm.findClass own = some m.cls) (hlink : (Cond.methodLink own index y).before args s = true) (hinst : (Cond.instanceMethod y).before args s = true) (hsel : (Cond.selects C y y).before args s = true)
    (hcode : (Cond.codeWith y bytes maxL ret hh).before args s = true) (hy : y.cls ≠ "java/lang/invoke/MethodHandle" ∧ y.cls ≠ "java/lang/invoke/VarHandle")
    {W9 : Nat} {Pre : Pt → Array Value → Prop} {Post : Pt → Array Value → Option Value → Pt → Prop} {PostX : Pt → Array Value → Addr → Pt → Prop} (hK : vx_Back l R p e below s args y 3 W9 Pre Post PostX)
    {b : Addr} {cellB : Cell} (hcell : T.heap[b]? = some cellB) (hobj : cellB.vm.isStatics = false) (hcls : s.vm.findClass C = some cellB.cls)
    {g : JFrame} (hg : g.method = m) (hsize : g.locals.size = c.maxLocals) {argsL rest : List Value} (hlen : ∀ sig, parseMethodDescriptor y.desc = some sig → argsL.length = sig.parameters.length)
    (hstack : g.stack = argsL.reverse ++ .ref b :: rest) (hW : 2 * g.monitorRoom + (rest.map fun v => v.category).sum ≤ W9) (hdg : decode c.code g.pc = .ok (.invokevirtual index, 3))
    (hpre : ∀ vm₁, s.WarmedH vm₁ → Pre ⟨T.setVm vm₁, locs, cells, slots⟩ (Value.ref b :: argsL).toArray) :
    (∃ (v : Option Value) (vm₁ : Vm) (B : Pt), s.WarmedH vm₁ ∧ Stand p l e R s m args below meth c B.U B.locs B.cells B.slots ∧ Post ⟨T.setVm vm₁, locs, cells, slots⟩ (Value.ref b :: argsL).toArray v B ∧
      ∀ target, Steps p.tables e below (B.U.setTop { g with pc := g.pc + 3, stack := v.toList ++ rest }) target → Steps p.tables e below (T.setTop g) target) ∨
    (∃ (q : Addr) (vm₁ : Vm) (B : Pt), s.WarmedH vm₁ ∧ Stand p l e R s m args below meth c B.U B.locs B.cells B.slots ∧ PostX ⟨T.setVm vm₁, locs, cells, slots⟩ (Value.ref b :: argsL).toArray q B ∧
      Steps p.tables e below (T.setTop g) ((B.U.setTop { g with stack := rest }).pushFrame (.throwing q))) := by
  obtain ⟨mk, methM, hnamed, hmethM, hstM, habM⟩ := Cond.instanceMethod_spec hinst
  obtain ⟨m8, methM', cM, hn8, hmethM', -, -, -, -, -, -, hsigM⟩ := Cond.codeWith_spec hcode
  cases Option.some.inj (hn8.symm.trans hnamed)
  cases hmethM.symm.trans hmethM'
  obtain ⟨c2, r2, m2, q1, q2, q3, q4, kP, hkP, hkPi⟩ := Cond.selects_spec hsel
  cases hcls.symm.trans q1
  cases (State.methodFound?_of_named hnamed hy).symm.trans q2
  cases hnamed.symm.trans q3
  have hselP : selectMethod e.platform s.vm cellB.cls mk = .method mk := by rw [Launch.admits_selectMethod X.admits]; exact q4
  obtain ⟨vm₁, X₁, hstep₁⟩ := X.invokevirtual hexec hown hlink hnamed hmethM hstM hkP hkPi hy (a := b) (cell := cellB) hcell
    (fun z h => by rw [h] at hobj; cases hobj) hselP hmethM habM hkP hkPi (g := g) hg (argsL := argsL) (rest := rest) (hlen _ hsigM) hstack hdg
  rcases hK m meth c ⟨T.setVm vm₁, locs, cells, slots⟩ { g with stack := rest } (.invokevirtual index) mk (Value.ref b :: argsL).toArray X₁ hg hsize hdg hW (X₁.named hnamed) (hpre vm₁ X₁.warmed) with ⟨v, B, X', hpost, hsteps⟩ | ⟨q, B, X', hpost, hsteps⟩
  · exact Or.inl ⟨v, vm₁, B, X₁.warmed, X', hpost, fun target h => hstep₁ _ fun acts => by rw [doInvoke_state]; exact hsteps.trans h⟩
  · exact Or.inr ⟨q, vm₁, B, X₁.warmed, X', hpost, hstep₁ _ fun acts => by rw [doInvoke_state]; exact hsteps⟩
theorem vx_callSX (X : Stand p l e R s m args below meth c T locs cells slots) (hexec : p.tables.exec = Jvm.exec) {own : String} {index : Nat} {y : MethodName} {bytes : ByteArray} {maxL : Nat} {ret : Option FieldType} {hh : List (Nat × Nat × Nat × Nat)}
    (hown : s.vm.findClass own = some m.cls) (hlink : (Cond.methodLink own index y).before args s = true) (hstat : (Cond.static y).before args s = true) (hinit : (Cond.initialized y.cls).before args s = true)
    (hcode : (Cond.codeWith y bytes maxL ret hh).before args s = true) (hy : y.cls ≠ "java/lang/invoke/MethodHandle" ∧ y.cls ≠ "java/lang/invoke/VarHandle")
    {W9 : Nat} {Pre : Pt → Array Value → Prop} {Post : Pt → Array Value → Option Value → Pt → Prop} {PostX : Pt → Array Value → Addr → Pt → Prop} (hK : vx_Back l R p e below s args y 3 W9 Pre Post PostX)
    {g : JFrame} (hg : g.method = m) (hsize : g.locals.size = c.maxLocals) {argsL rest : List Value} (hlen : ∀ sig, parseMethodDescriptor y.desc = some sig → argsL.length = sig.parameters.length)
    (hstack : g.stack = argsL.reverse ++ rest) (hW : 2 * g.monitorRoom + (rest.map fun v => v.category).sum ≤ W9) (hdg : decode c.code g.pc = .ok (.invokestatic index, 3))
    (hpre : ∀ vm₁, s.WarmedH vm₁ → Pre ⟨T.setVm vm₁, locs, cells, slots⟩ argsL.toArray) :
    (∃ (v : Option Value) (vm₁ : Vm) (B : Pt), s.WarmedH vm₁ ∧ Stand p l e R s m args below meth c B.U B.locs B.cells B.slots ∧ Post ⟨T.setVm vm₁, locs, cells, slots⟩ argsL.toArray v B ∧
      ∀ target, Steps p.tables e below (B.U.setTop { g with pc := g.pc + 3, stack := v.toList ++ rest }) target → Steps p.tables e below (T.setTop g) target) ∨
    (∃ (q : Addr) (vm₁ : Vm) (B : Pt), s.WarmedH vm₁ ∧ Stand p l e R s m args below meth c B.U B.locs B.cells B.slots ∧ PostX ⟨T.setVm vm₁, locs, cells, slots⟩ argsL.toArray q B ∧
      Steps p.tables e below (T.setTop g) ((B.U.setTop { g with stack := rest }).pushFrame (.throwing q))) := by
  obtain ⟨mk, methM, cM, hnamed, hmethM, -, -, -, -, -, -, hsigM⟩ := Cond.codeWith_spec hcode
  have hstatic : methM.isStatic = true := Cond.static_spec hnamed hmethM hstat
  obtain ⟨kP, hkP, -⟩ := className_of_methodNamed hnamed
  have hinitP : kP.init = .initialized := Cond.initialized_spec (findClass_of_methodNamed hnamed) hkP hinit
  obtain ⟨vm₁, X₁, hstep₁⟩ := X.invokestatic hexec hown hlink hnamed hmethM hstatic hkP hinitP hy (g := g) hg (argsL := argsL) (rest := rest) (hlen _ hsigM) hstack hdg
  rcases hK m meth c ⟨T.setVm vm₁, locs, cells, slots⟩ { g with stack := rest } (.invokestatic index) mk argsL.toArray X₁ hg hsize hdg hW (X₁.named hnamed) (hpre vm₁ X₁.warmed) with ⟨v, B, X', hpost, hsteps⟩ | ⟨q, B, X', hpost, hsteps⟩
  · exact Or.inl ⟨v, vm₁, B, X₁.warmed, X', hpost, fun target h => hstep₁ _ fun acts => by rw [doInvoke_state]; exact hsteps.trans h⟩
  · exact Or.inr ⟨q, vm₁, B, X₁.warmed, X', hpost, hstep₁ _ fun acts => by rw [doInvoke_state]; exact hsteps⟩
theorem vx_callVW (X : Stand p l e R s m args below meth c T locs cells slots) (hexec : p.tables.exec = Jvm.exec) {own C : String} {index : Nat} {y : MethodName} {bytes : ByteArray} {maxL : Nat} {ret : Option FieldType} {hh : List (Nat × Nat × Nat × Nat)}
    (hown : s.vm.findClass own = some m.cls) (hlink : (Cond.methodLink own index y).before args s = true) (hinst : (Cond.instanceMethod y).before args s = true) (hsel : (Cond.selects C y y).before args s = true)
    (hcode : (Cond.codeWith y bytes maxL ret hh).before args s = true) (hy : y.cls ≠ "java/lang/invoke/MethodHandle" ∧ y.cls ≠ "java/lang/invoke/VarHandle")
    {W9 : Nat} {Pre : Pt → Array Value → Prop} {Post : Pt → Array Value → Option Value → Pt → Prop} (hK : Back l R p e below s args y 3 W9 Pre Post)
    {b : Addr} {cellB : Cell} (hcell : T.heap[b]? = some cellB) (hobj : cellB.vm.isStatics = false) (hcls : s.vm.findClass C = some cellB.cls)
    {g : JFrame} (hg : g.method = m) (hsize : g.locals.size = c.maxLocals) {argsL rest : List Value} (hlen : ∀ sig, parseMethodDescriptor y.desc = some sig → argsL.length = sig.parameters.length)
    (hstack : g.stack = argsL.reverse ++ .ref b :: rest) (hW : 2 * g.monitorRoom + (rest.map fun v => v.category).sum ≤ W9) (hdg : decode c.code g.pc = .ok (.invokevirtual index, 3))
    (hpre : ∀ vm₁, s.WarmedH vm₁ → Pre ⟨T.setVm vm₁, locs, cells, slots⟩ (Value.ref b :: argsL).toArray) :
    ∃ (v : Option Value) (vm₁ : Vm) (B : Pt), s.WarmedH vm₁ ∧ Stand p l e R s m args below meth c B.U B.locs B.cells B.slots ∧ Post ⟨T.setVm vm₁, locs, cells, slots⟩ (Value.ref b :: argsL).toArray v B ∧
      ∀ target, Steps p.tables e below (B.U.setTop { g with pc := g.pc + 3, stack := v.toList ++ rest }) target → Steps p.tables e below (T.setTop g) target := by
  obtain ⟨mk, methM, hnamed, hmethM, hstM, habM⟩ := Cond.instanceMethod_spec hinst
  obtain ⟨m8, methM', cM, hn8, hmethM', -, -, -, -, -, -, hsigM⟩ := Cond.codeWith_spec hcode
  cases Option.some.inj (hn8.symm.trans hnamed)
  cases hmethM.symm.trans hmethM'
  obtain ⟨c2, r2, m2, q1, q2, q3, q4, kP, hkP, hkPi⟩ := Cond.selects_spec hsel
  cases hcls.symm.trans q1
  cases (State.methodFound?_of_named hnamed hy).symm.trans q2
  cases hnamed.symm.trans q3
  have hselP : selectMethod e.platform s.vm cellB.cls mk = .method mk := by rw [Launch.admits_selectMethod X.admits]; exact q4
  obtain ⟨vm₁, X₁, hstep₁⟩ := X.invokevirtual hexec hown hlink hnamed hmethM hstM hkP hkPi hy (a := b) (cell := cellB) hcell
    (fun z h => by rw [h] at hobj; cases hobj) hselP hmethM habM hkP hkPi (g := g) hg (argsL := argsL) (rest := rest) (hlen _ hsigM) hstack hdg
  obtain ⟨v, B, X', hpost, hsteps⟩ := hK m meth c ⟨T.setVm vm₁, locs, cells, slots⟩ { g with stack := rest } (.invokevirtual index) mk (Value.ref b :: argsL).toArray X₁ hg hsize hdg hW (X₁.named hnamed) (hpre vm₁ X₁.warmed)
  exact ⟨v, vm₁, B, X₁.warmed, X', hpost, fun target h => hstep₁ _ fun acts => by rw [doInvoke_state]; exact hsteps.trans h⟩
abbrev vx_CVW (R : Room) (s : State) (args : Array Value) (own C : String) (index : Nat) (y : MethodName) (bytes : ByteArray) (maxL : Nat) (ret : Option FieldType) (hh : List (Nat × Nat × Nat × Nat)) (ws : List Cond) (rm : Room) (mc ms n : Nat) : Prop :=
  (rm.cells = mc ∧ rm.slots = ms ∧ rm.frames + 1 ≤ R.frames ∧ 8 + (maxL + 11) + rm.locals ≤ R.locals ∧ (∀ w ∈ ws, ∀ (a' : Array Value) (U : State), s.WarmedH U.vm → w.before a' U = true) ∧ Cond.codeWith y bytes maxL ret hh ∈ ws) ∧
  (Cond.codeWith y bytes maxL ret hh).before args s = true ∧ (Cond.initialized y.cls).before args s = true ∧ (y.cls ≠ "java/lang/invoke/MethodHandle" ∧ y.cls ≠ "java/lang/invoke/VarHandle") ∧
  (∀ sig, parseMethodDescriptor y.desc = some sig → n = sig.parameters.length) ∧ (Cond.methodLink own index y).before args s = true ∧ (Cond.instanceMethod y).before args s = true ∧ (Cond.selects C y y).before args s = true
theorem vx_cwVW {own C : String} {index maxL mc ms : Nat} {y : MethodName} {bytes : ByteArray} {ret : Option FieldType} {hh : List (Nat × Nat × Nat × Nat)} {Ts ws ws' : List Cond} {rm : Room} (n : Nat) (ht : ∀ w ∈ Ts, w.before args s = true) (hT : GoodIn Ts (wsV own index C y ws)) (hw : ws = Cond.codeWith y bytes maxL ret hh :: ws') (hrc : rm.cells = mc) (hrs : rm.slots = ms)
    (hd : y.cls = C ∧ y.cls ≠ "java/lang/invoke/MethodHandle" ∧ y.cls ≠ "java/lang/invoke/VarHandle" ∧ (parseMethodDescriptor y.desc).map (fun d => d.parameters.length) = some n) (hR : rm.frames + 1 ≤ R.frames ∧ 8 + (maxL + 11) + rm.locals ≤ R.locals) :
    vx_CVW R s args own C index y bytes maxL ret hh ws rm mc ms n := by
  obtain ⟨hC, hd⟩ := hd
  subst hC
  have ok : ∀ w ∈ wsV own index y.cls y ws, w.before args s = true := fun w h => ht w (hT w h).1
  have hG : GoodIn Ts ws := fun w h => hT w (by unfold wsV; exact List.mem_append_right _ h)
  have hc : Cond.codeWith y bytes maxL ret hh ∈ ws := by rw [hw]; exact List.mem_cons_self
  refine ⟨⟨hrc, hrs, hR.1, hR.2, pay_in ht hG, hc⟩, ht _ (hG _ hc).1, ok _ (by simp [wsV]), ⟨hd.1, hd.2.1⟩, fun sig h => ?_, ok _ (by simp [wsV]), ok _ (by simp [wsV]), ok _ (by simp [wsV])⟩
  have h2 := hd.2.2
  rw [h] at h2
  exact (Option.some.inj h2).symm
theorem vx_runVW {y : MethodName} {bytes cc : ByteArray} {maxL nL mc ms n index : Nat} {ret : Option FieldType} {hh : List (Nat × Nat × Nat × Nat)} {ws : List Cond} {rm : Room} {Pc : Array Value → State → Prop} {Qc : Array Value → State → Outcome → State → Prop} {free : Addr → Prop} {Ts : List Cond} {own C : String} {b : Addr} {As rest : List Value} {g : JFrame}
    (S : CallFix p m c cc nL s args Ts own) (hM : Met l y ws rm Pc Qc mc ms free) (cw : vx_CVW R s args own C index y bytes maxL ret hh ws rm mc ms n) (hp : PreV s H C b Pc As)
    (hg : g.method = m) (hn : As.length = n) (hsize : g.locals.size = nL) (hstack : g.stack = As.reverse ++ .ref b :: rest) (hW : 2 * g.monitorRoom + (rest.map fun v => v.category).sum ≤ 8) (hdg : decode cc g.pc = .ok (.invokevirtual index, 3)) (hf : cells + mc ≤ R.cells ∧ slots + ms ≤ R.slots) :
    va_Run p l e R s m args below meth c H locs cells slots mc ms g rest (Qc (Value.ref b :: As).toArray) free := by
  obtain ⟨⟨hrc, hrs, hfr, hlo, hws, hcw⟩, hcode, hini, hy, hlen, hl, hin, hse⟩ := cw
  have hK : Back l R p e below s args y 3 8 (PreOf R mc ms Pc) (PostOf Qc mc ms free) := va_backW (hh := hh) (bytes := bytes) (maxL := maxL) (ret := ret) hM hp.1 hrc hrs hfr hlo hws hcw (fun a' U hW => word_at hW (Or.inl (by first | rfl | simp [Cond.onTables, Cond.keeps, Cond.steady])) hini)
  obtain ⟨hx, hb, hml, ho, -⟩ := S
  obtain ⟨-, ⟨cellB, hcB, hoB, hclB⟩, hPc⟩ := hp
  intro T hT X
  obtain ⟨v, vm₁, ⟨U', l2, c2, s2⟩, hW₁, X', ⟨g', mk, t, L, e1, e2, hq, h1, hL, h2, h3⟩, st⟩ := vx_callVW X hx (C := C) (hh := hh) (bytes := bytes) (maxL := maxL) (ret := ret) ho hl hin hse hcode hy hK (by rw [hT]; exact hcB) hoB hclB hg (hsize.trans hml.symm) (argsL := As) (rest := rest) (fun sig h => hn.trans (hlen sig h)) hstack hW (by rw [hb]; exact hdg)
    (fun vm₁ hW₁ => ⟨hf.1, hf.2, hPc (T.setVm vm₁) hT hW₁⟩)
  dsimp only [Pt.U, Pt.locs, Pt.cells, Pt.slots] at X' e1 e2 h1 h2 h3 st
  subst h1; subst h2; subst h3
  exact ⟨v, (T.setVm vm₁).calling g' mk (Value.ref b :: As).toArray, t, U', L, hT, X', hL, e1, e2, hq, st⟩
section
variable {y : MethodName} {bytes cc : ByteArray} {maxL nL mc ms n index : Nat} {ret : Option FieldType} {ws : List Cond} {rm : Room} {Pc : Array Value → State → Prop} {Qc : Array Value → State → Outcome → State → Prop} {XC : String → State → State → Prop} {free : Addr → Prop} {Ts : List Cond} {own C : String} {b : Addr} {As rest : List Value} {g : JFrame}
theorem vx_runVX {hh : List (Nat × Nat × Nat × Nat)} (S : CallFix p m c cc nL s args Ts own) (hM : vx_Met l y ws rm Pc Qc XC mc ms free) (cw : vx_CVW R s args own C index y bytes maxL ret hh ws rm mc ms n) (hp : PreV s H C b Pc As)
    (hg : g.method = m) (hn : As.length = n) (hsize : g.locals.size = nL) (hstack : g.stack = As.reverse ++ .ref b :: rest) (hW : 2 * g.monitorRoom + (rest.map fun v => v.category).sum ≤ 8) (hdg : decode cc g.pc = .ok (.invokevirtual index, 3)) (hf : cells + mc ≤ R.cells ∧ slots + ms ≤ R.slots) :
    vx_Run p l e R s m args below meth c H locs cells slots mc ms g rest (Qc (Value.ref b :: As).toArray) XC free := by
  obtain ⟨⟨hrc, hrs, hfr, hlo, hws, hcw⟩, hcode, hini, hy, hlen, hl, hin, hse⟩ := cw
  have hK : vx_Back l R p e below s args y 3 8 (PreOf R mc ms Pc) (PostOf Qc mc ms free) (vx_Post XC mc ms free) := vx_backW (hh := hh) (bytes := bytes) (maxL := maxL) (ret := ret) hM hp.1 hrc hrs hfr hlo hws hcw (fun a' U hW => word_at hW (Or.inl (by first | rfl | simp [Cond.onTables, Cond.keeps, Cond.steady])) hini)
  obtain ⟨hx, hb, hml, ho, -⟩ := S
  obtain ⟨-, ⟨cellB, hcB, hoB, hclB⟩, hPc⟩ := hp
  intro T hT X
  rcases vx_callVX X hx (C := C) (hh := hh) (bytes := bytes) (maxL := maxL) (ret := ret) ho hl hin hse hcode hy hK (by rw [hT]; exact hcB) hoB hclB hg (hsize.trans hml.symm) (argsL := As) (rest := rest) (fun sig h => hn.trans (hlen sig h)) hstack hW (by rw [hb]; exact hdg)
    (fun vm₁ hW₁ => ⟨hf.1, hf.2, hPc (T.setVm vm₁) hT hW₁⟩) with ⟨v, vm₁, ⟨U', l2, c2, s2⟩, hW₁, X', ⟨g', mk, t, L, e1, e2, hq, h1, hL, h2, h3⟩, st⟩ | ⟨q, vm₁, ⟨U', l2, c2, s2⟩, hW₁, X', ⟨g', mk, t, L, E, ce, e1, e2, hq, hce, hcv, hcl, h1, hL, h2, h3⟩, st⟩
  · dsimp only [Pt.U, Pt.locs, Pt.cells, Pt.slots] at X' e1 e2 h1 h2 h3 st
    subst h1; subst h2; subst h3
    exact Or.inl ⟨v, (T.setVm vm₁).calling g' mk (Value.ref b :: As).toArray, t, U', L, hT, X', hL, e1, e2, hq, st⟩
  · dsimp only [Pt.U, Pt.locs, Pt.cells, Pt.slots] at X' e1 e2 h1 h2 h3 st hcl
    subst h1; subst h2; subst h3
    exact Or.inr ⟨q, (T.setVm vm₁).calling g' mk (Value.ref b :: As).toArray, t, U', L, E, ce, hT, X', hL, e1, e2, hq, hce, hcv, vx_cls hW₁ hcl, st⟩
theorem vx_runSX {hh : List (Nat × Nat × Nat × Nat)} (S : CallFix p m c cc nL s args Ts own) (hM : vx_Met l y ws rm Pc Qc XC mc ms free) (cw : vx_CSW R s args own index y bytes maxL ret hh ws rm mc ms n) (hp : PreS s H Pc As)
    (hg : g.method = m) (hn : As.length = n) (hsize : g.locals.size = nL) (hstack : g.stack = As.reverse ++ rest) (hW : 2 * g.monitorRoom + (rest.map fun v => v.category).sum ≤ 8) (hdg : decode cc g.pc = .ok (.invokestatic index, 3)) (hf : cells + mc ≤ R.cells ∧ slots + ms ≤ R.slots) :
    vx_Run p l e R s m args below meth c H locs cells slots mc ms g rest (Qc As.toArray) XC free := by
  obtain ⟨⟨hrc, hrs, hfr, hlo, hws, hcw⟩, hcode, hini, hy, hlen, hl, hstt⟩ := cw
  have hK : vx_Back l R p e below s args y 3 8 (PreOf R mc ms Pc) (PostOf Qc mc ms free) (vx_Post XC mc ms free) := vx_backW (hh := hh) (bytes := bytes) (maxL := maxL) (ret := ret) hM hp.1 hrc hrs hfr hlo hws hcw (fun a' U hW => word_at hW (Or.inl (by first | rfl | simp [Cond.onTables, Cond.keeps, Cond.steady])) hini)
  obtain ⟨hx, hb, hml, ho, -⟩ := S
  intro T hT X
  rcases vx_callSX X hx (hh := hh) (bytes := bytes) (maxL := maxL) (ret := ret) ho hl hstt hini hcode hy hK hg (hsize.trans hml.symm) (argsL := As) (rest := rest) (fun sig h => hn.trans (hlen sig h)) hstack hW (by rw [hb]; exact hdg)
    (fun vm₁ hW₁ => ⟨hf.1, hf.2, hp.2 (T.setVm vm₁) hT hW₁⟩) with ⟨v, vm₁, ⟨U', l2, c2, s2⟩, hW₁, X', ⟨g', mk, t, L, e1, e2, hq, h1, hL, h2, h3⟩, st⟩ | ⟨q, vm₁, ⟨U', l2, c2, s2⟩, hW₁, X', ⟨g', mk, t, L, E, ce, e1, e2, hq, hce, hcv, hcl, h1, hL, h2, h3⟩, st⟩
  · dsimp only [Pt.U, Pt.locs, Pt.cells, Pt.slots] at X' e1 e2 h1 h2 h3 st
    subst h1; subst h2; subst h3
    exact Or.inl ⟨v, (T.setVm vm₁).calling g' mk As.toArray, t, U', L, hT, X', hL, e1, e2, hq, st⟩
  · dsimp only [Pt.U, Pt.locs, Pt.cells, Pt.slots] at X' e1 e2 h1 h2 h3 st hcl
    subst h1; subst h2; subst h3
    exact Or.inr ⟨q, (T.setVm vm₁).calling g' mk As.toArray, t, U', L, E, ce, hT, X', hL, e1, e2, hq, hce, hcv, vx_cls hW₁ hcl, st⟩
end
end VXH
theorem vx_ofWH {l : Launch} {y : MethodName} {ws ws' : List Cond} {rm : Room} {Pc : Array Value → State → Prop} {Qc : Array Value → State → Outcome → State → Prop} {XC : String → State → State → Prop} {mc ms : Nat} {free : Addr → Prop} {cc : ByteArray} {maxL : Nat} {ret : Option FieldType} {hh : List (Nat × Nat × Nat × Nat)}
    (hy : plainName y.cls = true) (hw : ws = Cond.codeWith y cc maxL ret hh :: ws')
    (body : ∀ p e s m args below meth c s₁, BodyLoose p l y (headSpec ws rm) cc maxL ret e s m args below meth c s₁ → c.maxLocals = maxL → Pc args s →
      W p l e (headSpec ws rm).room s m args below meth c s.heap [] 0 0 (vx_MQ below Qc XC args s mc ms free) (entryFrame m args maxL)) : vx_Met l y ws rm Pc Qc XC mc ms free := by
  refine MetFree.of_bodyS (code := cc) (maxLocals := maxL) (ret := ret) hy ?_ ?_
  · intro args s m h hn
    obtain ⟨m9, meth, c, hn9, h1, h2, h3, h4, -, h5, h6, -⟩ := Cond.codeWith_spec (atoms_spec (ws := ws) h _ (by rw [hw]; exact List.mem_cons_self))
    cases hn.symm.trans hn9
    exact ⟨meth, c, h1, h2, h3, h4, h5, h6⟩
  · intro p e s m args below meth c s₁ B hml hP _
    have hh0 : s₁.heap = s.heap := by rw [B.state]; rfl
    obtain ⟨t, a1, o, b1, b2, b3⟩ := body p e s m args below meth c s₁ B hml hP s₁ hh0 (Stand.of_body B)
    exact ⟨t, o, a1, b1, b2, b3⟩
/-! ===== END ===== -/
end
section
/-! ===== BEGIN printed: names, fields, word lists, decode rows ===== -/
def RX0 : String := "LightDesk$CueList"
def TX0 : u_T := fun k => match k with
  | 0 => ("LightDesk$CueList", "delays", "[I", true)
  | 1 => ("LightDesk$CueList", "fades", "[I", true)
  | 2 => ("LightDesk$CueList", "follow", "[Z", true)
  | 3 => ("LightDesk$CueList", "levels", "[[I", true)
  | 4 => ("LightDesk$CueList", "from", "[I", true)
  | 5 => ("LightDesk$CueList", "to", "[I", true)
  | 6 => ("LightDesk$CueList", "cues", "I", false)
  | 7 => ("LightDesk$CueList", "begun", "I", false)
  | _ => ("LightDesk$CueList", "elapsed", "I", false)
def tyX0 : Nat → FieldType := fun k => match k with
  | 0 => .array .int
  | 1 => .array .int
  | 2 => .array .boolean
  | 3 => .array (.array .int)
  | 4 => .array .int
  | 5 => .array .int
  | 6 => .int
  | 7 => .int
  | _ => .int
abbrev wsX00 : List Cond := u_ws RX0 TX0 9
theorem nmX0 : ∀ a, a < 9 → ∀ b, b < 9 → a ≠ b → (TX0 a).2.1 ≠ (TX0 b).2.1 := by decide +kernel
theorem tyX0_ok : ∀ k, k < 9 → parseFieldDescriptor (TX0 k).2.2.1 = some (tyX0 k) := by decide +kernel
abbrev cX0_init : ByteArray := prog_2_method_1_code
def yX0_init : MethodName := ⟨RX0, "<init>", "()V"⟩
abbrev cX0_size : ByteArray := prog_2_method_2_code
def yX0_size : MethodName := ⟨RX0, "size", "()I"⟩
abbrev cX0_isFull : ByteArray := prog_2_method_3_code
def yX0_isFull : MethodName := ⟨RX0, "isFull", "()Z"⟩
abbrev cX0_has : ByteArray := prog_2_method_4_code
def yX0_has : MethodName := ⟨RX0, "has", "(I)Z"⟩
abbrev cX0_add : ByteArray := prog_2_method_5_code
def yX0_add : MethodName := ⟨RX0, "add", "(IIZ)I"⟩
abbrev cX0_told : ByteArray := prog_2_method_6_code
def yX0_told : MethodName := ⟨RX0, "told", "(II)I"⟩
abbrev cX0_toldOrZero : ByteArray := prog_2_method_7_code
def yX0_toldOrZero : MethodName := ⟨RX0, "toldOrZero", "(II)I"⟩
abbrev cX0_tell : ByteArray := prog_2_method_8_code
def yX0_tell : MethodName := ⟨RX0, "tell", "(III)V"⟩
abbrev cX0_countTold : ByteArray := prog_2_method_9_code
def yX0_countTold : MethodName := ⟨RX0, "countTold", "(I)I"⟩
abbrev cX0_begunLast : ByteArray := prog_2_method_10_code
def yX0_begunLast : MethodName := ⟨RX0, "begunLast", "()I"⟩
abbrev cX0_begin : ByteArray := prog_2_method_11_code
def yX0_begin : MethodName := ⟨RX0, "begin", "(I)V"⟩
abbrev cX0_levelNow : ByteArray := prog_2_method_12_code
def yX0_levelNow : MethodName := ⟨RX0, "levelNow", "(I)I"⟩
abbrev cX0_isOver : ByteArray := prog_2_method_13_code
def yX0_isOver : MethodName := ⟨RX0, "isOver", "()Z"⟩
abbrev cX0_endsInNextTenth : ByteArray := prog_2_method_14_code
def yX0_endsInNextTenth : MethodName := ⟨RX0, "endsInNextTenth", "()Z"⟩
abbrev cX0_follower : ByteArray := prog_2_method_15_code
def yX0_follower : MethodName := ⟨RX0, "follower", "()I"⟩
def RX1 : String := "LightDesk$History"
def TX1 : u_T := fun k => match k with
  | 0 => ("LightDesk$History", "changes", "[[I", true)
  | 1 => ("LightDesk$History", "next", "I", false)
  | _ => ("LightDesk$History", "size", "I", false)
def tyX1 : Nat → FieldType := fun k => match k with
  | 0 => .array (.array .int)
  | 1 => .int
  | _ => .int
abbrev wsX10 : List Cond := u_ws RX1 TX1 3
theorem nmX1 : ∀ a, a < 3 → ∀ b, b < 3 → a ≠ b → (TX1 a).2.1 ≠ (TX1 b).2.1 := by decide +kernel
theorem tyX1_ok : ∀ k, k < 3 → parseFieldDescriptor (TX1 k).2.2.1 = some (tyX1 k) := by decide +kernel
abbrev cX1_init : ByteArray := prog_3_method_1_code
def yX1_init : MethodName := ⟨RX1, "<init>", "()V"⟩
abbrev cX1_isEmpty : ByteArray := prog_3_method_2_code
def yX1_isEmpty : MethodName := ⟨RX1, "isEmpty", "()Z"⟩
abbrev cX1_size : ByteArray := prog_3_method_3_code
def yX1_size : MethodName := ⟨RX1, "size", "()I"⟩
abbrev cX1_note : ByteArray := prog_3_method_4_code
def yX1_note : MethodName := ⟨RX1, "note", "(IIIII)V"⟩
abbrev cX1_lastPart : ByteArray := prog_3_method_5_code
def yX1_lastPart : MethodName := ⟨RX1, "lastPart", "(I)I"⟩
abbrev cX1_dropLast : ByteArray := prog_3_method_6_code
def yX1_dropLast : MethodName := ⟨RX1, "dropLast", "()V"⟩
abbrev cX1_lastRow : ByteArray := prog_3_method_7_code
def yX1_lastRow : MethodName := ⟨RX1, "lastRow", "()I"⟩
abbrev cX1_put : ByteArray := prog_3_method_8_code
def yX1_put : MethodName := ⟨RX1, "put", "(II)V"⟩
abbrev cX1_isPlace : ByteArray := prog_3_method_9_code
def yX1_isPlace : MethodName := ⟨RX1, "isPlace", "(II)Z"⟩
def RX2 : String := "LightDesk$Rigs"
def TX2 : u_T := fun k => match k with
  | 0 => ("LightDesk$Rigs", "powers", "[I", true)
  | 1 => ("LightDesk$Rigs", "gels", "[I", true)
  | 2 => ("LightDesk$Rigs", "channels", "[[I", true)
  | _ => ("LightDesk$Rigs", "lamps", "I", false)
def tyX2 : Nat → FieldType := fun k => match k with
  | 0 => .array .int
  | 1 => .array .int
  | 2 => .array (.array .int)
  | _ => .int
abbrev wsX20 : List Cond := u_ws RX2 TX2 4
theorem nmX2 : ∀ a, a < 4 → ∀ b, b < 4 → a ≠ b → (TX2 a).2.1 ≠ (TX2 b).2.1 := by decide +kernel
theorem tyX2_ok : ∀ k, k < 4 → parseFieldDescriptor (TX2 k).2.2.1 = some (tyX2 k) := by decide +kernel
abbrev cX2_init : ByteArray := prog_4_method_1_code
def yX2_init : MethodName := ⟨RX2, "<init>", "()V"⟩
abbrev cX2_isFull : ByteArray := prog_4_method_2_code
def yX2_isFull : MethodName := ⟨RX2, "isFull", "()Z"⟩
abbrev cX2_has : ByteArray := prog_4_method_3_code
def yX2_has : MethodName := ⟨RX2, "has", "(I)Z"⟩
abbrev cX2_add : ByteArray := prog_4_method_4_code
def yX2_add : MethodName := ⟨RX2, "add", "(II)I"⟩
abbrev cX2_powerOf : ByteArray := prog_4_method_5_code
def yX2_powerOf : MethodName := ⟨RX2, "powerOf", "(I)I"⟩
abbrev cX2_gelOf : ByteArray := prog_4_method_6_code
def yX2_gelOf : MethodName := ⟨RX2, "gelOf", "(I)I"⟩
abbrev cX2_setKind : ByteArray := prog_4_method_7_code
def yX2_setKind : MethodName := ⟨RX2, "setKind", "(III)V"⟩
abbrev cX2_channelOf : ByteArray := prog_4_method_8_code
def yX2_channelOf : MethodName := ⟨RX2, "channelOf", "(II)I"⟩
abbrev cX2_setChannel : ByteArray := prog_4_method_9_code
def yX2_setChannel : MethodName := ⟨RX2, "setChannel", "(III)V"⟩
abbrev cX2_shineOn : ByteArray := prog_4_method_10_code
def yX2_shineOn : MethodName := ⟨RX2, "shineOn", "(III)I"⟩
abbrev cX2_shine : ByteArray := prog_4_method_11_code
def yX2_shine : MethodName := ⟨RX2, "shine", "(II)I"⟩
abbrev cX2_shineOfKind : ByteArray := prog_4_method_12_code
def yX2_shineOfKind : MethodName := ⟨RX2, "shineOfKind", "(III)I"⟩
def RX3 : String := "LightDesk"
def TX3 : u_T := fun k => match k with
  | 0 => ("LightDesk", "rigs", "LLightDesk$Rigs;", true)
  | 1 => ("LightDesk", "list0", "LLightDesk$CueList;", true)
  | 2 => ("LightDesk", "list1", "LLightDesk$CueList;", true)
  | 3 => ("LightDesk", "history", "LLightDesk$History;", true)
  | 4 => ("LightDesk", "latestCounts", "[Z", true)
  | 5 => ("LightDesk", "latestList", "[I", true)
  | _ => ("LightDesk", "presentNight", "I", false)
def tyX3 : Nat → FieldType := fun k => match k with
  | 0 => .object "LightDesk$Rigs"
  | 1 => .object "LightDesk$CueList"
  | 2 => .object "LightDesk$CueList"
  | 3 => .object "LightDesk$History"
  | 4 => .array .boolean
  | 5 => .array .int
  | _ => .int
abbrev wsX30 : List Cond := u_ws RX3 TX3 7
theorem nmX3 : ∀ a, a < 7 → ∀ b, b < 7 → a ≠ b → (TX3 a).2.1 ≠ (TX3 b).2.1 := by decide +kernel
theorem tyX3_ok : ∀ k, k < 7 → parseFieldDescriptor (TX3 k).2.2.1 = some (tyX3 k) := by decide +kernel
abbrev cX3_init : ByteArray := prog_1_method_1_code
def yX3_init : MethodName := ⟨RX3, "<init>", "()V"⟩
abbrev cX3_addLamp : ByteArray := prog_1_method_2_code
def yX3_addLamp : MethodName := ⟨RX3, "addLamp", "(II)I"⟩
abbrev cX3_swap : ByteArray := prog_1_method_3_code
def yX3_swap : MethodName := ⟨RX3, "swap", "(III)V"⟩
abbrev cX3_hang : ByteArray := prog_1_method_4_code
def yX3_hang : MethodName := ⟨RX3, "hang", "(III)I"⟩
abbrev cX3_setNight : ByteArray := prog_1_method_5_code
def yX3_setNight : MethodName := ⟨RX3, "setNight", "(I)I"⟩
abbrev cX3_setLatest : ByteArray := prog_1_method_6_code
def yX3_setLatest : MethodName := ⟨RX3, "setLatest", "(IZ)Z"⟩
abbrev cX3_addCue : ByteArray := prog_1_method_7_code
def yX3_addCue : MethodName := ⟨RX3, "addCue", "(IIIZ)I"⟩
abbrev cX3_setLevel : ByteArray := prog_1_method_8_code
def yX3_setLevel : MethodName := ⟨RX3, "setLevel", "(IIII)I"⟩
abbrev cX3_undo : ByteArray := prog_1_method_9_code
def yX3_undo : MethodName := ⟨RX3, "undo", "()I"⟩
abbrev cX3_go : ByteArray := prog_1_method_10_code
def yX3_go : MethodName := ⟨RX3, "go", "(II)I"⟩
abbrev cX3_pass : ByteArray := prog_1_method_11_code
def yX3_pass : MethodName := ⟨RX3, "pass", "(I)I"⟩
abbrev cX3_running : ByteArray := prog_1_method_12_code
def yX3_running : MethodName := ⟨RX3, "running", "(I)I"⟩
abbrev cX3_level : ByteArray := prog_1_method_13_code
def yX3_level : MethodName := ⟨RX3, "level", "(II)I"⟩
abbrev cX3_merged : ByteArray := prog_1_method_14_code
def yX3_merged : MethodName := ⟨RX3, "merged", "(I)I"⟩
abbrev cX3_light : ByteArray := prog_1_method_15_code
def yX3_light : MethodName := ⟨RX3, "light", "(I)I"⟩
abbrev cX3_allLight : ByteArray := prog_1_method_16_code
def yX3_allLight : MethodName := ⟨RX3, "allLight", "()I"⟩
abbrev cX3_preview : ByteArray := prog_1_method_17_code
def yX3_preview : MethodName := ⟨RX3, "preview", "(III)I"⟩
abbrev cX3_touched : ByteArray := prog_1_method_18_code
def yX3_touched : MethodName := ⟨RX3, "touched", "(IIII)I"⟩
abbrev cX3_countTouched : ByteArray := prog_1_method_19_code
def yX3_countTouched : MethodName := ⟨RX3, "countTouched", "(LLightDesk$CueList;IIII)I"⟩
abbrev cX3_mergedNow : ByteArray := prog_1_method_20_code
def yX3_mergedNow : MethodName := ⟨RX3, "mergedNow", "(I)I"⟩
abbrev cX3_beginFrom : ByteArray := prog_1_method_21_code
def yX3_beginFrom : MethodName := ⟨RX3, "beginFrom", "(II)I"⟩
abbrev cX3_noteLatest : ByteArray := prog_1_method_22_code
def yX3_noteLatest : MethodName := ⟨RX3, "noteLatest", "(II)V"⟩
abbrev cX3_passTenth : ByteArray := prog_1_method_23_code
def yX3_passTenth : MethodName := ⟨RX3, "passTenth", "(I)I"⟩
abbrev cX3_takeBackLast : ByteArray := prog_1_method_24_code
def yX3_takeBackLast : MethodName := ⟨RX3, "takeBackLast", "()V"⟩
abbrev cX3_cuesOf : ByteArray := prog_1_method_25_code
def yX3_cuesOf : MethodName := ⟨RX3, "cuesOf", "(I)LLightDesk$CueList;"⟩
abbrev cX3_needLamp : ByteArray := prog_1_method_26_code
def yX3_needLamp : MethodName := ⟨RX3, "needLamp", "(I)V"⟩
abbrev cX3_needCue : ByteArray := prog_1_method_27_code
def yX3_needCue : MethodName := ⟨RX3, "needCue", "(II)V"⟩
abbrev cX3_needLampKind : ByteArray := prog_1_method_28_code
def yX3_needLampKind : MethodName := ⟨RX3, "needLampKind", "(II)V"⟩
abbrev cX3_isNight : ByteArray := prog_1_method_29_code
def yX3_isNight : MethodName := ⟨RX3, "isNight", "(I)Z"⟩
abbrev cX3_isChannel : ByteArray := prog_1_method_30_code
def yX3_isChannel : MethodName := ⟨RX3, "isChannel", "(I)Z"⟩
abbrev cX3_needNight : ByteArray := prog_1_method_31_code
def yX3_needNight : MethodName := ⟨RX3, "needNight", "(I)V"⟩
abbrev cX3_needChannel : ByteArray := prog_1_method_32_code
def yX3_needChannel : MethodName := ⟨RX3, "needChannel", "(I)V"⟩
abbrev cX3_needChannelOrNone : ByteArray := prog_1_method_33_code
def yX3_needChannelOrNone : MethodName := ⟨RX3, "needChannelOrNone", "(I)V"⟩
abbrev cX3_needList : ByteArray := prog_1_method_34_code
def yX3_needList : MethodName := ⟨RX3, "needList", "(I)V"⟩
abbrev cX3_needTenths : ByteArray := prog_1_method_35_code
def yX3_needTenths : MethodName := ⟨RX3, "needTenths", "(I)V"⟩
abbrev cX3_needLevelOrNone : ByteArray := prog_1_method_36_code
def yX3_needLevelOrNone : MethodName := ⟨RX3, "needLevelOrNone", "(I)V"⟩
def RX4 : String := "LightDeskModel"
def TX4 : u_T := fun k => match k with
  | 0 => ("LightDeskModel", "lamps", "I", false)
  | 1 => ("LightDeskModel", "powers", "[I", true)
  | 2 => ("LightDeskModel", "gels", "[I", true)
  | 3 => ("LightDeskModel", "hung", "[I", true)
  | 4 => ("LightDeskModel", "night", "I", false)
  | 5 => ("LightDeskModel", "latest", "[I", true)
  | 6 => ("LightDeskModel", "last", "[I", true)
  | 7 => ("LightDeskModel", "cues", "[I", true)
  | 8 => ("LightDeskModel", "delays", "[I", true)
  | 9 => ("LightDeskModel", "fades", "[I", true)
  | 10 => ("LightDeskModel", "follow", "[I", true)
  | 11 => ("LightDeskModel", "levels", "[I", true)
  | 12 => ("LightDeskModel", "time", "I", false)
  | 13 => ("LightDeskModel", "runs", "[I", true)
  | 14 => ("LightDeskModel", "since", "[I", true)
  | 15 => ("LightDeskModel", "old", "[I", true)
  | 16 => ("LightDeskModel", "goals", "[I", true)
  | 17 => ("LightDeskModel", "changes", "I", false)
  | 18 => ("LightDeskModel", "sorts", "[I", true)
  | 19 => ("LightDeskModel", "places", "[I", true)
  | 20 => ("LightDeskModel", "values", "[I", true)
  | 21 => ("LightDeskModel", "others", "[I", true)
  | _ => ("LightDeskModel", "thrown", "I", false)
def tyX4 : Nat → FieldType := fun k => match k with
  | 0 => .int
  | 1 => .array .int
  | 2 => .array .int
  | 3 => .array .int
  | 4 => .int
  | 5 => .array .int
  | 6 => .array .int
  | 7 => .array .int
  | 8 => .array .int
  | 9 => .array .int
  | 10 => .array .int
  | 11 => .array .int
  | 12 => .int
  | 13 => .array .int
  | 14 => .array .int
  | 15 => .array .int
  | 16 => .array .int
  | 17 => .int
  | 18 => .array .int
  | 19 => .array .int
  | 20 => .array .int
  | 21 => .array .int
  | _ => .int
abbrev wsX40 : List Cond := u_ws RX4 TX4 23
theorem nmX4 : ∀ a, a < 23 → ∀ b, b < 23 → a ≠ b → (TX4 a).2.1 ≠ (TX4 b).2.1 := by decide +kernel
theorem tyX4_ok : ∀ k, k < 23 → parseFieldDescriptor (TX4 k).2.2.1 = some (tyX4 k) := by decide +kernel
abbrev cX4_init : ByteArray := prog_6_method_1_code
def yX4_init : MethodName := ⟨RX4, "<init>", "()V"⟩
abbrev cX4_thrown : ByteArray := prog_6_method_2_code
def yX4_thrown : MethodName := ⟨RX4, "thrown", "()I"⟩
abbrev cX4_fails : ByteArray := prog_6_method_3_code
def yX4_fails : MethodName := ⟨RX4, "fails", "(I)I"⟩
abbrev cX4_in : ByteArray := prog_6_method_4_code
def yX4_in : MethodName := ⟨RX4, "in", "(III)Z"⟩
abbrev cX4_isList : ByteArray := prog_6_method_5_code
def yX4_isList : MethodName := ⟨RX4, "isList", "(I)Z"⟩
abbrev cX4_isChannel : ByteArray := prog_6_method_6_code
def yX4_isChannel : MethodName := ⟨RX4, "isChannel", "(I)Z"⟩
abbrev cX4_isNight : ByteArray := prog_6_method_7_code
def yX4_isNight : MethodName := ⟨RX4, "isNight", "(I)Z"⟩
abbrev cX4_isMade : ByteArray := prog_6_method_8_code
def yX4_isMade : MethodName := ⟨RX4, "isMade", "(II)Z"⟩
abbrev cX4_isLamp : ByteArray := prog_6_method_9_code
def yX4_isLamp : MethodName := ⟨RX4, "isLamp", "(I)Z"⟩
abbrev cX4_keeps : ByteArray := prog_6_method_10_code
def yX4_keeps : MethodName := ⟨RX4, "keeps", "(IIII)V"⟩
abbrev cX4_undo : ByteArray := prog_6_method_11_code
def yX4_undo : MethodName := ⟨RX4, "undo", "()I"⟩
abbrev cX4_addLamp : ByteArray := prog_6_method_12_code
def yX4_addLamp : MethodName := ⟨RX4, "addLamp", "(II)I"⟩
abbrev cX4_swap : ByteArray := prog_6_method_13_code
def yX4_swap : MethodName := ⟨RX4, "swap", "(III)V"⟩
abbrev cX4_hang : ByteArray := prog_6_method_14_code
def yX4_hang : MethodName := ⟨RX4, "hang", "(III)I"⟩
abbrev cX4_setNight : ByteArray := prog_6_method_15_code
def yX4_setNight : MethodName := ⟨RX4, "setNight", "(I)I"⟩
abbrev cX4_setLatest : ByteArray := prog_6_method_16_code
def yX4_setLatest : MethodName := ⟨RX4, "setLatest", "(IZ)Z"⟩
abbrev cX4_addCue : ByteArray := prog_6_method_17_code
def yX4_addCue : MethodName := ⟨RX4, "addCue", "(IIIZ)I"⟩
abbrev cX4_setLevel : ByteArray := prog_6_method_18_code
def yX4_setLevel : MethodName := ⟨RX4, "setLevel", "(IIII)I"⟩
abbrev cX4_levelOf : ByteArray := prog_6_method_19_code
def yX4_levelOf : MethodName := ⟨RX4, "levelOf", "(II)I"⟩
abbrev cX4_begins : ByteArray := prog_6_method_20_code
def yX4_begins : MethodName := ⟨RX4, "begins", "(II)V"⟩
abbrev cX4_looks : ByteArray := prog_6_method_21_code
def yX4_looks : MethodName := ⟨RX4, "looks", "(I)I"⟩
abbrev cX4_go : ByteArray := prog_6_method_22_code
def yX4_go : MethodName := ⟨RX4, "go", "(II)I"⟩
abbrev cX4_pass : ByteArray := prog_6_method_23_code
def yX4_pass : MethodName := ⟨RX4, "pass", "(I)I"⟩
abbrev cX4_running : ByteArray := prog_6_method_24_code
def yX4_running : MethodName := ⟨RX4, "running", "(I)I"⟩
abbrev cX4_level : ByteArray := prog_6_method_25_code
def yX4_level : MethodName := ⟨RX4, "level", "(II)I"⟩
abbrev cX4_mergedOf : ByteArray := prog_6_method_26_code
def yX4_mergedOf : MethodName := ⟨RX4, "mergedOf", "(I)I"⟩
abbrev cX4_merged : ByteArray := prog_6_method_27_code
def yX4_merged : MethodName := ⟨RX4, "merged", "(I)I"⟩
abbrev cX4_through : ByteArray := prog_6_method_28_code
def yX4_through : MethodName := ⟨RX4, "through", "(III)I"⟩
abbrev cX4_lightOf : ByteArray := prog_6_method_29_code
def yX4_lightOf : MethodName := ⟨RX4, "lightOf", "(III)I"⟩
abbrev cX4_light : ByteArray := prog_6_method_30_code
def yX4_light : MethodName := ⟨RX4, "light", "(I)I"⟩
abbrev cX4_allLight : ByteArray := prog_6_method_31_code
def yX4_allLight : MethodName := ⟨RX4, "allLight", "()I"⟩
abbrev cX4_shown : ByteArray := prog_6_method_32_code
def yX4_shown : MethodName := ⟨RX4, "shown", "(III)I"⟩
abbrev cX4_preview : ByteArray := prog_6_method_33_code
def yX4_preview : MethodName := ⟨RX4, "preview", "(III)I"⟩
abbrev cX4_touched : ByteArray := prog_6_method_34_code
def yX4_touched : MethodName := ⟨RX4, "touched", "(IIII)I"⟩
def RJx145de : String := "java/io/Serializable"
def TJx145de : u_T := fun k => match k with
  | _ => ("", "", "", false)
def tyJx145de : Nat → FieldType := fun k => match k with
  | _ => .int
abbrev wsJx145de0 : List Cond := u_ws RJx145de TJx145de 0
theorem nmJx145de : ∀ a, a < 0 → ∀ b, b < 0 → a ≠ b → (TJx145de a).2.1 ≠ (TJx145de b).2.1 := by decide +kernel
theorem tyJx145de_ok : ∀ k, k < 0 → parseFieldDescriptor (TJx145de k).2.2.1 = some (tyJx145de k) := by decide +kernel
def RJ9 : String := "java/lang/Math"
def TJ9 : u_T := fun k => match k with
  | _ => ("", "", "", false)
def tyJ9 : Nat → FieldType := fun k => match k with
  | _ => .int
abbrev wsJ90 : List Cond := u_ws RJ9 TJ9 0
theorem nmJ9 : ∀ a, a < 0 → ∀ b, b < 0 → a ≠ b → (TJ9 a).2.1 ≠ (TJ9 b).2.1 := by decide +kernel
theorem tyJ9_ok : ∀ k, k < 0 → parseFieldDescriptor (TJ9 k).2.2.1 = some (tyJ9 k) := by decide +kernel
abbrev cJ9_max_7cf53 : ByteArray := prog_11_method_65_code
def yJ9_max_7cf53 : MethodName := ⟨RJ9, "max", "(II)I"⟩
abbrev cJ9_min_7cf53 : ByteArray := prog_11_method_69_code
def yJ9_min_7cf53 : MethodName := ⟨RJ9, "min", "(II)I"⟩
def RJ0 : String := "java/lang/String"
def TJ0 : u_T := fun k => match k with
  | _ => ("", "", "", false)
def tyJ0 : Nat → FieldType := fun k => match k with
  | _ => .int
abbrev wsJ00 : List Cond := u_ws RJ0 TJ0 0
theorem nmJ0 : ∀ a, a < 0 → ∀ b, b < 0 → a ≠ b → (TJ0 a).2.1 ≠ (TJ0 b).2.1 := by decide +kernel
theorem tyJ0_ok : ∀ k, k < 0 → parseFieldDescriptor (TJ0 k).2.2.1 = some (tyJ0 k) := by decide +kernel
def RJ7 : String := "java/util/Arrays"
def TJ7 : u_T := fun k => match k with
  | _ => ("", "", "", false)
def tyJ7 : Nat → FieldType := fun k => match k with
  | _ => .int
abbrev wsJ70 : List Cond := u_ws RJ7 TJ7 0
theorem nmJ7 : ∀ a, a < 0 → ∀ b, b < 0 → a ≠ b → (TJ7 a).2.1 ≠ (TJ7 b).2.1 := by decide +kernel
theorem tyJ7_ok : ∀ k, k < 0 → parseFieldDescriptor (TJ7 k).2.2.1 = some (tyJ7 k) := by decide +kernel
abbrev cJ7_fill_53178 : ByteArray := prog_15_method_103_code
def yJ7_fill_53178 : MethodName := ⟨RJ7, "fill", "([II)V"⟩
def RL : String := "LightDeskLaw"
abbrev cL_addLamp : ByteArray := method_3_code
def yL_addLamp : MethodName := ⟨RL, "addLamp", "(LLightDesk;II[J)I"⟩
abbrev cL_swap : ByteArray := method_4_code
def yL_swap : MethodName := ⟨RL, "swap", "(LLightDesk;III)I"⟩
abbrev cL_hang : ByteArray := method_5_code
def yL_hang : MethodName := ⟨RL, "hang", "(LLightDesk;III[J)I"⟩
abbrev cL_setNight : ByteArray := method_6_code
def yL_setNight : MethodName := ⟨RL, "setNight", "(LLightDesk;I[J)I"⟩
abbrev cL_setLatest : ByteArray := method_7_code
def yL_setLatest : MethodName := ⟨RL, "setLatest", "(LLightDesk;IZ[J)I"⟩
abbrev cL_addCue : ByteArray := method_8_code
def yL_addCue : MethodName := ⟨RL, "addCue", "(LLightDesk;IIIZ[J)I"⟩
abbrev cL_setLevel : ByteArray := method_9_code
def yL_setLevel : MethodName := ⟨RL, "setLevel", "(LLightDesk;IIII[J)I"⟩
abbrev cL_undo : ByteArray := method_10_code
def yL_undo : MethodName := ⟨RL, "undo", "(LLightDesk;[J)I"⟩
abbrev cL_go : ByteArray := method_11_code
def yL_go : MethodName := ⟨RL, "go", "(LLightDesk;II[J)I"⟩
abbrev cL_pass : ByteArray := method_12_code
def yL_pass : MethodName := ⟨RL, "pass", "(LLightDesk;I[J)I"⟩
abbrev cL_running : ByteArray := method_13_code
def yL_running : MethodName := ⟨RL, "running", "(LLightDesk;I[J)I"⟩
abbrev cL_level : ByteArray := method_14_code
def yL_level : MethodName := ⟨RL, "level", "(LLightDesk;II[J)I"⟩
abbrev cL_merged : ByteArray := method_15_code
def yL_merged : MethodName := ⟨RL, "merged", "(LLightDesk;I[J)I"⟩
abbrev cL_light : ByteArray := method_16_code
def yL_light : MethodName := ⟨RL, "light", "(LLightDesk;I[J)I"⟩
abbrev cL_preview : ByteArray := method_17_code
def yL_preview : MethodName := ⟨RL, "preview", "(LLightDesk;III[J)I"⟩
abbrev cL_touched : ByteArray := method_18_code
def yL_touched : MethodName := ⟨RL, "touched", "(LLightDesk;IIII[J)I"⟩
abbrev cL_law : ByteArray := code
def yL_law : MethodName := ⟨RL, "law", "([I)Z"⟩
def wsJ7_fill_53178 : List Cond := .code yJ7_fill_53178 cJ7_fill_53178 4 none :: ([])
def wsX0_init : List Cond := .code yX0_init cX0_init 2 none :: ([.methodLink RX0 3 objectInit, .instanceMethod objectInit, .code objectInit ⟨#[0xb1]⟩ 1 none, .arrayClass .int, .fieldLink RX0 9 "LightDesk$CueList" "delays" "[I", .fieldLink RX0 15 "LightDesk$CueList" "fades" "[I", .arrayClass .boolean, .fieldLink RX0 18 "LightDesk$CueList" "follow" "[Z", .classLink RX0 22 "[[I", .fieldLink RX0 24 "LightDesk$CueList" "levels" "[[I", .fieldLink RX0 27 "LightDesk$CueList" "from" "[I", .fieldLink RX0 30 "LightDesk$CueList" "to" "[I", .fieldLink RX0 33 "LightDesk$CueList" "begun" "I", .methodLink RX0 37 yJ7_fill_53178, .static yJ7_fill_53178, .initialized RJ7, .code yJ7_fill_53178 cJ7_fill_53178 4 none] ++ wsX00)
def wsX0_size : List Cond := .code yX0_size cX0_size 1 (some .int) :: ([.fieldLink RX0 43 "LightDesk$CueList" "cues" "I"] ++ wsX00)
def wsX0_isFull : List Cond := .code yX0_isFull cX0_isFull 1 (some .boolean) :: ([.fieldLink RX0 43 "LightDesk$CueList" "cues" "I"] ++ wsX00)
def wsX0_has : List Cond := .code yX0_has cX0_has 2 (some .boolean) :: ([.fieldLink RX0 43 "LightDesk$CueList" "cues" "I"] ++ wsX00)
def wsX0_add : List Cond := .code yX0_add cX0_add 5 (some .int) :: ([.fieldLink RX0 43 "LightDesk$CueList" "cues" "I", .fieldLink RX0 9 "LightDesk$CueList" "delays" "[I", .fieldLink RX0 15 "LightDesk$CueList" "fades" "[I", .fieldLink RX0 18 "LightDesk$CueList" "follow" "[Z"] ++ wsX00)
def wsX3_isChannel : List Cond := .code yX3_isChannel cX3_isChannel 1 (some .boolean) :: ([])
def wsX0_told : List Cond := .code yX0_told cX0_told 3 (some .int) :: ([.fieldLink RX0 24 "LightDesk$CueList" "levels" "[[I", .methodLink RX0 46 yX0_has, .instanceMethod yX0_has, .selects RX0 yX0_has yX0_has, .initialized RX0, .code yX0_has cX0_has 2 (some .boolean), .fieldLink RX0 43 "LightDesk$CueList" "cues" "I", .static yX3_isChannel, .initialized RX3, .code yX3_isChannel cX3_isChannel 1 (some .boolean)] ++ wsX00)
def wsX0_toldOrZero : List Cond := .code yX0_toldOrZero cX0_toldOrZero 3 (some .int) :: ([.methodLink RX0 57 Lib.Math.max.name, .static Lib.Math.max.name, .initialized "java/lang/Math", .code Lib.Math.max.name Lib.Math.max.code 2 (some .int), .methodLink RX0 53 yX0_told, .instanceMethod yX0_told, .selects RX0 yX0_told yX0_told, .initialized RX0, .code yX0_told cX0_told 3 (some .int), .fieldLink RX0 24 "LightDesk$CueList" "levels" "[[I", .methodLink RX0 46 yX0_has, .instanceMethod yX0_has, .selects RX0 yX0_has yX0_has, .code yX0_has cX0_has 2 (some .boolean), .fieldLink RX0 43 "LightDesk$CueList" "cues" "I", .static yX3_isChannel, .initialized RX3, .code yX3_isChannel cX3_isChannel 1 (some .boolean)] ++ wsX00)
def wsX0_tell : List Cond := .code yX0_tell cX0_tell 4 none :: ([.fieldLink RX0 24 "LightDesk$CueList" "levels" "[[I", .methodLink RX0 46 yX0_has, .instanceMethod yX0_has, .selects RX0 yX0_has yX0_has, .initialized RX0, .code yX0_has cX0_has 2 (some .boolean), .fieldLink RX0 43 "LightDesk$CueList" "cues" "I", .static yX3_isChannel, .initialized RX3, .code yX3_isChannel cX3_isChannel 1 (some .boolean)] ++ wsX00)
def wsX0_countTold : List Cond := .code yX0_countTold cX0_countTold 4 (some .int) :: ([.methodLink RX0 53 yX0_told, .instanceMethod yX0_told, .selects RX0 yX0_told yX0_told, .initialized RX0, .code yX0_told cX0_told 3 (some .int), .fieldLink RX0 24 "LightDesk$CueList" "levels" "[[I", .methodLink RX0 46 yX0_has, .instanceMethod yX0_has, .selects RX0 yX0_has yX0_has, .code yX0_has cX0_has 2 (some .boolean), .fieldLink RX0 43 "LightDesk$CueList" "cues" "I", .static yX3_isChannel, .initialized RX3, .code yX3_isChannel cX3_isChannel 1 (some .boolean)] ++ wsX00)
def wsX0_begunLast : List Cond := .code yX0_begunLast cX0_begunLast 1 (some .int) :: ([.fieldLink RX0 33 "LightDesk$CueList" "begun" "I"] ++ wsX00)
def wsX0_levelNow : List Cond := .code yX0_levelNow cX0_levelNow 4 (some .int) :: ([.fieldLink RX0 33 "LightDesk$CueList" "begun" "I", .fieldLink RX0 15 "LightDesk$CueList" "fades" "[I", .fieldLink RX0 66 "LightDesk$CueList" "elapsed" "I", .fieldLink RX0 9 "LightDesk$CueList" "delays" "[I", .fieldLink RX0 27 "LightDesk$CueList" "from" "[I", .fieldLink RX0 30 "LightDesk$CueList" "to" "[I", .methodLink RX0 46 yX0_has, .instanceMethod yX0_has, .selects RX0 yX0_has yX0_has, .initialized RX0, .code yX0_has cX0_has 2 (some .boolean), .fieldLink RX0 43 "LightDesk$CueList" "cues" "I", .static yX3_isChannel, .initialized RX3, .code yX3_isChannel cX3_isChannel 1 (some .boolean)] ++ wsX00)
def wsX0_begin : List Cond := .code yX0_begin cX0_begin 5 none :: ([.fieldLink RX0 27 "LightDesk$CueList" "from" "[I", .fieldLink RX0 30 "LightDesk$CueList" "to" "[I", .fieldLink RX0 33 "LightDesk$CueList" "begun" "I", .fieldLink RX0 66 "LightDesk$CueList" "elapsed" "I", .methodLink RX0 62 yX0_levelNow, .instanceMethod yX0_levelNow, .selects RX0 yX0_levelNow yX0_levelNow, .initialized RX0, .code yX0_levelNow cX0_levelNow 4 (some .int), .fieldLink RX0 15 "LightDesk$CueList" "fades" "[I", .fieldLink RX0 9 "LightDesk$CueList" "delays" "[I", .methodLink RX0 46 yX0_has, .instanceMethod yX0_has, .selects RX0 yX0_has yX0_has, .code yX0_has cX0_has 2 (some .boolean), .fieldLink RX0 43 "LightDesk$CueList" "cues" "I", .static yX3_isChannel, .initialized RX3, .code yX3_isChannel cX3_isChannel 1 (some .boolean), .methodLink RX0 53 yX0_told, .instanceMethod yX0_told, .selects RX0 yX0_told yX0_told, .code yX0_told cX0_told 3 (some .int), .fieldLink RX0 24 "LightDesk$CueList" "levels" "[[I"] ++ wsX00)
def wsX0_isOver : List Cond := .code yX0_isOver cX0_isOver 1 (some .boolean) :: ([.fieldLink RX0 33 "LightDesk$CueList" "begun" "I", .fieldLink RX0 66 "LightDesk$CueList" "elapsed" "I", .fieldLink RX0 9 "LightDesk$CueList" "delays" "[I", .fieldLink RX0 15 "LightDesk$CueList" "fades" "[I", .methodLink RX0 46 yX0_has, .instanceMethod yX0_has, .selects RX0 yX0_has yX0_has, .initialized RX0, .code yX0_has cX0_has 2 (some .boolean), .fieldLink RX0 43 "LightDesk$CueList" "cues" "I"] ++ wsX00)
def wsX0_endsInNextTenth : List Cond := .code yX0_endsInNextTenth cX0_endsInNextTenth 1 (some .boolean) :: ([.fieldLink RX0 66 "LightDesk$CueList" "elapsed" "I", .methodLink RX0 69 yX0_isOver, .instanceMethod yX0_isOver, .selects RX0 yX0_isOver yX0_isOver, .initialized RX0, .code yX0_isOver cX0_isOver 1 (some .boolean), .fieldLink RX0 33 "LightDesk$CueList" "begun" "I", .fieldLink RX0 9 "LightDesk$CueList" "delays" "[I", .fieldLink RX0 15 "LightDesk$CueList" "fades" "[I", .methodLink RX0 46 yX0_has, .instanceMethod yX0_has, .selects RX0 yX0_has yX0_has, .code yX0_has cX0_has 2 (some .boolean), .fieldLink RX0 43 "LightDesk$CueList" "cues" "I"] ++ wsX00)
def wsX0_follower : List Cond := .code yX0_follower cX0_follower 2 (some .int) :: ([.fieldLink RX0 33 "LightDesk$CueList" "begun" "I", .fieldLink RX0 18 "LightDesk$CueList" "follow" "[Z", .methodLink RX0 46 yX0_has, .instanceMethod yX0_has, .selects RX0 yX0_has yX0_has, .initialized RX0, .code yX0_has cX0_has 2 (some .boolean), .fieldLink RX0 43 "LightDesk$CueList" "cues" "I"] ++ wsX00)
def wsX1_init : List Cond := .code yX1_init cX1_init 1 none :: ([.methodLink RX1 3 objectInit, .instanceMethod objectInit, .code objectInit ⟨#[0xb1]⟩ 1 none, .classLink RX1 11 "[[I", .arrayClass .int, .fieldLink RX1 13 "LightDesk$History" "changes" "[[I"] ++ wsX10)
def wsX1_isEmpty : List Cond := .code yX1_isEmpty cX1_isEmpty 1 (some .boolean) :: ([.fieldLink RX1 16 "LightDesk$History" "size" "I"] ++ wsX10)
def wsX1_size : List Cond := .code yX1_size cX1_size 1 (some .int) :: ([.fieldLink RX1 16 "LightDesk$History" "size" "I"] ++ wsX10)
def wsX1_isPlace : List Cond := .code yX1_isPlace cX1_isPlace 2 (some .boolean) :: ([])
def wsX1_put : List Cond := .code yX1_put cX1_put 3 none :: ([.fieldLink RX1 24 "LightDesk$History" "next" "I", .fieldLink RX1 13 "LightDesk$History" "changes" "[[I", .methodLink RX1 37 yX1_isPlace, .static yX1_isPlace, .initialized RX1, .code yX1_isPlace cX1_isPlace 2 (some .boolean)] ++ wsX10)
def wsX1_note : List Cond := .code yX1_note cX1_note 6 none :: ([.fieldLink RX1 24 "LightDesk$History" "next" "I", .fieldLink RX1 16 "LightDesk$History" "size" "I", .methodLink RX1 27 Lib.Math.min.name, .static Lib.Math.min.name, .initialized "java/lang/Math", .code Lib.Math.min.name Lib.Math.min.code 2 (some .int), .methodLink RX1 20 yX1_put, .instanceMethod yX1_put, .selects RX1 yX1_put yX1_put, .initialized RX1, .code yX1_put cX1_put 3 none, .fieldLink RX1 13 "LightDesk$History" "changes" "[[I", .methodLink RX1 37 yX1_isPlace, .static yX1_isPlace, .code yX1_isPlace cX1_isPlace 2 (some .boolean)] ++ wsX10)
def wsX1_lastRow : List Cond := .code yX1_lastRow cX1_lastRow 1 (some .int) :: ([.fieldLink RX1 24 "LightDesk$History" "next" "I"] ++ wsX10)
def wsX1_lastPart : List Cond := .code yX1_lastPart cX1_lastPart 3 (some .int) :: ([.fieldLink RX1 13 "LightDesk$History" "changes" "[[I", .methodLink RX1 33 yX1_lastRow, .instanceMethod yX1_lastRow, .selects RX1 yX1_lastRow yX1_lastRow, .initialized RX1, .code yX1_lastRow cX1_lastRow 1 (some .int), .fieldLink RX1 24 "LightDesk$History" "next" "I", .methodLink RX1 37 yX1_isPlace, .static yX1_isPlace, .code yX1_isPlace cX1_isPlace 2 (some .boolean)] ++ wsX10)
def wsX1_dropLast : List Cond := .code yX1_dropLast cX1_dropLast 1 none :: ([.fieldLink RX1 24 "LightDesk$History" "next" "I", .fieldLink RX1 16 "LightDesk$History" "size" "I", .methodLink RX1 41 Lib.Math.max.name, .static Lib.Math.max.name, .initialized "java/lang/Math", .code Lib.Math.max.name Lib.Math.max.code 2 (some .int), .methodLink RX1 33 yX1_lastRow, .instanceMethod yX1_lastRow, .selects RX1 yX1_lastRow yX1_lastRow, .initialized RX1, .code yX1_lastRow cX1_lastRow 1 (some .int)] ++ wsX10)
def wsX2_init : List Cond := .code yX2_init cX2_init 2 none :: ([.methodLink RX2 3 objectInit, .instanceMethod objectInit, .code objectInit ⟨#[0xb1]⟩ 1 none, .arrayClass .int, .fieldLink RX2 9 "LightDesk$Rigs" "powers" "[I", .fieldLink RX2 15 "LightDesk$Rigs" "gels" "[I", .classLink RX2 18 "[[I", .fieldLink RX2 20 "LightDesk$Rigs" "channels" "[[I", .methodLink RX2 23 yJ7_fill_53178, .static yJ7_fill_53178, .initialized RJ7, .code yJ7_fill_53178 cJ7_fill_53178 4 none] ++ wsX20)
def wsX2_isFull : List Cond := .code yX2_isFull cX2_isFull 1 (some .boolean) :: ([.fieldLink RX2 29 "LightDesk$Rigs" "lamps" "I"] ++ wsX20)
def wsX2_has : List Cond := .code yX2_has cX2_has 2 (some .boolean) :: ([.fieldLink RX2 29 "LightDesk$Rigs" "lamps" "I"] ++ wsX20)
def wsX2_setKind : List Cond := .code yX2_setKind cX2_setKind 4 none :: ([.fieldLink RX2 9 "LightDesk$Rigs" "powers" "[I", .fieldLink RX2 15 "LightDesk$Rigs" "gels" "[I", .methodLink RX2 37 yX2_has, .instanceMethod yX2_has, .selects RX2 yX2_has yX2_has, .initialized RX2, .code yX2_has cX2_has 2 (some .boolean), .fieldLink RX2 29 "LightDesk$Rigs" "lamps" "I"] ++ wsX20)
def wsX2_add : List Cond := .code yX2_add cX2_add 4 (some .int) :: ([.fieldLink RX2 29 "LightDesk$Rigs" "lamps" "I", .methodLink RX2 33 yX2_setKind, .instanceMethod yX2_setKind, .selects RX2 yX2_setKind yX2_setKind, .initialized RX2, .code yX2_setKind cX2_setKind 4 none, .fieldLink RX2 9 "LightDesk$Rigs" "powers" "[I", .fieldLink RX2 15 "LightDesk$Rigs" "gels" "[I", .methodLink RX2 37 yX2_has, .instanceMethod yX2_has, .selects RX2 yX2_has yX2_has, .code yX2_has cX2_has 2 (some .boolean)] ++ wsX20)
def wsX2_powerOf : List Cond := .code yX2_powerOf cX2_powerOf 2 (some .int) :: ([.fieldLink RX2 9 "LightDesk$Rigs" "powers" "[I", .methodLink RX2 37 yX2_has, .instanceMethod yX2_has, .selects RX2 yX2_has yX2_has, .initialized RX2, .code yX2_has cX2_has 2 (some .boolean), .fieldLink RX2 29 "LightDesk$Rigs" "lamps" "I"] ++ wsX20)
def wsX2_gelOf : List Cond := .code yX2_gelOf cX2_gelOf 2 (some .int) :: ([.fieldLink RX2 15 "LightDesk$Rigs" "gels" "[I", .methodLink RX2 37 yX2_has, .instanceMethod yX2_has, .selects RX2 yX2_has yX2_has, .initialized RX2, .code yX2_has cX2_has 2 (some .boolean), .fieldLink RX2 29 "LightDesk$Rigs" "lamps" "I"] ++ wsX20)
def wsX3_isNight : List Cond := .code yX3_isNight cX3_isNight 1 (some .boolean) :: ([])
def wsX2_channelOf : List Cond := .code yX2_channelOf cX2_channelOf 3 (some .int) :: ([.fieldLink RX2 20 "LightDesk$Rigs" "channels" "[[I", .static yX3_isNight, .initialized RX3, .code yX3_isNight cX3_isNight 1 (some .boolean), .methodLink RX2 37 yX2_has, .instanceMethod yX2_has, .selects RX2 yX2_has yX2_has, .initialized RX2, .code yX2_has cX2_has 2 (some .boolean), .fieldLink RX2 29 "LightDesk$Rigs" "lamps" "I"] ++ wsX20)
def wsX2_setChannel : List Cond := .code yX2_setChannel cX2_setChannel 4 none :: ([.fieldLink RX2 20 "LightDesk$Rigs" "channels" "[[I", .static yX3_isNight, .initialized RX3, .code yX3_isNight cX3_isNight 1 (some .boolean), .methodLink RX2 37 yX2_has, .instanceMethod yX2_has, .selects RX2 yX2_has yX2_has, .initialized RX2, .code yX2_has cX2_has 2 (some .boolean), .fieldLink RX2 29 "LightDesk$Rigs" "lamps" "I"] ++ wsX20)
def wsX2_shineOfKind : List Cond := .code yX2_shineOfKind cX2_shineOfKind 3 (some .int) :: ([])
def wsX2_shine : List Cond := .code yX2_shine cX2_shine 3 (some .int) :: ([.methodLink RX2 51 yX2_powerOf, .instanceMethod yX2_powerOf, .selects RX2 yX2_powerOf yX2_powerOf, .initialized RX2, .code yX2_powerOf cX2_powerOf 2 (some .int), .fieldLink RX2 9 "LightDesk$Rigs" "powers" "[I", .methodLink RX2 37 yX2_has, .instanceMethod yX2_has, .selects RX2 yX2_has yX2_has, .code yX2_has cX2_has 2 (some .boolean), .fieldLink RX2 29 "LightDesk$Rigs" "lamps" "I", .methodLink RX2 55 yX2_gelOf, .instanceMethod yX2_gelOf, .selects RX2 yX2_gelOf yX2_gelOf, .code yX2_gelOf cX2_gelOf 2 (some .int), .fieldLink RX2 15 "LightDesk$Rigs" "gels" "[I", .methodLink RX2 58 yX2_shineOfKind, .static yX2_shineOfKind, .code yX2_shineOfKind cX2_shineOfKind 3 (some .int)] ++ wsX20)
def wsX2_shineOn_r1 : List Cond := [Cond.fieldLink RX2 29 "LightDesk$Rigs" "lamps" "I", Cond.methodLink RX2 44 yX2_channelOf, Cond.instanceMethod yX2_channelOf, Cond.selects RX2 yX2_channelOf yX2_channelOf, Cond.initialized RX2, Cond.code yX2_channelOf cX2_channelOf 3 (some .int), Cond.fieldLink RX2 20 "LightDesk$Rigs" "channels" "[[I", Cond.static yX3_isNight, Cond.initialized RX3, Cond.code yX3_isNight cX3_isNight 1 (some .boolean), Cond.methodLink RX2 37 yX2_has, Cond.instanceMethod yX2_has, Cond.selects RX2 yX2_has yX2_has, Cond.code yX2_has cX2_has 2 (some .boolean), Cond.methodLink RX2 48 yX2_shine, Cond.instanceMethod yX2_shine, Cond.selects RX2 yX2_shine yX2_shine, Cond.code yX2_shine cX2_shine 3 (some .int), Cond.methodLink RX2 51 yX2_powerOf, Cond.instanceMethod yX2_powerOf, Cond.selects RX2 yX2_powerOf yX2_powerOf, Cond.code yX2_powerOf cX2_powerOf 2 (some .int), Cond.fieldLink RX2 9 "LightDesk$Rigs" "powers" "[I", Cond.methodLink RX2 55 yX2_gelOf]
def wsX2_shineOn_r2 : List Cond := [Cond.instanceMethod yX2_gelOf, Cond.selects RX2 yX2_gelOf yX2_gelOf, Cond.code yX2_gelOf cX2_gelOf 2 (some .int), Cond.fieldLink RX2 15 "LightDesk$Rigs" "gels" "[I", Cond.methodLink RX2 58 yX2_shineOfKind, Cond.static yX2_shineOfKind, Cond.code yX2_shineOfKind cX2_shineOfKind 3 (some .int)]
def wsX2_shineOn : List Cond := .code yX2_shineOn cX2_shineOn 6 (some .int) :: ((wsX2_shineOn_r1 ++ wsX2_shineOn_r2) ++ wsX20)
def wsX3_init_r1 : List Cond := [Cond.methodLink RX3 1 objectInit, Cond.instanceMethod objectInit, Cond.code objectInit ⟨#[0xb1]⟩ 1 none, Cond.classLink RX3 7 RX2, Cond.instantiable RX2 4, Cond.initialized RX2, Cond.fieldLink RX3 10 "LightDesk" "rigs" "LLightDesk$Rigs;", Cond.classLink RX3 16 RX0, Cond.instantiable RX0 9, Cond.initialized RX0, Cond.fieldLink RX3 19 "LightDesk" "list0" "LLightDesk$CueList;", Cond.fieldLink RX3 23 "LightDesk" "list1" "LLightDesk$CueList;", Cond.classLink RX3 26 RX1, Cond.instantiable RX1 3, Cond.initialized RX1, Cond.fieldLink RX3 29 "LightDesk" "history" "LLightDesk$History;", Cond.arrayClass .boolean, Cond.fieldLink RX3 33 "LightDesk" "latestCounts" "[Z", Cond.arrayClass .int, Cond.fieldLink RX3 37 "LightDesk" "latestList" "[I", Cond.methodLink RX3 9 yX2_init, Cond.instanceMethod yX2_init, Cond.code yX2_init cX2_init 2 none, Cond.methodLink RX2 3 objectInit]
def wsX3_init_r2 : List Cond := [Cond.fieldLink RX2 9 "LightDesk$Rigs" "powers" "[I", Cond.fieldLink RX2 15 "LightDesk$Rigs" "gels" "[I", Cond.classLink RX2 18 "[[I", Cond.fieldLink RX2 20 "LightDesk$Rigs" "channels" "[[I", Cond.methodLink RX2 23 yJ7_fill_53178, Cond.static yJ7_fill_53178, Cond.initialized RJ7, Cond.code yJ7_fill_53178 cJ7_fill_53178 4 none, Cond.methodLink RX3 18 yX0_init, Cond.instanceMethod yX0_init, Cond.code yX0_init cX0_init 2 none, Cond.methodLink RX0 3 objectInit, Cond.fieldLink RX0 9 "LightDesk$CueList" "delays" "[I", Cond.fieldLink RX0 15 "LightDesk$CueList" "fades" "[I", Cond.fieldLink RX0 18 "LightDesk$CueList" "follow" "[Z", Cond.classLink RX0 22 "[[I", Cond.fieldLink RX0 24 "LightDesk$CueList" "levels" "[[I", Cond.fieldLink RX0 27 "LightDesk$CueList" "from" "[I", Cond.fieldLink RX0 30 "LightDesk$CueList" "to" "[I", Cond.fieldLink RX0 33 "LightDesk$CueList" "begun" "I", Cond.methodLink RX0 37 yJ7_fill_53178, Cond.instanceMethod yX1_init, Cond.code yX1_init cX1_init 1 none, Cond.methodLink RX1 3 objectInit]
def wsX3_init_r3 : List Cond := [Cond.classLink RX1 11 "[[I", Cond.fieldLink RX1 13 "LightDesk$History" "changes" "[[I"]
def wsX3_init : List Cond := .code yX3_init cX3_init 1 none :: ((wsX3_init_r1 ++ (wsX3_init_r2 ++ wsX3_init_r3)) ++ wsX20 ++ wsX30 ++ wsX00 ++ wsX10)
def wsX3_needLampKind : List Cond := .code yX3_needLampKind cX3_needLampKind 2 none :: ([.classLink RX3 147 "java/lang/IllegalArgumentException", .initialized "java/lang/IllegalArgumentException"] ++ (vx_atS RX3 151 "java/lang/IllegalArgumentException" ["java/lang/RuntimeException", "java/lang/Exception"]).filter goodWord)
def wsX3_addLamp_r1 : List Cond := [Cond.classLink RX3 49 "java/lang/IllegalStateException", Cond.initialized "java/lang/IllegalStateException", Cond.fieldLink RX3 10 "LightDesk" "rigs" "LLightDesk$Rigs;", Cond.methodLink RX3 41 yX3_needLampKind, Cond.static yX3_needLampKind, Cond.initialized RX3, Cond.code yX3_needLampKind cX3_needLampKind 2 none, Cond.classLink RX3 147 "java/lang/IllegalArgumentException", Cond.initialized "java/lang/IllegalArgumentException", Cond.methodLink RX3 45 yX2_isFull, Cond.instanceMethod yX2_isFull, Cond.selects RX2 yX2_isFull yX2_isFull, Cond.initialized RX2, Cond.code yX2_isFull cX2_isFull 1 (some .boolean), Cond.fieldLink RX2 29 "LightDesk$Rigs" "lamps" "I", Cond.methodLink RX3 56 yX2_add, Cond.instanceMethod yX2_add, Cond.selects RX2 yX2_add yX2_add, Cond.code yX2_add cX2_add 4 (some .int), Cond.methodLink RX2 33 yX2_setKind, Cond.instanceMethod yX2_setKind, Cond.selects RX2 yX2_setKind yX2_setKind, Cond.code yX2_setKind cX2_setKind 4 none, Cond.fieldLink RX2 9 "LightDesk$Rigs" "powers" "[I"]
def wsX3_addLamp_r2 : List Cond := [Cond.fieldLink RX2 15 "LightDesk$Rigs" "gels" "[I", Cond.methodLink RX2 37 yX2_has, Cond.instanceMethod yX2_has, Cond.selects RX2 yX2_has yX2_has, Cond.code yX2_has cX2_has 2 (some .boolean)]
def wsX3_addLamp : List Cond := .code yX3_addLamp cX3_addLamp 3 (some .int) :: ((wsX3_addLamp_r1 ++ wsX3_addLamp_r2) ++ wsX30 ++ wsX20 ++ (vx_atS RX3 53 "java/lang/IllegalStateException" ["java/lang/RuntimeException", "java/lang/Exception"]).filter goodWord ++ (vx_atS RX3 151 "java/lang/IllegalArgumentException" ["java/lang/RuntimeException", "java/lang/Exception"]).filter goodWord)
def wsX3_needLamp : List Cond := .code yX3_needLamp cX3_needLamp 2 none :: ([.classLink RX3 212 "java/lang/IndexOutOfBoundsException", .initialized "java/lang/IndexOutOfBoundsException", .fieldLink RX3 10 "LightDesk" "rigs" "LLightDesk$Rigs;", .methodLink RX3 209 yX2_has, .instanceMethod yX2_has, .selects RX2 yX2_has yX2_has, .initialized RX2, .code yX2_has cX2_has 2 (some .boolean), .fieldLink RX2 29 "LightDesk$Rigs" "lamps" "I"] ++ wsX30 ++ wsX20 ++ (vx_atS RX3 216 "java/lang/IndexOutOfBoundsException" ["java/lang/RuntimeException", "java/lang/Exception"]).filter goodWord)
def wsX3_swap_r1 : List Cond := [Cond.fieldLink RX3 29 "LightDesk" "history" "LLightDesk$History;", Cond.fieldLink RX3 10 "LightDesk" "rigs" "LLightDesk$Rigs;", Cond.methodLink RX3 60 yX3_needLamp, Cond.instanceMethod yX3_needLamp, Cond.selects RX3 yX3_needLamp yX3_needLamp, Cond.initialized RX3, Cond.code yX3_needLamp cX3_needLamp 2 none, Cond.classLink RX3 212 "java/lang/IndexOutOfBoundsException", Cond.initialized "java/lang/IndexOutOfBoundsException", Cond.methodLink RX3 209 yX2_has, Cond.instanceMethod yX2_has, Cond.selects RX2 yX2_has yX2_has, Cond.initialized RX2, Cond.code yX2_has cX2_has 2 (some .boolean), Cond.fieldLink RX2 29 "LightDesk$Rigs" "lamps" "I", Cond.methodLink RX3 41 yX3_needLampKind, Cond.static yX3_needLampKind, Cond.code yX3_needLampKind cX3_needLampKind 2 none, Cond.classLink RX3 147 "java/lang/IllegalArgumentException", Cond.initialized "java/lang/IllegalArgumentException", Cond.methodLink RX3 64 yX2_powerOf, Cond.instanceMethod yX2_powerOf, Cond.selects RX2 yX2_powerOf yX2_powerOf, Cond.code yX2_powerOf cX2_powerOf 2 (some .int)]
def wsX3_swap_r2 : List Cond := [Cond.fieldLink RX2 9 "LightDesk$Rigs" "powers" "[I", Cond.methodLink RX2 37 yX2_has, Cond.methodLink RX3 68 yX2_gelOf, Cond.instanceMethod yX2_gelOf, Cond.selects RX2 yX2_gelOf yX2_gelOf, Cond.code yX2_gelOf cX2_gelOf 2 (some .int), Cond.fieldLink RX2 15 "LightDesk$Rigs" "gels" "[I", Cond.methodLink RX3 71 yX1_note, Cond.instanceMethod yX1_note, Cond.selects RX1 yX1_note yX1_note, Cond.initialized RX1, Cond.code yX1_note cX1_note 6 none, Cond.fieldLink RX1 24 "LightDesk$History" "next" "I", Cond.fieldLink RX1 16 "LightDesk$History" "size" "I", Cond.methodLink RX1 27 Lib.Math.min.name, Cond.static Lib.Math.min.name, Cond.initialized "java/lang/Math", Cond.code Lib.Math.min.name Lib.Math.min.code 2 (some .int), Cond.methodLink RX1 20 yX1_put, Cond.instanceMethod yX1_put, Cond.selects RX1 yX1_put yX1_put, Cond.code yX1_put cX1_put 3 none, Cond.fieldLink RX1 13 "LightDesk$History" "changes" "[[I", Cond.methodLink RX1 37 yX1_isPlace]
def wsX3_swap_r3 : List Cond := [Cond.static yX1_isPlace, Cond.code yX1_isPlace cX1_isPlace 2 (some .boolean), Cond.methodLink RX3 75 yX2_setKind, Cond.instanceMethod yX2_setKind, Cond.selects RX2 yX2_setKind yX2_setKind, Cond.code yX2_setKind cX2_setKind 4 none]
def wsX3_swap : List Cond := .code yX3_swap cX3_swap 4 none :: ((wsX3_swap_r1 ++ (wsX3_swap_r2 ++ wsX3_swap_r3)) ++ wsX30 ++ wsX20 ++ wsX10 ++ (vx_atS RX3 216 "java/lang/IndexOutOfBoundsException" ["java/lang/RuntimeException", "java/lang/Exception"]).filter goodWord ++ (vx_atS RX3 151 "java/lang/IllegalArgumentException" ["java/lang/RuntimeException", "java/lang/Exception"]).filter goodWord)
def wsX3_needNight : List Cond := .code yX3_needNight cX3_needNight 1 none :: ([.classLink RX3 147 "java/lang/IllegalArgumentException", .initialized "java/lang/IllegalArgumentException", .methodLink RX3 224 yX3_isNight, .static yX3_isNight, .initialized RX3, .code yX3_isNight cX3_isNight 1 (some .boolean)] ++ (vx_atS RX3 151 "java/lang/IllegalArgumentException" ["java/lang/RuntimeException", "java/lang/Exception"]).filter goodWord)
def wsX3_needChannel : List Cond := .code yX3_needChannel cX3_needChannel 1 none :: ([.classLink RX3 147 "java/lang/IllegalArgumentException", .initialized "java/lang/IllegalArgumentException", .methodLink RX3 182 yX3_isChannel, .static yX3_isChannel, .initialized RX3, .code yX3_isChannel cX3_isChannel 1 (some .boolean)] ++ (vx_atS RX3 151 "java/lang/IllegalArgumentException" ["java/lang/RuntimeException", "java/lang/Exception"]).filter goodWord)
def wsX3_needChannelOrNone : List Cond := .code yX3_needChannelOrNone cX3_needChannelOrNone 1 none :: ([.methodLink RX3 95 yX3_needChannel, .static yX3_needChannel, .initialized RX3, .code yX3_needChannel cX3_needChannel 1 none, .classLink RX3 147 "java/lang/IllegalArgumentException", .initialized "java/lang/IllegalArgumentException", .methodLink RX3 182 yX3_isChannel, .static yX3_isChannel, .code yX3_isChannel cX3_isChannel 1 (some .boolean)] ++ (vx_atS RX3 151 "java/lang/IllegalArgumentException" ["java/lang/RuntimeException", "java/lang/Exception"]).filter goodWord)
def wsX3_hang_r1 : List Cond := [Cond.fieldLink RX3 10 "LightDesk" "rigs" "LLightDesk$Rigs;", Cond.fieldLink RX3 29 "LightDesk" "history" "LLightDesk$History;", Cond.methodLink RX3 60 yX3_needLamp, Cond.instanceMethod yX3_needLamp, Cond.selects RX3 yX3_needLamp yX3_needLamp, Cond.initialized RX3, Cond.code yX3_needLamp cX3_needLamp 2 none, Cond.classLink RX3 212 "java/lang/IndexOutOfBoundsException", Cond.initialized "java/lang/IndexOutOfBoundsException", Cond.methodLink RX3 209 yX2_has, Cond.instanceMethod yX2_has, Cond.selects RX2 yX2_has yX2_has, Cond.initialized RX2, Cond.code yX2_has cX2_has 2 (some .boolean), Cond.fieldLink RX2 29 "LightDesk$Rigs" "lamps" "I", Cond.methodLink RX3 79 yX3_needNight, Cond.static yX3_needNight, Cond.code yX3_needNight cX3_needNight 1 none, Cond.classLink RX3 147 "java/lang/IllegalArgumentException", Cond.initialized "java/lang/IllegalArgumentException", Cond.methodLink RX3 224 yX3_isNight, Cond.static yX3_isNight, Cond.code yX3_isNight cX3_isNight 1 (some .boolean), Cond.methodLink RX3 82 yX3_needChannelOrNone]
def wsX3_hang_r2 : List Cond := [Cond.static yX3_needChannelOrNone, Cond.code yX3_needChannelOrNone cX3_needChannelOrNone 1 none, Cond.methodLink RX3 95 yX3_needChannel, Cond.static yX3_needChannel, Cond.code yX3_needChannel cX3_needChannel 1 none, Cond.methodLink RX3 182 yX3_isChannel, Cond.static yX3_isChannel, Cond.code yX3_isChannel cX3_isChannel 1 (some .boolean), Cond.methodLink RX3 85 yX2_channelOf, Cond.instanceMethod yX2_channelOf, Cond.selects RX2 yX2_channelOf yX2_channelOf, Cond.code yX2_channelOf cX2_channelOf 3 (some .int), Cond.fieldLink RX2 20 "LightDesk$Rigs" "channels" "[[I", Cond.methodLink RX2 37 yX2_has, Cond.methodLink RX3 71 yX1_note, Cond.instanceMethod yX1_note, Cond.selects RX1 yX1_note yX1_note, Cond.initialized RX1, Cond.code yX1_note cX1_note 6 none, Cond.fieldLink RX1 24 "LightDesk$History" "next" "I", Cond.fieldLink RX1 16 "LightDesk$History" "size" "I", Cond.methodLink RX1 27 Lib.Math.min.name, Cond.static Lib.Math.min.name, Cond.initialized "java/lang/Math"]
def wsX3_hang_r3 : List Cond := [Cond.code Lib.Math.min.name Lib.Math.min.code 2 (some .int), Cond.methodLink RX1 20 yX1_put, Cond.instanceMethod yX1_put, Cond.selects RX1 yX1_put yX1_put, Cond.code yX1_put cX1_put 3 none, Cond.fieldLink RX1 13 "LightDesk$History" "changes" "[[I", Cond.methodLink RX1 37 yX1_isPlace, Cond.static yX1_isPlace, Cond.code yX1_isPlace cX1_isPlace 2 (some .boolean), Cond.methodLink RX3 88 yX2_setChannel, Cond.instanceMethod yX2_setChannel, Cond.selects RX2 yX2_setChannel yX2_setChannel, Cond.code yX2_setChannel cX2_setChannel 4 none]
def wsX3_hang : List Cond := .code yX3_hang cX3_hang 5 (some .int) :: ((wsX3_hang_r1 ++ (wsX3_hang_r2 ++ wsX3_hang_r3)) ++ wsX30 ++ wsX20 ++ wsX10 ++ (vx_atS RX3 216 "java/lang/IndexOutOfBoundsException" ["java/lang/RuntimeException", "java/lang/Exception"]).filter goodWord ++ (vx_atS RX3 151 "java/lang/IllegalArgumentException" ["java/lang/RuntimeException", "java/lang/Exception"]).filter goodWord)
def wsX3_setNight : List Cond := .code yX3_setNight cX3_setNight 3 (some .int) :: ([.fieldLink RX3 91 "LightDesk" "presentNight" "I", .methodLink RX3 79 yX3_needNight, .static yX3_needNight, .initialized RX3, .code yX3_needNight cX3_needNight 1 none, .classLink RX3 147 "java/lang/IllegalArgumentException", .initialized "java/lang/IllegalArgumentException", .methodLink RX3 224 yX3_isNight, .static yX3_isNight, .code yX3_isNight cX3_isNight 1 (some .boolean)] ++ wsX30 ++ (vx_atS RX3 151 "java/lang/IllegalArgumentException" ["java/lang/RuntimeException", "java/lang/Exception"]).filter goodWord)
def wsX3_setLatest : List Cond := .code yX3_setLatest cX3_setLatest 4 (some .boolean) :: ([.fieldLink RX3 33 "LightDesk" "latestCounts" "[Z", .methodLink RX3 95 yX3_needChannel, .static yX3_needChannel, .initialized RX3, .code yX3_needChannel cX3_needChannel 1 none, .classLink RX3 147 "java/lang/IllegalArgumentException", .initialized "java/lang/IllegalArgumentException", .methodLink RX3 182 yX3_isChannel, .static yX3_isChannel, .code yX3_isChannel cX3_isChannel 1 (some .boolean)] ++ wsX30 ++ (vx_atS RX3 151 "java/lang/IllegalArgumentException" ["java/lang/RuntimeException", "java/lang/Exception"]).filter goodWord)
def wsX3_needList : List Cond := .code yX3_needList cX3_needList 1 none :: ([.classLink RX3 147 "java/lang/IllegalArgumentException", .initialized "java/lang/IllegalArgumentException"] ++ (vx_atS RX3 151 "java/lang/IllegalArgumentException" ["java/lang/RuntimeException", "java/lang/Exception"]).filter goodWord)
def wsX3_needTenths : List Cond := .code yX3_needTenths cX3_needTenths 1 none :: ([.classLink RX3 147 "java/lang/IllegalArgumentException", .initialized "java/lang/IllegalArgumentException"] ++ (vx_atS RX3 151 "java/lang/IllegalArgumentException" ["java/lang/RuntimeException", "java/lang/Exception"]).filter goodWord)
def wsX3_cuesOf : List Cond := .code yX3_cuesOf cX3_cuesOf 2 (some (.object "LightDesk$CueList")) :: ([.fieldLink RX3 19 "LightDesk" "list0" "LLightDesk$CueList;", .fieldLink RX3 23 "LightDesk" "list1" "LLightDesk$CueList;"] ++ wsX30)
def wsX3_addCue_r1 : List Cond := [Cond.classLink RX3 49 "java/lang/IllegalStateException", Cond.initialized "java/lang/IllegalStateException", Cond.methodLink RX3 98 yX3_needList, Cond.static yX3_needList, Cond.initialized RX3, Cond.code yX3_needList cX3_needList 1 none, Cond.classLink RX3 147 "java/lang/IllegalArgumentException", Cond.initialized "java/lang/IllegalArgumentException", Cond.methodLink RX3 101 yX3_needTenths, Cond.static yX3_needTenths, Cond.code yX3_needTenths cX3_needTenths 1 none, Cond.methodLink RX3 104 yX3_cuesOf, Cond.instanceMethod yX3_cuesOf, Cond.selects RX3 yX3_cuesOf yX3_cuesOf, Cond.code yX3_cuesOf cX3_cuesOf 2 (some (.object "LightDesk$CueList")), Cond.fieldLink RX3 19 "LightDesk" "list0" "LLightDesk$CueList;", Cond.fieldLink RX3 23 "LightDesk" "list1" "LLightDesk$CueList;", Cond.methodLink RX3 108 yX0_isFull, Cond.instanceMethod yX0_isFull, Cond.selects RX0 yX0_isFull yX0_isFull, Cond.initialized RX0, Cond.code yX0_isFull cX0_isFull 1 (some .boolean), Cond.fieldLink RX0 43 "LightDesk$CueList" "cues" "I", Cond.methodLink RX3 111 yX0_add]
def wsX3_addCue_r2 : List Cond := [Cond.instanceMethod yX0_add, Cond.selects RX0 yX0_add yX0_add, Cond.code yX0_add cX0_add 5 (some .int), Cond.fieldLink RX0 9 "LightDesk$CueList" "delays" "[I", Cond.fieldLink RX0 15 "LightDesk$CueList" "fades" "[I", Cond.fieldLink RX0 18 "LightDesk$CueList" "follow" "[Z"]
def wsX3_addCue : List Cond := .code yX3_addCue cX3_addCue 6 (some .int) :: ((wsX3_addCue_r1 ++ wsX3_addCue_r2) ++ wsX30 ++ wsX00 ++ (vx_atS RX3 53 "java/lang/IllegalStateException" ["java/lang/RuntimeException", "java/lang/Exception"]).filter goodWord ++ (vx_atS RX3 151 "java/lang/IllegalArgumentException" ["java/lang/RuntimeException", "java/lang/Exception"]).filter goodWord)
def wsX3_needLevelOrNone : List Cond := .code yX3_needLevelOrNone cX3_needLevelOrNone 1 none :: ([.classLink RX3 147 "java/lang/IllegalArgumentException", .initialized "java/lang/IllegalArgumentException"] ++ (vx_atS RX3 151 "java/lang/IllegalArgumentException" ["java/lang/RuntimeException", "java/lang/Exception"]).filter goodWord)
def wsX3_needCue : List Cond := .code yX3_needCue cX3_needCue 3 none :: ([.classLink RX3 212 "java/lang/IndexOutOfBoundsException", .initialized "java/lang/IndexOutOfBoundsException", .methodLink RX3 104 yX3_cuesOf, .instanceMethod yX3_cuesOf, .selects RX3 yX3_cuesOf yX3_cuesOf, .initialized RX3, .code yX3_cuesOf cX3_cuesOf 2 (some (.object "LightDesk$CueList")), .fieldLink RX3 19 "LightDesk" "list0" "LLightDesk$CueList;", .fieldLink RX3 23 "LightDesk" "list1" "LLightDesk$CueList;", .methodLink RX3 217 yX0_has, .instanceMethod yX0_has, .selects RX0 yX0_has yX0_has, .initialized RX0, .code yX0_has cX0_has 2 (some .boolean), .fieldLink RX0 43 "LightDesk$CueList" "cues" "I"] ++ wsX30 ++ wsX00 ++ (vx_atS RX3 216 "java/lang/IndexOutOfBoundsException" ["java/lang/RuntimeException", "java/lang/Exception"]).filter goodWord)
def wsX3_setLevel_r1 : List Cond := [Cond.fieldLink RX3 29 "LightDesk" "history" "LLightDesk$History;", Cond.methodLink RX3 98 yX3_needList, Cond.static yX3_needList, Cond.initialized RX3, Cond.code yX3_needList cX3_needList 1 none, Cond.classLink RX3 147 "java/lang/IllegalArgumentException", Cond.initialized "java/lang/IllegalArgumentException", Cond.methodLink RX3 95 yX3_needChannel, Cond.static yX3_needChannel, Cond.code yX3_needChannel cX3_needChannel 1 none, Cond.methodLink RX3 182 yX3_isChannel, Cond.static yX3_isChannel, Cond.code yX3_isChannel cX3_isChannel 1 (some .boolean), Cond.methodLink RX3 114 yX3_needLevelOrNone, Cond.static yX3_needLevelOrNone, Cond.code yX3_needLevelOrNone cX3_needLevelOrNone 1 none, Cond.methodLink RX3 117 yX3_needCue, Cond.instanceMethod yX3_needCue, Cond.selects RX3 yX3_needCue yX3_needCue, Cond.code yX3_needCue cX3_needCue 3 none, Cond.classLink RX3 212 "java/lang/IndexOutOfBoundsException", Cond.initialized "java/lang/IndexOutOfBoundsException", Cond.methodLink RX3 104 yX3_cuesOf, Cond.instanceMethod yX3_cuesOf]
def wsX3_setLevel_r2 : List Cond := [Cond.selects RX3 yX3_cuesOf yX3_cuesOf, Cond.code yX3_cuesOf cX3_cuesOf 2 (some (.object "LightDesk$CueList")), Cond.fieldLink RX3 19 "LightDesk" "list0" "LLightDesk$CueList;", Cond.fieldLink RX3 23 "LightDesk" "list1" "LLightDesk$CueList;", Cond.methodLink RX3 217 yX0_has, Cond.instanceMethod yX0_has, Cond.selects RX0 yX0_has yX0_has, Cond.initialized RX0, Cond.code yX0_has cX0_has 2 (some .boolean), Cond.fieldLink RX0 43 "LightDesk$CueList" "cues" "I", Cond.methodLink RX3 120 yX0_told, Cond.instanceMethod yX0_told, Cond.selects RX0 yX0_told yX0_told, Cond.code yX0_told cX0_told 3 (some .int), Cond.fieldLink RX0 24 "LightDesk$CueList" "levels" "[[I", Cond.methodLink RX0 46 yX0_has, Cond.methodLink RX3 71 yX1_note, Cond.instanceMethod yX1_note, Cond.selects RX1 yX1_note yX1_note, Cond.initialized RX1, Cond.code yX1_note cX1_note 6 none, Cond.fieldLink RX1 24 "LightDesk$History" "next" "I", Cond.fieldLink RX1 16 "LightDesk$History" "size" "I", Cond.methodLink RX1 27 Lib.Math.min.name]
def wsX3_setLevel_r3 : List Cond := [Cond.static Lib.Math.min.name, Cond.initialized "java/lang/Math", Cond.code Lib.Math.min.name Lib.Math.min.code 2 (some .int), Cond.methodLink RX1 20 yX1_put, Cond.instanceMethod yX1_put, Cond.selects RX1 yX1_put yX1_put, Cond.code yX1_put cX1_put 3 none, Cond.fieldLink RX1 13 "LightDesk$History" "changes" "[[I", Cond.methodLink RX1 37 yX1_isPlace, Cond.static yX1_isPlace, Cond.code yX1_isPlace cX1_isPlace 2 (some .boolean), Cond.methodLink RX3 123 yX0_tell, Cond.instanceMethod yX0_tell, Cond.selects RX0 yX0_tell yX0_tell, Cond.code yX0_tell cX0_tell 4 none]
def wsX3_setLevel : List Cond := .code yX3_setLevel cX3_setLevel 7 (some .int) :: ((wsX3_setLevel_r1 ++ (wsX3_setLevel_r2 ++ wsX3_setLevel_r3)) ++ wsX30 ++ wsX00 ++ wsX10 ++ (vx_atS RX3 151 "java/lang/IllegalArgumentException" ["java/lang/RuntimeException", "java/lang/Exception"]).filter goodWord ++ (vx_atS RX3 216 "java/lang/IndexOutOfBoundsException" ["java/lang/RuntimeException", "java/lang/Exception"]).filter goodWord)
def wsX3_takeBackLast_r1 : List Cond := [Cond.fieldLink RX3 29 "LightDesk" "history" "LLightDesk$History;", Cond.fieldLink RX3 10 "LightDesk" "rigs" "LLightDesk$Rigs;", Cond.methodLink RX3 206 yX1_lastPart, Cond.instanceMethod yX1_lastPart, Cond.selects RX1 yX1_lastPart yX1_lastPart, Cond.initialized RX1, Cond.code yX1_lastPart cX1_lastPart 3 (some .int), Cond.fieldLink RX1 13 "LightDesk$History" "changes" "[[I", Cond.methodLink RX1 33 yX1_lastRow, Cond.instanceMethod yX1_lastRow, Cond.selects RX1 yX1_lastRow yX1_lastRow, Cond.code yX1_lastRow cX1_lastRow 1 (some .int), Cond.fieldLink RX1 24 "LightDesk$History" "next" "I", Cond.methodLink RX1 37 yX1_isPlace, Cond.static yX1_isPlace, Cond.code yX1_isPlace cX1_isPlace 2 (some .boolean), Cond.methodLink RX3 75 yX2_setKind, Cond.instanceMethod yX2_setKind, Cond.selects RX2 yX2_setKind yX2_setKind, Cond.initialized RX2, Cond.code yX2_setKind cX2_setKind 4 none, Cond.fieldLink RX2 9 "LightDesk$Rigs" "powers" "[I", Cond.fieldLink RX2 15 "LightDesk$Rigs" "gels" "[I", Cond.methodLink RX2 37 yX2_has]
def wsX3_takeBackLast_r2 : List Cond := [Cond.instanceMethod yX2_has, Cond.selects RX2 yX2_has yX2_has, Cond.code yX2_has cX2_has 2 (some .boolean), Cond.fieldLink RX2 29 "LightDesk$Rigs" "lamps" "I", Cond.methodLink RX3 88 yX2_setChannel, Cond.instanceMethod yX2_setChannel, Cond.selects RX2 yX2_setChannel yX2_setChannel, Cond.code yX2_setChannel cX2_setChannel 4 none, Cond.fieldLink RX2 20 "LightDesk$Rigs" "channels" "[[I", Cond.static yX3_isNight, Cond.initialized RX3, Cond.code yX3_isNight cX3_isNight 1 (some .boolean), Cond.methodLink RX3 104 yX3_cuesOf, Cond.instanceMethod yX3_cuesOf, Cond.selects RX3 yX3_cuesOf yX3_cuesOf, Cond.code yX3_cuesOf cX3_cuesOf 2 (some (.object "LightDesk$CueList")), Cond.fieldLink RX3 19 "LightDesk" "list0" "LLightDesk$CueList;", Cond.fieldLink RX3 23 "LightDesk" "list1" "LLightDesk$CueList;", Cond.methodLink RX3 123 yX0_tell, Cond.instanceMethod yX0_tell, Cond.selects RX0 yX0_tell yX0_tell, Cond.initialized RX0, Cond.code yX0_tell cX0_tell 4 none, Cond.fieldLink RX0 24 "LightDesk$CueList" "levels" "[[I"]
def wsX3_takeBackLast_r3 : List Cond := [Cond.methodLink RX0 46 yX0_has, Cond.instanceMethod yX0_has, Cond.selects RX0 yX0_has yX0_has, Cond.code yX0_has cX0_has 2 (some .boolean), Cond.fieldLink RX0 43 "LightDesk$CueList" "cues" "I", Cond.static yX3_isChannel, Cond.code yX3_isChannel cX3_isChannel 1 (some .boolean)]
def wsX3_takeBackLast : List Cond := .code yX3_takeBackLast cX3_takeBackLast 5 none :: ((wsX3_takeBackLast_r1 ++ (wsX3_takeBackLast_r2 ++ wsX3_takeBackLast_r3)) ++ wsX30 ++ wsX10 ++ wsX20 ++ wsX00)
def wsX3_undo_r1 : List Cond := [Cond.classLink RX3 49 "java/lang/IllegalStateException", Cond.initialized "java/lang/IllegalStateException", Cond.fieldLink RX3 29 "LightDesk" "history" "LLightDesk$History;", Cond.methodLink RX3 126 yX1_isEmpty, Cond.instanceMethod yX1_isEmpty, Cond.selects RX1 yX1_isEmpty yX1_isEmpty, Cond.initialized RX1, Cond.code yX1_isEmpty cX1_isEmpty 1 (some .boolean), Cond.fieldLink RX1 16 "LightDesk$History" "size" "I", Cond.methodLink RX3 131 yX3_takeBackLast, Cond.instanceMethod yX3_takeBackLast, Cond.selects RX3 yX3_takeBackLast yX3_takeBackLast, Cond.initialized RX3, Cond.code yX3_takeBackLast cX3_takeBackLast 5 none, Cond.fieldLink RX3 10 "LightDesk" "rigs" "LLightDesk$Rigs;", Cond.methodLink RX3 206 yX1_lastPart, Cond.instanceMethod yX1_lastPart, Cond.selects RX1 yX1_lastPart yX1_lastPart, Cond.code yX1_lastPart cX1_lastPart 3 (some .int), Cond.fieldLink RX1 13 "LightDesk$History" "changes" "[[I", Cond.methodLink RX1 33 yX1_lastRow, Cond.instanceMethod yX1_lastRow, Cond.selects RX1 yX1_lastRow yX1_lastRow, Cond.code yX1_lastRow cX1_lastRow 1 (some .int)]
def wsX3_undo_r2 : List Cond := [Cond.fieldLink RX1 24 "LightDesk$History" "next" "I", Cond.methodLink RX1 37 yX1_isPlace, Cond.static yX1_isPlace, Cond.code yX1_isPlace cX1_isPlace 2 (some .boolean), Cond.methodLink RX3 75 yX2_setKind, Cond.instanceMethod yX2_setKind, Cond.selects RX2 yX2_setKind yX2_setKind, Cond.initialized RX2, Cond.code yX2_setKind cX2_setKind 4 none, Cond.fieldLink RX2 9 "LightDesk$Rigs" "powers" "[I", Cond.fieldLink RX2 15 "LightDesk$Rigs" "gels" "[I", Cond.methodLink RX2 37 yX2_has, Cond.instanceMethod yX2_has, Cond.selects RX2 yX2_has yX2_has, Cond.code yX2_has cX2_has 2 (some .boolean), Cond.fieldLink RX2 29 "LightDesk$Rigs" "lamps" "I", Cond.methodLink RX3 88 yX2_setChannel, Cond.instanceMethod yX2_setChannel, Cond.selects RX2 yX2_setChannel yX2_setChannel, Cond.code yX2_setChannel cX2_setChannel 4 none, Cond.fieldLink RX2 20 "LightDesk$Rigs" "channels" "[[I", Cond.static yX3_isNight, Cond.code yX3_isNight cX3_isNight 1 (some .boolean), Cond.methodLink RX3 104 yX3_cuesOf]
def wsX3_undo_r3 : List Cond := [Cond.instanceMethod yX3_cuesOf, Cond.selects RX3 yX3_cuesOf yX3_cuesOf, Cond.code yX3_cuesOf cX3_cuesOf 2 (some (.object "LightDesk$CueList")), Cond.fieldLink RX3 19 "LightDesk" "list0" "LLightDesk$CueList;", Cond.fieldLink RX3 23 "LightDesk" "list1" "LLightDesk$CueList;", Cond.methodLink RX3 123 yX0_tell, Cond.instanceMethod yX0_tell, Cond.selects RX0 yX0_tell yX0_tell, Cond.initialized RX0, Cond.code yX0_tell cX0_tell 4 none, Cond.fieldLink RX0 24 "LightDesk$CueList" "levels" "[[I", Cond.methodLink RX0 46 yX0_has, Cond.instanceMethod yX0_has, Cond.selects RX0 yX0_has yX0_has, Cond.code yX0_has cX0_has 2 (some .boolean), Cond.fieldLink RX0 43 "LightDesk$CueList" "cues" "I", Cond.static yX3_isChannel, Cond.code yX3_isChannel cX3_isChannel 1 (some .boolean), Cond.methodLink RX3 134 yX1_dropLast, Cond.instanceMethod yX1_dropLast, Cond.selects RX1 yX1_dropLast yX1_dropLast, Cond.code yX1_dropLast cX1_dropLast 1 none, Cond.methodLink RX1 41 Lib.Math.max.name, Cond.static Lib.Math.max.name]
def wsX3_undo_r4 : List Cond := [Cond.initialized "java/lang/Math", Cond.code Lib.Math.max.name Lib.Math.max.code 2 (some .int), Cond.methodLink RX3 137 yX1_size, Cond.instanceMethod yX1_size, Cond.selects RX1 yX1_size yX1_size, Cond.code yX1_size cX1_size 1 (some .int)]
def wsX3_undo : List Cond := .code yX3_undo cX3_undo 1 (some .int) :: ((wsX3_undo_r1 ++ (wsX3_undo_r2 ++ (wsX3_undo_r3 ++ wsX3_undo_r4))) ++ wsX30 ++ wsX10 ++ wsX20 ++ wsX00 ++ (vx_atS RX3 53 "java/lang/IllegalStateException" ["java/lang/RuntimeException", "java/lang/Exception"]).filter goodWord)
def wsX3_noteLatest : List Cond := .code yX3_noteLatest cX3_noteLatest 5 none :: ([.fieldLink RX3 37 "LightDesk" "latestList" "[I", .methodLink RX3 104 yX3_cuesOf, .instanceMethod yX3_cuesOf, .selects RX3 yX3_cuesOf yX3_cuesOf, .initialized RX3, .code yX3_cuesOf cX3_cuesOf 2 (some (.object "LightDesk$CueList")), .fieldLink RX3 19 "LightDesk" "list0" "LLightDesk$CueList;", .fieldLink RX3 23 "LightDesk" "list1" "LLightDesk$CueList;", .methodLink RX3 120 yX0_told, .instanceMethod yX0_told, .selects RX0 yX0_told yX0_told, .initialized RX0, .code yX0_told cX0_told 3 (some .int), .fieldLink RX0 24 "LightDesk$CueList" "levels" "[[I", .methodLink RX0 46 yX0_has, .instanceMethod yX0_has, .selects RX0 yX0_has yX0_has, .code yX0_has cX0_has 2 (some .boolean), .fieldLink RX0 43 "LightDesk$CueList" "cues" "I", .static yX3_isChannel, .code yX3_isChannel cX3_isChannel 1 (some .boolean)] ++ wsX30 ++ wsX00)
def wsX3_beginFrom_r1 : List Cond := [Cond.methodLink RX3 104 yX3_cuesOf, Cond.instanceMethod yX3_cuesOf, Cond.selects RX3 yX3_cuesOf yX3_cuesOf, Cond.initialized RX3, Cond.code yX3_cuesOf cX3_cuesOf 2 (some (.object "LightDesk$CueList")), Cond.fieldLink RX3 19 "LightDesk" "list0" "LLightDesk$CueList;", Cond.fieldLink RX3 23 "LightDesk" "list1" "LLightDesk$CueList;", Cond.methodLink RX3 191 yX0_begin, Cond.instanceMethod yX0_begin, Cond.selects RX0 yX0_begin yX0_begin, Cond.initialized RX0, Cond.code yX0_begin cX0_begin 5 none, Cond.fieldLink RX0 27 "LightDesk$CueList" "from" "[I", Cond.fieldLink RX0 30 "LightDesk$CueList" "to" "[I", Cond.fieldLink RX0 33 "LightDesk$CueList" "begun" "I", Cond.fieldLink RX0 66 "LightDesk$CueList" "elapsed" "I", Cond.methodLink RX0 62 yX0_levelNow, Cond.instanceMethod yX0_levelNow, Cond.selects RX0 yX0_levelNow yX0_levelNow, Cond.code yX0_levelNow cX0_levelNow 4 (some .int), Cond.fieldLink RX0 15 "LightDesk$CueList" "fades" "[I", Cond.fieldLink RX0 9 "LightDesk$CueList" "delays" "[I", Cond.methodLink RX0 46 yX0_has, Cond.instanceMethod yX0_has]
def wsX3_beginFrom_r2 : List Cond := [Cond.selects RX0 yX0_has yX0_has, Cond.code yX0_has cX0_has 2 (some .boolean), Cond.fieldLink RX0 43 "LightDesk$CueList" "cues" "I", Cond.static yX3_isChannel, Cond.code yX3_isChannel cX3_isChannel 1 (some .boolean), Cond.methodLink RX0 53 yX0_told, Cond.instanceMethod yX0_told, Cond.selects RX0 yX0_told yX0_told, Cond.code yX0_told cX0_told 3 (some .int), Cond.fieldLink RX0 24 "LightDesk$CueList" "levels" "[[I", Cond.methodLink RX3 194 yX3_noteLatest, Cond.instanceMethod yX3_noteLatest, Cond.selects RX3 yX3_noteLatest yX3_noteLatest, Cond.code yX3_noteLatest cX3_noteLatest 5 none, Cond.fieldLink RX3 37 "LightDesk" "latestList" "[I", Cond.methodLink RX3 120 yX0_told, Cond.methodLink RX3 197 yX0_isOver, Cond.instanceMethod yX0_isOver, Cond.selects RX0 yX0_isOver yX0_isOver, Cond.code yX0_isOver cX0_isOver 1 (some .boolean), Cond.methodLink RX3 200 yX0_follower, Cond.instanceMethod yX0_follower, Cond.selects RX0 yX0_follower yX0_follower, Cond.code yX0_follower cX0_follower 2 (some .int)]
def wsX3_beginFrom_r3 : List Cond := [Cond.fieldLink RX0 18 "LightDesk$CueList" "follow" "[Z"]
def wsX3_beginFrom : List Cond := .code yX3_beginFrom cX3_beginFrom 6 (some .int) :: ((wsX3_beginFrom_r1 ++ (wsX3_beginFrom_r2 ++ wsX3_beginFrom_r3)) ++ wsX30 ++ wsX00)
def wsX3_go_r1 : List Cond := [Cond.methodLink RX3 98 yX3_needList, Cond.static yX3_needList, Cond.initialized RX3, Cond.code yX3_needList cX3_needList 1 none, Cond.classLink RX3 147 "java/lang/IllegalArgumentException", Cond.initialized "java/lang/IllegalArgumentException", Cond.methodLink RX3 117 yX3_needCue, Cond.instanceMethod yX3_needCue, Cond.selects RX3 yX3_needCue yX3_needCue, Cond.code yX3_needCue cX3_needCue 3 none, Cond.classLink RX3 212 "java/lang/IndexOutOfBoundsException", Cond.initialized "java/lang/IndexOutOfBoundsException", Cond.methodLink RX3 104 yX3_cuesOf, Cond.instanceMethod yX3_cuesOf, Cond.selects RX3 yX3_cuesOf yX3_cuesOf, Cond.code yX3_cuesOf cX3_cuesOf 2 (some (.object "LightDesk$CueList")), Cond.fieldLink RX3 19 "LightDesk" "list0" "LLightDesk$CueList;", Cond.fieldLink RX3 23 "LightDesk" "list1" "LLightDesk$CueList;", Cond.methodLink RX3 217 yX0_has, Cond.instanceMethod yX0_has, Cond.selects RX0 yX0_has yX0_has, Cond.initialized RX0, Cond.code yX0_has cX0_has 2 (some .boolean), Cond.fieldLink RX0 43 "LightDesk$CueList" "cues" "I"]
def wsX3_go_r2 : List Cond := [Cond.methodLink RX3 141 yX0_countTold, Cond.instanceMethod yX0_countTold, Cond.selects RX0 yX0_countTold yX0_countTold, Cond.code yX0_countTold cX0_countTold 4 (some .int), Cond.methodLink RX0 53 yX0_told, Cond.instanceMethod yX0_told, Cond.selects RX0 yX0_told yX0_told, Cond.code yX0_told cX0_told 3 (some .int), Cond.fieldLink RX0 24 "LightDesk$CueList" "levels" "[[I", Cond.methodLink RX0 46 yX0_has, Cond.static yX3_isChannel, Cond.code yX3_isChannel cX3_isChannel 1 (some .boolean), Cond.methodLink RX3 144 yX3_beginFrom, Cond.instanceMethod yX3_beginFrom, Cond.selects RX3 yX3_beginFrom yX3_beginFrom, Cond.code yX3_beginFrom cX3_beginFrom 6 (some .int), Cond.methodLink RX3 191 yX0_begin, Cond.instanceMethod yX0_begin, Cond.selects RX0 yX0_begin yX0_begin, Cond.code yX0_begin cX0_begin 5 none, Cond.fieldLink RX0 27 "LightDesk$CueList" "from" "[I", Cond.fieldLink RX0 30 "LightDesk$CueList" "to" "[I", Cond.fieldLink RX0 33 "LightDesk$CueList" "begun" "I", Cond.fieldLink RX0 66 "LightDesk$CueList" "elapsed" "I"]
def wsX3_go_r3 : List Cond := [Cond.methodLink RX0 62 yX0_levelNow, Cond.instanceMethod yX0_levelNow, Cond.selects RX0 yX0_levelNow yX0_levelNow, Cond.code yX0_levelNow cX0_levelNow 4 (some .int), Cond.fieldLink RX0 15 "LightDesk$CueList" "fades" "[I", Cond.fieldLink RX0 9 "LightDesk$CueList" "delays" "[I", Cond.methodLink RX3 194 yX3_noteLatest, Cond.instanceMethod yX3_noteLatest, Cond.selects RX3 yX3_noteLatest yX3_noteLatest, Cond.code yX3_noteLatest cX3_noteLatest 5 none, Cond.fieldLink RX3 37 "LightDesk" "latestList" "[I", Cond.methodLink RX3 120 yX0_told, Cond.methodLink RX3 197 yX0_isOver, Cond.instanceMethod yX0_isOver, Cond.selects RX0 yX0_isOver yX0_isOver, Cond.code yX0_isOver cX0_isOver 1 (some .boolean), Cond.methodLink RX3 200 yX0_follower, Cond.instanceMethod yX0_follower, Cond.selects RX0 yX0_follower yX0_follower, Cond.code yX0_follower cX0_follower 2 (some .int), Cond.fieldLink RX0 18 "LightDesk$CueList" "follow" "[Z"]
def wsX3_go : List Cond := .code yX3_go cX3_go 4 (some .int) :: ((wsX3_go_r1 ++ (wsX3_go_r2 ++ wsX3_go_r3)) ++ wsX30 ++ wsX00 ++ (vx_atS RX3 151 "java/lang/IllegalArgumentException" ["java/lang/RuntimeException", "java/lang/Exception"]).filter goodWord ++ (vx_atS RX3 216 "java/lang/IndexOutOfBoundsException" ["java/lang/RuntimeException", "java/lang/Exception"]).filter goodWord)
def wsX3_passTenth_r1 : List Cond := [Cond.methodLink RX3 104 yX3_cuesOf, Cond.instanceMethod yX3_cuesOf, Cond.selects RX3 yX3_cuesOf yX3_cuesOf, Cond.initialized RX3, Cond.code yX3_cuesOf cX3_cuesOf 2 (some (.object "LightDesk$CueList")), Cond.fieldLink RX3 19 "LightDesk" "list0" "LLightDesk$CueList;", Cond.fieldLink RX3 23 "LightDesk" "list1" "LLightDesk$CueList;", Cond.methodLink RX3 203 yX0_endsInNextTenth, Cond.instanceMethod yX0_endsInNextTenth, Cond.selects RX0 yX0_endsInNextTenth yX0_endsInNextTenth, Cond.initialized RX0, Cond.code yX0_endsInNextTenth cX0_endsInNextTenth 1 (some .boolean), Cond.fieldLink RX0 66 "LightDesk$CueList" "elapsed" "I", Cond.methodLink RX0 69 yX0_isOver, Cond.instanceMethod yX0_isOver, Cond.selects RX0 yX0_isOver yX0_isOver, Cond.code yX0_isOver cX0_isOver 1 (some .boolean), Cond.fieldLink RX0 33 "LightDesk$CueList" "begun" "I", Cond.fieldLink RX0 9 "LightDesk$CueList" "delays" "[I", Cond.fieldLink RX0 15 "LightDesk$CueList" "fades" "[I", Cond.methodLink RX0 46 yX0_has, Cond.instanceMethod yX0_has, Cond.selects RX0 yX0_has yX0_has, Cond.code yX0_has cX0_has 2 (some .boolean)]
def wsX3_passTenth_r2 : List Cond := [Cond.fieldLink RX0 43 "LightDesk$CueList" "cues" "I", Cond.methodLink RX3 200 yX0_follower, Cond.instanceMethod yX0_follower, Cond.selects RX0 yX0_follower yX0_follower, Cond.code yX0_follower cX0_follower 2 (some .int), Cond.fieldLink RX0 18 "LightDesk$CueList" "follow" "[Z", Cond.methodLink RX3 144 yX3_beginFrom, Cond.instanceMethod yX3_beginFrom, Cond.selects RX3 yX3_beginFrom yX3_beginFrom, Cond.code yX3_beginFrom cX3_beginFrom 6 (some .int), Cond.methodLink RX3 191 yX0_begin, Cond.instanceMethod yX0_begin, Cond.selects RX0 yX0_begin yX0_begin, Cond.code yX0_begin cX0_begin 5 none, Cond.fieldLink RX0 27 "LightDesk$CueList" "from" "[I", Cond.fieldLink RX0 30 "LightDesk$CueList" "to" "[I", Cond.methodLink RX0 62 yX0_levelNow, Cond.instanceMethod yX0_levelNow, Cond.selects RX0 yX0_levelNow yX0_levelNow, Cond.code yX0_levelNow cX0_levelNow 4 (some .int), Cond.static yX3_isChannel, Cond.code yX3_isChannel cX3_isChannel 1 (some .boolean), Cond.methodLink RX0 53 yX0_told, Cond.instanceMethod yX0_told]
def wsX3_passTenth_r3 : List Cond := [Cond.selects RX0 yX0_told yX0_told, Cond.code yX0_told cX0_told 3 (some .int), Cond.fieldLink RX0 24 "LightDesk$CueList" "levels" "[[I", Cond.methodLink RX3 194 yX3_noteLatest, Cond.instanceMethod yX3_noteLatest, Cond.selects RX3 yX3_noteLatest yX3_noteLatest, Cond.code yX3_noteLatest cX3_noteLatest 5 none, Cond.fieldLink RX3 37 "LightDesk" "latestList" "[I", Cond.methodLink RX3 120 yX0_told, Cond.methodLink RX3 197 yX0_isOver]
def wsX3_passTenth : List Cond := .code yX3_passTenth cX3_passTenth 3 (some .int) :: ((wsX3_passTenth_r1 ++ (wsX3_passTenth_r2 ++ wsX3_passTenth_r3)) ++ wsX30 ++ wsX00)
def wsX3_pass_r1 : List Cond := [Cond.classLink RX3 147 "java/lang/IllegalArgumentException", Cond.initialized "java/lang/IllegalArgumentException", Cond.methodLink RX3 152 yX3_passTenth, Cond.instanceMethod yX3_passTenth, Cond.selects RX3 yX3_passTenth yX3_passTenth, Cond.initialized RX3, Cond.code yX3_passTenth cX3_passTenth 3 (some .int), Cond.methodLink RX3 104 yX3_cuesOf, Cond.instanceMethod yX3_cuesOf, Cond.selects RX3 yX3_cuesOf yX3_cuesOf, Cond.code yX3_cuesOf cX3_cuesOf 2 (some (.object "LightDesk$CueList")), Cond.fieldLink RX3 19 "LightDesk" "list0" "LLightDesk$CueList;", Cond.fieldLink RX3 23 "LightDesk" "list1" "LLightDesk$CueList;", Cond.methodLink RX3 203 yX0_endsInNextTenth, Cond.instanceMethod yX0_endsInNextTenth, Cond.selects RX0 yX0_endsInNextTenth yX0_endsInNextTenth, Cond.initialized RX0, Cond.code yX0_endsInNextTenth cX0_endsInNextTenth 1 (some .boolean), Cond.fieldLink RX0 66 "LightDesk$CueList" "elapsed" "I", Cond.methodLink RX0 69 yX0_isOver, Cond.instanceMethod yX0_isOver, Cond.selects RX0 yX0_isOver yX0_isOver, Cond.code yX0_isOver cX0_isOver 1 (some .boolean), Cond.fieldLink RX0 33 "LightDesk$CueList" "begun" "I"]
def wsX3_pass_r2 : List Cond := [Cond.fieldLink RX0 9 "LightDesk$CueList" "delays" "[I", Cond.fieldLink RX0 15 "LightDesk$CueList" "fades" "[I", Cond.methodLink RX0 46 yX0_has, Cond.instanceMethod yX0_has, Cond.selects RX0 yX0_has yX0_has, Cond.code yX0_has cX0_has 2 (some .boolean), Cond.fieldLink RX0 43 "LightDesk$CueList" "cues" "I", Cond.methodLink RX3 200 yX0_follower, Cond.instanceMethod yX0_follower, Cond.selects RX0 yX0_follower yX0_follower, Cond.code yX0_follower cX0_follower 2 (some .int), Cond.fieldLink RX0 18 "LightDesk$CueList" "follow" "[Z", Cond.methodLink RX3 144 yX3_beginFrom, Cond.instanceMethod yX3_beginFrom, Cond.selects RX3 yX3_beginFrom yX3_beginFrom, Cond.code yX3_beginFrom cX3_beginFrom 6 (some .int), Cond.methodLink RX3 191 yX0_begin, Cond.instanceMethod yX0_begin, Cond.selects RX0 yX0_begin yX0_begin, Cond.code yX0_begin cX0_begin 5 none, Cond.fieldLink RX0 27 "LightDesk$CueList" "from" "[I", Cond.fieldLink RX0 30 "LightDesk$CueList" "to" "[I", Cond.methodLink RX0 62 yX0_levelNow, Cond.instanceMethod yX0_levelNow]
def wsX3_pass_r3 : List Cond := [Cond.selects RX0 yX0_levelNow yX0_levelNow, Cond.code yX0_levelNow cX0_levelNow 4 (some .int), Cond.static yX3_isChannel, Cond.code yX3_isChannel cX3_isChannel 1 (some .boolean), Cond.methodLink RX0 53 yX0_told, Cond.instanceMethod yX0_told, Cond.selects RX0 yX0_told yX0_told, Cond.code yX0_told cX0_told 3 (some .int), Cond.fieldLink RX0 24 "LightDesk$CueList" "levels" "[[I", Cond.methodLink RX3 194 yX3_noteLatest, Cond.instanceMethod yX3_noteLatest, Cond.selects RX3 yX3_noteLatest yX3_noteLatest, Cond.code yX3_noteLatest cX3_noteLatest 5 none, Cond.fieldLink RX3 37 "LightDesk" "latestList" "[I", Cond.methodLink RX3 120 yX0_told, Cond.methodLink RX3 197 yX0_isOver]
def wsX3_pass : List Cond := .code yX3_pass cX3_pass 4 (some .int) :: ((wsX3_pass_r1 ++ (wsX3_pass_r2 ++ wsX3_pass_r3)) ++ wsX30 ++ wsX00 ++ (vx_atS RX3 151 "java/lang/IllegalArgumentException" ["java/lang/RuntimeException", "java/lang/Exception"]).filter goodWord)
def wsX3_running : List Cond := .code yX3_running cX3_running 2 (some .int) :: ([.methodLink RX3 98 yX3_needList, .static yX3_needList, .initialized RX3, .code yX3_needList cX3_needList 1 none, .classLink RX3 147 "java/lang/IllegalArgumentException", .initialized "java/lang/IllegalArgumentException", .methodLink RX3 104 yX3_cuesOf, .instanceMethod yX3_cuesOf, .selects RX3 yX3_cuesOf yX3_cuesOf, .code yX3_cuesOf cX3_cuesOf 2 (some (.object "LightDesk$CueList")), .fieldLink RX3 19 "LightDesk" "list0" "LLightDesk$CueList;", .fieldLink RX3 23 "LightDesk" "list1" "LLightDesk$CueList;", .methodLink RX3 155 yX0_begunLast, .instanceMethod yX0_begunLast, .selects RX0 yX0_begunLast yX0_begunLast, .initialized RX0, .code yX0_begunLast cX0_begunLast 1 (some .int), .fieldLink RX0 33 "LightDesk$CueList" "begun" "I"] ++ wsX30 ++ wsX00 ++ (vx_atS RX3 151 "java/lang/IllegalArgumentException" ["java/lang/RuntimeException", "java/lang/Exception"]).filter goodWord)
def wsX3_level_r1 : List Cond := [Cond.methodLink RX3 98 yX3_needList, Cond.static yX3_needList, Cond.initialized RX3, Cond.code yX3_needList cX3_needList 1 none, Cond.classLink RX3 147 "java/lang/IllegalArgumentException", Cond.initialized "java/lang/IllegalArgumentException", Cond.methodLink RX3 95 yX3_needChannel, Cond.static yX3_needChannel, Cond.code yX3_needChannel cX3_needChannel 1 none, Cond.methodLink RX3 182 yX3_isChannel, Cond.static yX3_isChannel, Cond.code yX3_isChannel cX3_isChannel 1 (some .boolean), Cond.methodLink RX3 104 yX3_cuesOf, Cond.instanceMethod yX3_cuesOf, Cond.selects RX3 yX3_cuesOf yX3_cuesOf, Cond.code yX3_cuesOf cX3_cuesOf 2 (some (.object "LightDesk$CueList")), Cond.fieldLink RX3 19 "LightDesk" "list0" "LLightDesk$CueList;", Cond.fieldLink RX3 23 "LightDesk" "list1" "LLightDesk$CueList;", Cond.methodLink RX3 158 yX0_levelNow, Cond.instanceMethod yX0_levelNow, Cond.selects RX0 yX0_levelNow yX0_levelNow, Cond.initialized RX0, Cond.code yX0_levelNow cX0_levelNow 4 (some .int), Cond.fieldLink RX0 33 "LightDesk$CueList" "begun" "I"]
def wsX3_level_r2 : List Cond := [Cond.fieldLink RX0 15 "LightDesk$CueList" "fades" "[I", Cond.fieldLink RX0 66 "LightDesk$CueList" "elapsed" "I", Cond.fieldLink RX0 9 "LightDesk$CueList" "delays" "[I", Cond.fieldLink RX0 27 "LightDesk$CueList" "from" "[I", Cond.fieldLink RX0 30 "LightDesk$CueList" "to" "[I", Cond.methodLink RX0 46 yX0_has, Cond.instanceMethod yX0_has, Cond.selects RX0 yX0_has yX0_has, Cond.code yX0_has cX0_has 2 (some .boolean), Cond.fieldLink RX0 43 "LightDesk$CueList" "cues" "I"]
def wsX3_level : List Cond := .code yX3_level cX3_level 3 (some .int) :: ((wsX3_level_r1 ++ wsX3_level_r2) ++ wsX30 ++ wsX00 ++ (vx_atS RX3 151 "java/lang/IllegalArgumentException" ["java/lang/RuntimeException", "java/lang/Exception"]).filter goodWord)
def wsX3_mergedNow_r1 : List Cond := [Cond.fieldLink RX3 19 "LightDesk" "list0" "LLightDesk$CueList;", Cond.fieldLink RX3 23 "LightDesk" "list1" "LLightDesk$CueList;", Cond.fieldLink RX3 33 "LightDesk" "latestCounts" "[Z", Cond.fieldLink RX3 37 "LightDesk" "latestList" "[I", Cond.methodLink RX3 186 Lib.Math.max.name, Cond.static Lib.Math.max.name, Cond.initialized "java/lang/Math", Cond.code Lib.Math.max.name Lib.Math.max.code 2 (some .int), Cond.methodLink RX3 158 yX0_levelNow, Cond.instanceMethod yX0_levelNow, Cond.selects RX0 yX0_levelNow yX0_levelNow, Cond.initialized RX0, Cond.code yX0_levelNow cX0_levelNow 4 (some .int), Cond.fieldLink RX0 33 "LightDesk$CueList" "begun" "I", Cond.fieldLink RX0 15 "LightDesk$CueList" "fades" "[I", Cond.fieldLink RX0 66 "LightDesk$CueList" "elapsed" "I", Cond.fieldLink RX0 9 "LightDesk$CueList" "delays" "[I", Cond.fieldLink RX0 27 "LightDesk$CueList" "from" "[I", Cond.fieldLink RX0 30 "LightDesk$CueList" "to" "[I", Cond.methodLink RX0 46 yX0_has, Cond.instanceMethod yX0_has, Cond.selects RX0 yX0_has yX0_has, Cond.code yX0_has cX0_has 2 (some .boolean), Cond.fieldLink RX0 43 "LightDesk$CueList" "cues" "I"]
def wsX3_mergedNow_r2 : List Cond := [Cond.static yX3_isChannel, Cond.initialized RX3, Cond.code yX3_isChannel cX3_isChannel 1 (some .boolean), Cond.methodLink RX3 182 yX3_isChannel]
def wsX3_mergedNow : List Cond := .code yX3_mergedNow cX3_mergedNow 4 (some .int) :: ((wsX3_mergedNow_r1 ++ wsX3_mergedNow_r2) ++ wsX30 ++ wsX00)
def wsX3_merged_r1 : List Cond := [Cond.methodLink RX3 95 yX3_needChannel, Cond.static yX3_needChannel, Cond.initialized RX3, Cond.code yX3_needChannel cX3_needChannel 1 none, Cond.classLink RX3 147 "java/lang/IllegalArgumentException", Cond.initialized "java/lang/IllegalArgumentException", Cond.methodLink RX3 182 yX3_isChannel, Cond.static yX3_isChannel, Cond.code yX3_isChannel cX3_isChannel 1 (some .boolean), Cond.methodLink RX3 161 yX3_mergedNow, Cond.instanceMethod yX3_mergedNow, Cond.selects RX3 yX3_mergedNow yX3_mergedNow, Cond.code yX3_mergedNow cX3_mergedNow 4 (some .int), Cond.fieldLink RX3 19 "LightDesk" "list0" "LLightDesk$CueList;", Cond.fieldLink RX3 23 "LightDesk" "list1" "LLightDesk$CueList;", Cond.fieldLink RX3 33 "LightDesk" "latestCounts" "[Z", Cond.fieldLink RX3 37 "LightDesk" "latestList" "[I", Cond.methodLink RX3 186 Lib.Math.max.name, Cond.static Lib.Math.max.name, Cond.initialized "java/lang/Math", Cond.code Lib.Math.max.name Lib.Math.max.code 2 (some .int), Cond.methodLink RX3 158 yX0_levelNow, Cond.instanceMethod yX0_levelNow, Cond.selects RX0 yX0_levelNow yX0_levelNow]
def wsX3_merged_r2 : List Cond := [Cond.initialized RX0, Cond.code yX0_levelNow cX0_levelNow 4 (some .int), Cond.fieldLink RX0 33 "LightDesk$CueList" "begun" "I", Cond.fieldLink RX0 15 "LightDesk$CueList" "fades" "[I", Cond.fieldLink RX0 66 "LightDesk$CueList" "elapsed" "I", Cond.fieldLink RX0 9 "LightDesk$CueList" "delays" "[I", Cond.fieldLink RX0 27 "LightDesk$CueList" "from" "[I", Cond.fieldLink RX0 30 "LightDesk$CueList" "to" "[I", Cond.methodLink RX0 46 yX0_has, Cond.instanceMethod yX0_has, Cond.selects RX0 yX0_has yX0_has, Cond.code yX0_has cX0_has 2 (some .boolean), Cond.fieldLink RX0 43 "LightDesk$CueList" "cues" "I"]
def wsX3_merged : List Cond := .code yX3_merged cX3_merged 2 (some .int) :: ((wsX3_merged_r1 ++ wsX3_merged_r2) ++ wsX30 ++ wsX00 ++ (vx_atS RX3 151 "java/lang/IllegalArgumentException" ["java/lang/RuntimeException", "java/lang/Exception"]).filter goodWord)
def wsX3_light_r1 : List Cond := [Cond.fieldLink RX3 10 "LightDesk" "rigs" "LLightDesk$Rigs;", Cond.fieldLink RX3 91 "LightDesk" "presentNight" "I", Cond.methodLink RX3 95 yX3_needChannel, Cond.static yX3_needChannel, Cond.initialized RX3, Cond.code yX3_needChannel cX3_needChannel 1 none, Cond.classLink RX3 147 "java/lang/IllegalArgumentException", Cond.initialized "java/lang/IllegalArgumentException", Cond.methodLink RX3 182 yX3_isChannel, Cond.static yX3_isChannel, Cond.code yX3_isChannel cX3_isChannel 1 (some .boolean), Cond.methodLink RX3 161 yX3_mergedNow, Cond.instanceMethod yX3_mergedNow, Cond.selects RX3 yX3_mergedNow yX3_mergedNow, Cond.code yX3_mergedNow cX3_mergedNow 4 (some .int), Cond.fieldLink RX3 19 "LightDesk" "list0" "LLightDesk$CueList;", Cond.fieldLink RX3 23 "LightDesk" "list1" "LLightDesk$CueList;", Cond.fieldLink RX3 33 "LightDesk" "latestCounts" "[Z", Cond.fieldLink RX3 37 "LightDesk" "latestList" "[I", Cond.methodLink RX3 186 Lib.Math.max.name, Cond.static Lib.Math.max.name, Cond.initialized "java/lang/Math", Cond.code Lib.Math.max.name Lib.Math.max.code 2 (some .int), Cond.methodLink RX3 158 yX0_levelNow]
def wsX3_light_r2 : List Cond := [Cond.instanceMethod yX0_levelNow, Cond.selects RX0 yX0_levelNow yX0_levelNow, Cond.initialized RX0, Cond.code yX0_levelNow cX0_levelNow 4 (some .int), Cond.fieldLink RX0 33 "LightDesk$CueList" "begun" "I", Cond.fieldLink RX0 15 "LightDesk$CueList" "fades" "[I", Cond.fieldLink RX0 66 "LightDesk$CueList" "elapsed" "I", Cond.fieldLink RX0 9 "LightDesk$CueList" "delays" "[I", Cond.fieldLink RX0 27 "LightDesk$CueList" "from" "[I", Cond.fieldLink RX0 30 "LightDesk$CueList" "to" "[I", Cond.methodLink RX0 46 yX0_has, Cond.instanceMethod yX0_has, Cond.selects RX0 yX0_has yX0_has, Cond.code yX0_has cX0_has 2 (some .boolean), Cond.fieldLink RX0 43 "LightDesk$CueList" "cues" "I", Cond.methodLink RX3 164 yX2_shineOn, Cond.instanceMethod yX2_shineOn, Cond.selects RX2 yX2_shineOn yX2_shineOn, Cond.initialized RX2, Cond.code yX2_shineOn cX2_shineOn 6 (some .int), Cond.fieldLink RX2 29 "LightDesk$Rigs" "lamps" "I", Cond.methodLink RX2 44 yX2_channelOf, Cond.instanceMethod yX2_channelOf, Cond.selects RX2 yX2_channelOf yX2_channelOf]
def wsX3_light_r3 : List Cond := [Cond.code yX2_channelOf cX2_channelOf 3 (some .int), Cond.fieldLink RX2 20 "LightDesk$Rigs" "channels" "[[I", Cond.static yX3_isNight, Cond.code yX3_isNight cX3_isNight 1 (some .boolean), Cond.methodLink RX2 37 yX2_has, Cond.instanceMethod yX2_has, Cond.selects RX2 yX2_has yX2_has, Cond.code yX2_has cX2_has 2 (some .boolean), Cond.methodLink RX2 48 yX2_shine, Cond.instanceMethod yX2_shine, Cond.selects RX2 yX2_shine yX2_shine, Cond.code yX2_shine cX2_shine 3 (some .int), Cond.methodLink RX2 51 yX2_powerOf, Cond.instanceMethod yX2_powerOf, Cond.selects RX2 yX2_powerOf yX2_powerOf, Cond.code yX2_powerOf cX2_powerOf 2 (some .int), Cond.fieldLink RX2 9 "LightDesk$Rigs" "powers" "[I", Cond.methodLink RX2 55 yX2_gelOf, Cond.instanceMethod yX2_gelOf, Cond.selects RX2 yX2_gelOf yX2_gelOf, Cond.code yX2_gelOf cX2_gelOf 2 (some .int), Cond.fieldLink RX2 15 "LightDesk$Rigs" "gels" "[I", Cond.methodLink RX2 58 yX2_shineOfKind, Cond.static yX2_shineOfKind]
def wsX3_light_r4 : List Cond := [Cond.code yX2_shineOfKind cX2_shineOfKind 3 (some .int)]
def wsX3_light : List Cond := .code yX3_light cX3_light 2 (some .int) :: ((wsX3_light_r1 ++ (wsX3_light_r2 ++ (wsX3_light_r3 ++ wsX3_light_r4))) ++ wsX30 ++ wsX00 ++ wsX20 ++ (vx_atS RX3 151 "java/lang/IllegalArgumentException" ["java/lang/RuntimeException", "java/lang/Exception"]).filter goodWord)
def wsX3_allLight_r1 : List Cond := [Cond.fieldLink RX3 10 "LightDesk" "rigs" "LLightDesk$Rigs;", Cond.fieldLink RX3 91 "LightDesk" "presentNight" "I", Cond.methodLink RX3 161 yX3_mergedNow, Cond.instanceMethod yX3_mergedNow, Cond.selects RX3 yX3_mergedNow yX3_mergedNow, Cond.initialized RX3, Cond.code yX3_mergedNow cX3_mergedNow 4 (some .int), Cond.fieldLink RX3 19 "LightDesk" "list0" "LLightDesk$CueList;", Cond.fieldLink RX3 23 "LightDesk" "list1" "LLightDesk$CueList;", Cond.fieldLink RX3 33 "LightDesk" "latestCounts" "[Z", Cond.fieldLink RX3 37 "LightDesk" "latestList" "[I", Cond.methodLink RX3 186 Lib.Math.max.name, Cond.static Lib.Math.max.name, Cond.initialized "java/lang/Math", Cond.code Lib.Math.max.name Lib.Math.max.code 2 (some .int), Cond.methodLink RX3 158 yX0_levelNow, Cond.instanceMethod yX0_levelNow, Cond.selects RX0 yX0_levelNow yX0_levelNow, Cond.initialized RX0, Cond.code yX0_levelNow cX0_levelNow 4 (some .int), Cond.fieldLink RX0 33 "LightDesk$CueList" "begun" "I", Cond.fieldLink RX0 15 "LightDesk$CueList" "fades" "[I", Cond.fieldLink RX0 66 "LightDesk$CueList" "elapsed" "I", Cond.fieldLink RX0 9 "LightDesk$CueList" "delays" "[I"]
def wsX3_allLight_r2 : List Cond := [Cond.fieldLink RX0 27 "LightDesk$CueList" "from" "[I", Cond.fieldLink RX0 30 "LightDesk$CueList" "to" "[I", Cond.methodLink RX0 46 yX0_has, Cond.instanceMethod yX0_has, Cond.selects RX0 yX0_has yX0_has, Cond.code yX0_has cX0_has 2 (some .boolean), Cond.fieldLink RX0 43 "LightDesk$CueList" "cues" "I", Cond.static yX3_isChannel, Cond.code yX3_isChannel cX3_isChannel 1 (some .boolean), Cond.methodLink RX3 182 yX3_isChannel, Cond.methodLink RX3 164 yX2_shineOn, Cond.instanceMethod yX2_shineOn, Cond.selects RX2 yX2_shineOn yX2_shineOn, Cond.initialized RX2, Cond.code yX2_shineOn cX2_shineOn 6 (some .int), Cond.fieldLink RX2 29 "LightDesk$Rigs" "lamps" "I", Cond.methodLink RX2 44 yX2_channelOf, Cond.instanceMethod yX2_channelOf, Cond.selects RX2 yX2_channelOf yX2_channelOf, Cond.code yX2_channelOf cX2_channelOf 3 (some .int), Cond.fieldLink RX2 20 "LightDesk$Rigs" "channels" "[[I", Cond.static yX3_isNight, Cond.code yX3_isNight cX3_isNight 1 (some .boolean), Cond.methodLink RX2 37 yX2_has]
def wsX3_allLight_r3 : List Cond := [Cond.instanceMethod yX2_has, Cond.selects RX2 yX2_has yX2_has, Cond.code yX2_has cX2_has 2 (some .boolean), Cond.methodLink RX2 48 yX2_shine, Cond.instanceMethod yX2_shine, Cond.selects RX2 yX2_shine yX2_shine, Cond.code yX2_shine cX2_shine 3 (some .int), Cond.methodLink RX2 51 yX2_powerOf, Cond.instanceMethod yX2_powerOf, Cond.selects RX2 yX2_powerOf yX2_powerOf, Cond.code yX2_powerOf cX2_powerOf 2 (some .int), Cond.fieldLink RX2 9 "LightDesk$Rigs" "powers" "[I", Cond.methodLink RX2 55 yX2_gelOf, Cond.instanceMethod yX2_gelOf, Cond.selects RX2 yX2_gelOf yX2_gelOf, Cond.code yX2_gelOf cX2_gelOf 2 (some .int), Cond.fieldLink RX2 15 "LightDesk$Rigs" "gels" "[I", Cond.methodLink RX2 58 yX2_shineOfKind, Cond.static yX2_shineOfKind, Cond.code yX2_shineOfKind cX2_shineOfKind 3 (some .int)]
def wsX3_allLight : List Cond := .code yX3_allLight cX3_allLight 3 (some .int) :: ((wsX3_allLight_r1 ++ (wsX3_allLight_r2 ++ wsX3_allLight_r3)) ++ wsX30 ++ wsX00 ++ wsX20)
def wsX3_preview_r1 : List Cond := [Cond.fieldLink RX3 10 "LightDesk" "rigs" "LLightDesk$Rigs;", Cond.methodLink RX3 98 yX3_needList, Cond.static yX3_needList, Cond.initialized RX3, Cond.code yX3_needList cX3_needList 1 none, Cond.classLink RX3 147 "java/lang/IllegalArgumentException", Cond.initialized "java/lang/IllegalArgumentException", Cond.methodLink RX3 79 yX3_needNight, Cond.static yX3_needNight, Cond.code yX3_needNight cX3_needNight 1 none, Cond.methodLink RX3 224 yX3_isNight, Cond.static yX3_isNight, Cond.code yX3_isNight cX3_isNight 1 (some .boolean), Cond.methodLink RX3 117 yX3_needCue, Cond.instanceMethod yX3_needCue, Cond.selects RX3 yX3_needCue yX3_needCue, Cond.code yX3_needCue cX3_needCue 3 none, Cond.classLink RX3 212 "java/lang/IndexOutOfBoundsException", Cond.initialized "java/lang/IndexOutOfBoundsException", Cond.methodLink RX3 104 yX3_cuesOf, Cond.instanceMethod yX3_cuesOf, Cond.selects RX3 yX3_cuesOf yX3_cuesOf, Cond.code yX3_cuesOf cX3_cuesOf 2 (some (.object "LightDesk$CueList")), Cond.fieldLink RX3 19 "LightDesk" "list0" "LLightDesk$CueList;"]
def wsX3_preview_r2 : List Cond := [Cond.fieldLink RX3 23 "LightDesk" "list1" "LLightDesk$CueList;", Cond.methodLink RX3 217 yX0_has, Cond.instanceMethod yX0_has, Cond.selects RX0 yX0_has yX0_has, Cond.initialized RX0, Cond.code yX0_has cX0_has 2 (some .boolean), Cond.fieldLink RX0 43 "LightDesk$CueList" "cues" "I", Cond.methodLink RX3 168 yX0_toldOrZero, Cond.instanceMethod yX0_toldOrZero, Cond.selects RX0 yX0_toldOrZero yX0_toldOrZero, Cond.code yX0_toldOrZero cX0_toldOrZero 3 (some .int), Cond.methodLink RX0 57 Lib.Math.max.name, Cond.static Lib.Math.max.name, Cond.initialized "java/lang/Math", Cond.code Lib.Math.max.name Lib.Math.max.code 2 (some .int), Cond.methodLink RX0 53 yX0_told, Cond.instanceMethod yX0_told, Cond.selects RX0 yX0_told yX0_told, Cond.code yX0_told cX0_told 3 (some .int), Cond.fieldLink RX0 24 "LightDesk$CueList" "levels" "[[I", Cond.methodLink RX0 46 yX0_has, Cond.static yX3_isChannel, Cond.code yX3_isChannel cX3_isChannel 1 (some .boolean), Cond.methodLink RX3 164 yX2_shineOn]
def wsX3_preview_r3 : List Cond := [Cond.instanceMethod yX2_shineOn, Cond.selects RX2 yX2_shineOn yX2_shineOn, Cond.initialized RX2, Cond.code yX2_shineOn cX2_shineOn 6 (some .int), Cond.fieldLink RX2 29 "LightDesk$Rigs" "lamps" "I", Cond.methodLink RX2 44 yX2_channelOf, Cond.instanceMethod yX2_channelOf, Cond.selects RX2 yX2_channelOf yX2_channelOf, Cond.code yX2_channelOf cX2_channelOf 3 (some .int), Cond.fieldLink RX2 20 "LightDesk$Rigs" "channels" "[[I", Cond.methodLink RX2 37 yX2_has, Cond.instanceMethod yX2_has, Cond.selects RX2 yX2_has yX2_has, Cond.code yX2_has cX2_has 2 (some .boolean), Cond.methodLink RX2 48 yX2_shine, Cond.instanceMethod yX2_shine, Cond.selects RX2 yX2_shine yX2_shine, Cond.code yX2_shine cX2_shine 3 (some .int), Cond.methodLink RX2 51 yX2_powerOf, Cond.instanceMethod yX2_powerOf, Cond.selects RX2 yX2_powerOf yX2_powerOf, Cond.code yX2_powerOf cX2_powerOf 2 (some .int), Cond.fieldLink RX2 9 "LightDesk$Rigs" "powers" "[I", Cond.methodLink RX2 55 yX2_gelOf]
def wsX3_preview_r4 : List Cond := [Cond.instanceMethod yX2_gelOf, Cond.selects RX2 yX2_gelOf yX2_gelOf, Cond.code yX2_gelOf cX2_gelOf 2 (some .int), Cond.fieldLink RX2 15 "LightDesk$Rigs" "gels" "[I", Cond.methodLink RX2 58 yX2_shineOfKind, Cond.static yX2_shineOfKind, Cond.code yX2_shineOfKind cX2_shineOfKind 3 (some .int)]
def wsX3_preview : List Cond := .code yX3_preview cX3_preview 7 (some .int) :: ((wsX3_preview_r1 ++ (wsX3_preview_r2 ++ (wsX3_preview_r3 ++ wsX3_preview_r4))) ++ wsX30 ++ wsX00 ++ wsX20 ++ (vx_atS RX3 151 "java/lang/IllegalArgumentException" ["java/lang/RuntimeException", "java/lang/Exception"]).filter goodWord ++ (vx_atS RX3 216 "java/lang/IndexOutOfBoundsException" ["java/lang/RuntimeException", "java/lang/Exception"]).filter goodWord)
def wsX3_countTouched_r1 : List Cond := [Cond.fieldLink RX3 10 "LightDesk" "rigs" "LLightDesk$Rigs;", Cond.methodLink RX3 175 yX0_size, Cond.instanceMethod yX0_size, Cond.selects RX0 yX0_size yX0_size, Cond.initialized RX0, Cond.code yX0_size cX0_size 1 (some .int), Cond.fieldLink RX0 43 "LightDesk$CueList" "cues" "I", Cond.methodLink RX3 168 yX0_toldOrZero, Cond.instanceMethod yX0_toldOrZero, Cond.selects RX0 yX0_toldOrZero yX0_toldOrZero, Cond.code yX0_toldOrZero cX0_toldOrZero 3 (some .int), Cond.methodLink RX0 57 Lib.Math.max.name, Cond.static Lib.Math.max.name, Cond.initialized "java/lang/Math", Cond.code Lib.Math.max.name Lib.Math.max.code 2 (some .int), Cond.methodLink RX0 53 yX0_told, Cond.instanceMethod yX0_told, Cond.selects RX0 yX0_told yX0_told, Cond.code yX0_told cX0_told 3 (some .int), Cond.fieldLink RX0 24 "LightDesk$CueList" "levels" "[[I", Cond.methodLink RX0 46 yX0_has, Cond.instanceMethod yX0_has, Cond.selects RX0 yX0_has yX0_has, Cond.code yX0_has cX0_has 2 (some .boolean)]
def wsX3_countTouched_r2 : List Cond := [Cond.static yX3_isChannel, Cond.initialized RX3, Cond.code yX3_isChannel cX3_isChannel 1 (some .boolean), Cond.methodLink RX3 176 yX2_shine, Cond.instanceMethod yX2_shine, Cond.selects RX2 yX2_shine yX2_shine, Cond.initialized RX2, Cond.code yX2_shine cX2_shine 3 (some .int), Cond.methodLink RX2 51 yX2_powerOf, Cond.instanceMethod yX2_powerOf, Cond.selects RX2 yX2_powerOf yX2_powerOf, Cond.code yX2_powerOf cX2_powerOf 2 (some .int), Cond.fieldLink RX2 9 "LightDesk$Rigs" "powers" "[I", Cond.methodLink RX2 37 yX2_has, Cond.instanceMethod yX2_has, Cond.selects RX2 yX2_has yX2_has, Cond.code yX2_has cX2_has 2 (some .boolean), Cond.fieldLink RX2 29 "LightDesk$Rigs" "lamps" "I", Cond.methodLink RX2 55 yX2_gelOf, Cond.instanceMethod yX2_gelOf, Cond.selects RX2 yX2_gelOf yX2_gelOf, Cond.code yX2_gelOf cX2_gelOf 2 (some .int), Cond.fieldLink RX2 15 "LightDesk$Rigs" "gels" "[I", Cond.methodLink RX2 58 yX2_shineOfKind]
def wsX3_countTouched_r3 : List Cond := [Cond.static yX2_shineOfKind, Cond.code yX2_shineOfKind cX2_shineOfKind 3 (some .int), Cond.methodLink RX3 179 yX2_shineOfKind]
def wsX3_countTouched : List Cond := .code yX3_countTouched cX3_countTouched 9 (some .int) :: ((wsX3_countTouched_r1 ++ (wsX3_countTouched_r2 ++ wsX3_countTouched_r3)) ++ wsX30 ++ wsX00 ++ wsX20)
def wsX3_touched_r1 : List Cond := [Cond.fieldLink RX3 10 "LightDesk" "rigs" "LLightDesk$Rigs;", Cond.fieldLink RX3 19 "LightDesk" "list0" "LLightDesk$CueList;", Cond.fieldLink RX3 23 "LightDesk" "list1" "LLightDesk$CueList;", Cond.methodLink RX3 60 yX3_needLamp, Cond.instanceMethod yX3_needLamp, Cond.selects RX3 yX3_needLamp yX3_needLamp, Cond.initialized RX3, Cond.code yX3_needLamp cX3_needLamp 2 none, Cond.classLink RX3 212 "java/lang/IndexOutOfBoundsException", Cond.initialized "java/lang/IndexOutOfBoundsException", Cond.methodLink RX3 209 yX2_has, Cond.instanceMethod yX2_has, Cond.selects RX2 yX2_has yX2_has, Cond.initialized RX2, Cond.code yX2_has cX2_has 2 (some .boolean), Cond.fieldLink RX2 29 "LightDesk$Rigs" "lamps" "I", Cond.methodLink RX3 41 yX3_needLampKind, Cond.static yX3_needLampKind, Cond.code yX3_needLampKind cX3_needLampKind 2 none, Cond.classLink RX3 147 "java/lang/IllegalArgumentException", Cond.initialized "java/lang/IllegalArgumentException", Cond.methodLink RX3 79 yX3_needNight, Cond.static yX3_needNight, Cond.code yX3_needNight cX3_needNight 1 none]
def wsX3_touched_r2 : List Cond := [Cond.methodLink RX3 224 yX3_isNight, Cond.static yX3_isNight, Cond.code yX3_isNight cX3_isNight 1 (some .boolean), Cond.methodLink RX3 85 yX2_channelOf, Cond.instanceMethod yX2_channelOf, Cond.selects RX2 yX2_channelOf yX2_channelOf, Cond.code yX2_channelOf cX2_channelOf 3 (some .int), Cond.fieldLink RX2 20 "LightDesk$Rigs" "channels" "[[I", Cond.methodLink RX2 37 yX2_has, Cond.methodLink RX3 171 yX3_countTouched, Cond.instanceMethod yX3_countTouched, Cond.selects RX3 yX3_countTouched yX3_countTouched, Cond.code yX3_countTouched cX3_countTouched 9 (some .int), Cond.methodLink RX3 175 yX0_size, Cond.instanceMethod yX0_size, Cond.selects RX0 yX0_size yX0_size, Cond.initialized RX0, Cond.code yX0_size cX0_size 1 (some .int), Cond.fieldLink RX0 43 "LightDesk$CueList" "cues" "I", Cond.methodLink RX3 168 yX0_toldOrZero, Cond.instanceMethod yX0_toldOrZero, Cond.selects RX0 yX0_toldOrZero yX0_toldOrZero, Cond.code yX0_toldOrZero cX0_toldOrZero 3 (some .int), Cond.methodLink RX0 57 Lib.Math.max.name]
def wsX3_touched_r3 : List Cond := [Cond.static Lib.Math.max.name, Cond.initialized "java/lang/Math", Cond.code Lib.Math.max.name Lib.Math.max.code 2 (some .int), Cond.methodLink RX0 53 yX0_told, Cond.instanceMethod yX0_told, Cond.selects RX0 yX0_told yX0_told, Cond.code yX0_told cX0_told 3 (some .int), Cond.fieldLink RX0 24 "LightDesk$CueList" "levels" "[[I", Cond.methodLink RX0 46 yX0_has, Cond.instanceMethod yX0_has, Cond.selects RX0 yX0_has yX0_has, Cond.code yX0_has cX0_has 2 (some .boolean), Cond.static yX3_isChannel, Cond.code yX3_isChannel cX3_isChannel 1 (some .boolean), Cond.methodLink RX3 176 yX2_shine, Cond.instanceMethod yX2_shine, Cond.selects RX2 yX2_shine yX2_shine, Cond.code yX2_shine cX2_shine 3 (some .int), Cond.methodLink RX2 51 yX2_powerOf, Cond.instanceMethod yX2_powerOf, Cond.selects RX2 yX2_powerOf yX2_powerOf, Cond.code yX2_powerOf cX2_powerOf 2 (some .int), Cond.fieldLink RX2 9 "LightDesk$Rigs" "powers" "[I", Cond.methodLink RX2 55 yX2_gelOf]
def wsX3_touched_r4 : List Cond := [Cond.instanceMethod yX2_gelOf, Cond.selects RX2 yX2_gelOf yX2_gelOf, Cond.code yX2_gelOf cX2_gelOf 2 (some .int), Cond.fieldLink RX2 15 "LightDesk$Rigs" "gels" "[I", Cond.methodLink RX2 58 yX2_shineOfKind, Cond.static yX2_shineOfKind, Cond.code yX2_shineOfKind cX2_shineOfKind 3 (some .int), Cond.methodLink RX3 179 yX2_shineOfKind]
def wsX3_touched : List Cond := .code yX3_touched cX3_touched 6 (some .int) :: ((wsX3_touched_r1 ++ (wsX3_touched_r2 ++ (wsX3_touched_r3 ++ wsX3_touched_r4))) ++ wsX30 ++ wsX20 ++ wsX00 ++ (vx_atS RX3 216 "java/lang/IndexOutOfBoundsException" ["java/lang/RuntimeException", "java/lang/Exception"]).filter goodWord ++ (vx_atS RX3 151 "java/lang/IllegalArgumentException" ["java/lang/RuntimeException", "java/lang/Exception"]).filter goodWord)
def wsX4_init : List Cond := .code yX4_init cX4_init 1 none :: ([.methodLink RX4 1 objectInit, .instanceMethod objectInit, .code objectInit ⟨#[0xb1]⟩ 1 none, .arrayClass .int, .fieldLink RX4 7 "LightDeskModel" "powers" "[I", .fieldLink RX4 13 "LightDeskModel" "gels" "[I", .fieldLink RX4 16 "LightDeskModel" "hung" "[I", .fieldLink RX4 19 "LightDeskModel" "latest" "[I", .fieldLink RX4 22 "LightDeskModel" "last" "[I", .fieldLink RX4 25 "LightDeskModel" "cues" "[I", .fieldLink RX4 28 "LightDeskModel" "delays" "[I", .fieldLink RX4 31 "LightDeskModel" "fades" "[I", .fieldLink RX4 34 "LightDeskModel" "follow" "[I", .fieldLink RX4 37 "LightDeskModel" "levels" "[I", .fieldLink RX4 40 "LightDeskModel" "runs" "[I", .fieldLink RX4 43 "LightDeskModel" "since" "[I", .fieldLink RX4 46 "LightDeskModel" "old" "[I", .fieldLink RX4 49 "LightDeskModel" "goals" "[I", .fieldLink RX4 52 "LightDeskModel" "sorts" "[I", .fieldLink RX4 55 "LightDeskModel" "places" "[I", .fieldLink RX4 58 "LightDeskModel" "values" "[I", .fieldLink RX4 61 "LightDeskModel" "others" "[I"] ++ wsX40)
def wsX4_thrown : List Cond := .code yX4_thrown cX4_thrown 1 (some .int) :: ([.fieldLink RX4 64 "LightDeskModel" "thrown" "I"] ++ wsX40)
def wsX4_fails : List Cond := .code yX4_fails cX4_fails 2 (some .int) :: ([.fieldLink RX4 64 "LightDeskModel" "thrown" "I"] ++ wsX40)
def wsX4_in : List Cond := .code yX4_in cX4_in 3 (some .boolean) :: ([])
def wsX4_isList : List Cond := .code yX4_isList cX4_isList 1 (some .boolean) :: ([.methodLink RX4 68 yX4_in, .static yX4_in, .initialized RX4, .code yX4_in cX4_in 3 (some .boolean)])
def wsX4_isChannel : List Cond := .code yX4_isChannel cX4_isChannel 1 (some .boolean) :: ([.methodLink RX4 68 yX4_in, .static yX4_in, .initialized RX4, .code yX4_in cX4_in 3 (some .boolean)])
def wsX4_isNight : List Cond := .code yX4_isNight cX4_isNight 1 (some .boolean) :: ([.methodLink RX4 68 yX4_in, .static yX4_in, .initialized RX4, .code yX4_in cX4_in 3 (some .boolean)])
def wsX4_isMade : List Cond := .code yX4_isMade cX4_isMade 2 (some .boolean) :: ([.methodLink RX4 68 yX4_in, .static yX4_in, .initialized RX4, .code yX4_in cX4_in 3 (some .boolean)])
def wsX4_isLamp : List Cond := .code yX4_isLamp cX4_isLamp 2 (some .boolean) :: ([.fieldLink RX4 72 "LightDeskModel" "lamps" "I", .methodLink RX4 68 yX4_in, .static yX4_in, .initialized RX4, .code yX4_in cX4_in 3 (some .boolean)] ++ wsX40)
def wsX4_keeps : List Cond := .code yX4_keeps cX4_keeps 6 none :: ([.fieldLink RX4 75 "LightDeskModel" "changes" "I", .fieldLink RX4 52 "LightDeskModel" "sorts" "[I", .fieldLink RX4 55 "LightDeskModel" "places" "[I", .fieldLink RX4 58 "LightDeskModel" "values" "[I", .fieldLink RX4 61 "LightDeskModel" "others" "[I"] ++ wsX40)
def wsX4_undo : List Cond := .code yX4_undo cX4_undo 2 (some .int) :: ([.fieldLink RX4 75 "LightDeskModel" "changes" "I", .fieldLink RX4 64 "LightDeskModel" "thrown" "I", .fieldLink RX4 55 "LightDeskModel" "places" "[I", .fieldLink RX4 52 "LightDeskModel" "sorts" "[I", .fieldLink RX4 7 "LightDeskModel" "powers" "[I", .fieldLink RX4 58 "LightDeskModel" "values" "[I", .fieldLink RX4 13 "LightDeskModel" "gels" "[I", .fieldLink RX4 61 "LightDeskModel" "others" "[I", .fieldLink RX4 16 "LightDeskModel" "hung" "[I", .fieldLink RX4 37 "LightDeskModel" "levels" "[I"] ++ wsX40)
def wsX4_addLamp : List Cond := .code yX4_addLamp cX4_addLamp 3 (some .int) :: ([.fieldLink RX4 72 "LightDeskModel" "lamps" "I", .fieldLink RX4 64 "LightDeskModel" "thrown" "I", .fieldLink RX4 7 "LightDeskModel" "powers" "[I", .fieldLink RX4 13 "LightDeskModel" "gels" "[I", .methodLink RX4 78 yX4_isMade, .static yX4_isMade, .initialized RX4, .code yX4_isMade cX4_isMade 2 (some .boolean), .methodLink RX4 68 yX4_in, .static yX4_in, .code yX4_in cX4_in 3 (some .boolean)] ++ wsX40)
def wsX4_swap : List Cond := .code yX4_swap cX4_swap 4 none :: ([.fieldLink RX4 64 "LightDeskModel" "thrown" "I", .fieldLink RX4 7 "LightDeskModel" "powers" "[I", .fieldLink RX4 13 "LightDeskModel" "gels" "[I", .methodLink RX4 82 yX4_isLamp, .instanceMethod yX4_isLamp, .selects RX4 yX4_isLamp yX4_isLamp, .initialized RX4, .code yX4_isLamp cX4_isLamp 2 (some .boolean), .fieldLink RX4 72 "LightDeskModel" "lamps" "I", .methodLink RX4 68 yX4_in, .static yX4_in, .code yX4_in cX4_in 3 (some .boolean), .methodLink RX4 78 yX4_isMade, .static yX4_isMade, .code yX4_isMade cX4_isMade 2 (some .boolean), .methodLink RX4 86 yX4_keeps, .instanceMethod yX4_keeps, .selects RX4 yX4_keeps yX4_keeps, .code yX4_keeps cX4_keeps 6 none, .fieldLink RX4 75 "LightDeskModel" "changes" "I", .fieldLink RX4 52 "LightDeskModel" "sorts" "[I", .fieldLink RX4 55 "LightDeskModel" "places" "[I", .fieldLink RX4 58 "LightDeskModel" "values" "[I", .fieldLink RX4 61 "LightDeskModel" "others" "[I"] ++ wsX40)
def wsX4_hang_r1 : List Cond := [Cond.fieldLink RX4 64 "LightDeskModel" "thrown" "I", Cond.fieldLink RX4 16 "LightDeskModel" "hung" "[I", Cond.methodLink RX4 82 yX4_isLamp, Cond.instanceMethod yX4_isLamp, Cond.selects RX4 yX4_isLamp yX4_isLamp, Cond.initialized RX4, Cond.code yX4_isLamp cX4_isLamp 2 (some .boolean), Cond.fieldLink RX4 72 "LightDeskModel" "lamps" "I", Cond.methodLink RX4 68 yX4_in, Cond.static yX4_in, Cond.code yX4_in cX4_in 3 (some .boolean), Cond.methodLink RX4 90 yX4_isNight, Cond.static yX4_isNight, Cond.code yX4_isNight cX4_isNight 1 (some .boolean), Cond.methodLink RX4 93 yX4_isChannel, Cond.static yX4_isChannel, Cond.code yX4_isChannel cX4_isChannel 1 (some .boolean), Cond.methodLink RX4 86 yX4_keeps, Cond.instanceMethod yX4_keeps, Cond.selects RX4 yX4_keeps yX4_keeps, Cond.code yX4_keeps cX4_keeps 6 none, Cond.fieldLink RX4 75 "LightDeskModel" "changes" "I", Cond.fieldLink RX4 52 "LightDeskModel" "sorts" "[I", Cond.fieldLink RX4 55 "LightDeskModel" "places" "[I"]
def wsX4_hang_r2 : List Cond := [Cond.fieldLink RX4 58 "LightDeskModel" "values" "[I", Cond.fieldLink RX4 61 "LightDeskModel" "others" "[I"]
def wsX4_hang : List Cond := .code yX4_hang cX4_hang 6 (some .int) :: ((wsX4_hang_r1 ++ wsX4_hang_r2) ++ wsX40)
def wsX4_setNight : List Cond := .code yX4_setNight cX4_setNight 3 (some .int) :: ([.fieldLink RX4 64 "LightDeskModel" "thrown" "I", .fieldLink RX4 96 "LightDeskModel" "night" "I", .methodLink RX4 90 yX4_isNight, .static yX4_isNight, .initialized RX4, .code yX4_isNight cX4_isNight 1 (some .boolean), .methodLink RX4 68 yX4_in, .static yX4_in, .code yX4_in cX4_in 3 (some .boolean)] ++ wsX40)
def wsX4_setLatest : List Cond := .code yX4_setLatest cX4_setLatest 4 (some .boolean) :: ([.fieldLink RX4 64 "LightDeskModel" "thrown" "I", .fieldLink RX4 19 "LightDeskModel" "latest" "[I", .methodLink RX4 93 yX4_isChannel, .static yX4_isChannel, .initialized RX4, .code yX4_isChannel cX4_isChannel 1 (some .boolean), .methodLink RX4 68 yX4_in, .static yX4_in, .code yX4_in cX4_in 3 (some .boolean)] ++ wsX40)
def wsX4_addCue : List Cond := .code yX4_addCue cX4_addCue 6 (some .int) :: ([.fieldLink RX4 64 "LightDeskModel" "thrown" "I", .fieldLink RX4 25 "LightDeskModel" "cues" "[I", .fieldLink RX4 28 "LightDeskModel" "delays" "[I", .fieldLink RX4 31 "LightDeskModel" "fades" "[I", .fieldLink RX4 34 "LightDeskModel" "follow" "[I", .methodLink RX4 99 yX4_isList, .static yX4_isList, .initialized RX4, .code yX4_isList cX4_isList 1 (some .boolean), .methodLink RX4 68 yX4_in, .static yX4_in, .code yX4_in cX4_in 3 (some .boolean), .methodLink RX4 102 yX4_fails, .instanceMethod yX4_fails, .selects RX4 yX4_fails yX4_fails, .code yX4_fails cX4_fails 2 (some .int)] ++ wsX40)
def wsX4_setLevel : List Cond := .code yX4_setLevel cX4_setLevel 7 (some .int) :: ([.fieldLink RX4 25 "LightDeskModel" "cues" "[I", .fieldLink RX4 64 "LightDeskModel" "thrown" "I", .fieldLink RX4 37 "LightDeskModel" "levels" "[I", .methodLink RX4 99 yX4_isList, .static yX4_isList, .initialized RX4, .code yX4_isList cX4_isList 1 (some .boolean), .methodLink RX4 68 yX4_in, .static yX4_in, .code yX4_in cX4_in 3 (some .boolean), .methodLink RX4 93 yX4_isChannel, .static yX4_isChannel, .code yX4_isChannel cX4_isChannel 1 (some .boolean), .methodLink RX4 86 yX4_keeps, .instanceMethod yX4_keeps, .selects RX4 yX4_keeps yX4_keeps, .code yX4_keeps cX4_keeps 6 none, .fieldLink RX4 75 "LightDeskModel" "changes" "I", .fieldLink RX4 52 "LightDeskModel" "sorts" "[I", .fieldLink RX4 55 "LightDeskModel" "places" "[I", .fieldLink RX4 58 "LightDeskModel" "values" "[I", .fieldLink RX4 61 "LightDeskModel" "others" "[I"] ++ wsX40)
def wsX4_levelOf : List Cond := .code yX4_levelOf cX4_levelOf 7 (some .int) :: ([.fieldLink RX4 49 "LightDeskModel" "goals" "[I", .fieldLink RX4 46 "LightDeskModel" "old" "[I", .fieldLink RX4 40 "LightDeskModel" "runs" "[I", .fieldLink RX4 106 "LightDeskModel" "time" "I", .fieldLink RX4 43 "LightDeskModel" "since" "[I", .fieldLink RX4 28 "LightDeskModel" "delays" "[I", .fieldLink RX4 31 "LightDeskModel" "fades" "[I"] ++ wsX40)
def wsX4_begins : List Cond := .code yX4_begins cX4_begins 5 none :: ([.fieldLink RX4 46 "LightDeskModel" "old" "[I", .fieldLink RX4 49 "LightDeskModel" "goals" "[I", .fieldLink RX4 37 "LightDeskModel" "levels" "[I", .fieldLink RX4 22 "LightDeskModel" "last" "[I", .fieldLink RX4 40 "LightDeskModel" "runs" "[I", .fieldLink RX4 43 "LightDeskModel" "since" "[I", .fieldLink RX4 106 "LightDeskModel" "time" "I", .methodLink RX4 109 yX4_levelOf, .instanceMethod yX4_levelOf, .selects RX4 yX4_levelOf yX4_levelOf, .initialized RX4, .code yX4_levelOf cX4_levelOf 7 (some .int), .fieldLink RX4 28 "LightDeskModel" "delays" "[I", .fieldLink RX4 31 "LightDeskModel" "fades" "[I"] ++ wsX40)
def wsX4_looks : List Cond := .code yX4_looks cX4_looks 5 (some .int) :: ([.fieldLink RX4 40 "LightDeskModel" "runs" "[I", .fieldLink RX4 43 "LightDeskModel" "since" "[I", .fieldLink RX4 28 "LightDeskModel" "delays" "[I", .fieldLink RX4 31 "LightDeskModel" "fades" "[I", .fieldLink RX4 106 "LightDeskModel" "time" "I", .fieldLink RX4 25 "LightDeskModel" "cues" "[I", .fieldLink RX4 34 "LightDeskModel" "follow" "[I", .methodLink RX4 113 yX4_begins, .instanceMethod yX4_begins, .selects RX4 yX4_begins yX4_begins, .initialized RX4, .code yX4_begins cX4_begins 5 none, .fieldLink RX4 46 "LightDeskModel" "old" "[I", .fieldLink RX4 49 "LightDeskModel" "goals" "[I", .fieldLink RX4 37 "LightDeskModel" "levels" "[I", .fieldLink RX4 22 "LightDeskModel" "last" "[I", .methodLink RX4 109 yX4_levelOf, .instanceMethod yX4_levelOf, .selects RX4 yX4_levelOf yX4_levelOf, .code yX4_levelOf cX4_levelOf 7 (some .int)] ++ wsX40)
def wsX4_go_r1 : List Cond := [Cond.fieldLink RX4 25 "LightDeskModel" "cues" "[I", Cond.fieldLink RX4 64 "LightDeskModel" "thrown" "I", Cond.fieldLink RX4 37 "LightDeskModel" "levels" "[I", Cond.methodLink RX4 99 yX4_isList, Cond.static yX4_isList, Cond.initialized RX4, Cond.code yX4_isList cX4_isList 1 (some .boolean), Cond.methodLink RX4 68 yX4_in, Cond.static yX4_in, Cond.code yX4_in cX4_in 3 (some .boolean), Cond.methodLink RX4 113 yX4_begins, Cond.instanceMethod yX4_begins, Cond.selects RX4 yX4_begins yX4_begins, Cond.code yX4_begins cX4_begins 5 none, Cond.fieldLink RX4 46 "LightDeskModel" "old" "[I", Cond.fieldLink RX4 49 "LightDeskModel" "goals" "[I", Cond.fieldLink RX4 22 "LightDeskModel" "last" "[I", Cond.fieldLink RX4 40 "LightDeskModel" "runs" "[I", Cond.fieldLink RX4 43 "LightDeskModel" "since" "[I", Cond.fieldLink RX4 106 "LightDeskModel" "time" "I", Cond.methodLink RX4 109 yX4_levelOf, Cond.instanceMethod yX4_levelOf, Cond.selects RX4 yX4_levelOf yX4_levelOf, Cond.code yX4_levelOf cX4_levelOf 7 (some .int)]
def wsX4_go_r2 : List Cond := [Cond.fieldLink RX4 28 "LightDeskModel" "delays" "[I", Cond.fieldLink RX4 31 "LightDeskModel" "fades" "[I", Cond.methodLink RX4 117 yX4_looks, Cond.instanceMethod yX4_looks, Cond.selects RX4 yX4_looks yX4_looks, Cond.code yX4_looks cX4_looks 5 (some .int), Cond.fieldLink RX4 34 "LightDeskModel" "follow" "[I"]
def wsX4_go : List Cond := .code yX4_go cX4_go 5 (some .int) :: ((wsX4_go_r1 ++ wsX4_go_r2) ++ wsX40)
def wsX4_pass_r1 : List Cond := [Cond.fieldLink RX4 64 "LightDeskModel" "thrown" "I", Cond.fieldLink RX4 106 "LightDeskModel" "time" "I", Cond.methodLink RX4 68 yX4_in, Cond.static yX4_in, Cond.initialized RX4, Cond.code yX4_in cX4_in 3 (some .boolean), Cond.methodLink RX4 117 yX4_looks, Cond.instanceMethod yX4_looks, Cond.selects RX4 yX4_looks yX4_looks, Cond.code yX4_looks cX4_looks 5 (some .int), Cond.fieldLink RX4 40 "LightDeskModel" "runs" "[I", Cond.fieldLink RX4 43 "LightDeskModel" "since" "[I", Cond.fieldLink RX4 28 "LightDeskModel" "delays" "[I", Cond.fieldLink RX4 31 "LightDeskModel" "fades" "[I", Cond.fieldLink RX4 25 "LightDeskModel" "cues" "[I", Cond.fieldLink RX4 34 "LightDeskModel" "follow" "[I", Cond.methodLink RX4 113 yX4_begins, Cond.instanceMethod yX4_begins, Cond.selects RX4 yX4_begins yX4_begins, Cond.code yX4_begins cX4_begins 5 none, Cond.fieldLink RX4 46 "LightDeskModel" "old" "[I", Cond.fieldLink RX4 49 "LightDeskModel" "goals" "[I", Cond.fieldLink RX4 37 "LightDeskModel" "levels" "[I", Cond.fieldLink RX4 22 "LightDeskModel" "last" "[I"]
def wsX4_pass_r2 : List Cond := [Cond.methodLink RX4 109 yX4_levelOf, Cond.instanceMethod yX4_levelOf, Cond.selects RX4 yX4_levelOf yX4_levelOf, Cond.code yX4_levelOf cX4_levelOf 7 (some .int)]
def wsX4_pass : List Cond := .code yX4_pass cX4_pass 4 (some .int) :: ((wsX4_pass_r1 ++ wsX4_pass_r2) ++ wsX40)
def wsX4_running : List Cond := .code yX4_running cX4_running 2 (some .int) :: ([.fieldLink RX4 64 "LightDeskModel" "thrown" "I", .fieldLink RX4 40 "LightDeskModel" "runs" "[I", .methodLink RX4 99 yX4_isList, .static yX4_isList, .initialized RX4, .code yX4_isList cX4_isList 1 (some .boolean), .methodLink RX4 68 yX4_in, .static yX4_in, .code yX4_in cX4_in 3 (some .boolean)] ++ wsX40)
def wsX4_level : List Cond := .code yX4_level cX4_level 3 (some .int) :: ([.fieldLink RX4 64 "LightDeskModel" "thrown" "I", .methodLink RX4 99 yX4_isList, .static yX4_isList, .initialized RX4, .code yX4_isList cX4_isList 1 (some .boolean), .methodLink RX4 68 yX4_in, .static yX4_in, .code yX4_in cX4_in 3 (some .boolean), .methodLink RX4 93 yX4_isChannel, .static yX4_isChannel, .code yX4_isChannel cX4_isChannel 1 (some .boolean), .methodLink RX4 109 yX4_levelOf, .instanceMethod yX4_levelOf, .selects RX4 yX4_levelOf yX4_levelOf, .code yX4_levelOf cX4_levelOf 7 (some .int), .fieldLink RX4 49 "LightDeskModel" "goals" "[I", .fieldLink RX4 46 "LightDeskModel" "old" "[I", .fieldLink RX4 40 "LightDeskModel" "runs" "[I", .fieldLink RX4 106 "LightDeskModel" "time" "I", .fieldLink RX4 43 "LightDeskModel" "since" "[I", .fieldLink RX4 28 "LightDeskModel" "delays" "[I", .fieldLink RX4 31 "LightDeskModel" "fades" "[I"] ++ wsX40)
def wsX4_mergedOf : List Cond := .code yX4_mergedOf cX4_mergedOf 4 (some .int) :: ([.fieldLink RX4 19 "LightDeskModel" "latest" "[I", .fieldLink RX4 22 "LightDeskModel" "last" "[I", .methodLink RX4 109 yX4_levelOf, .instanceMethod yX4_levelOf, .selects RX4 yX4_levelOf yX4_levelOf, .initialized RX4, .code yX4_levelOf cX4_levelOf 7 (some .int), .fieldLink RX4 49 "LightDeskModel" "goals" "[I", .fieldLink RX4 46 "LightDeskModel" "old" "[I", .fieldLink RX4 40 "LightDeskModel" "runs" "[I", .fieldLink RX4 106 "LightDeskModel" "time" "I", .fieldLink RX4 43 "LightDeskModel" "since" "[I", .fieldLink RX4 28 "LightDeskModel" "delays" "[I", .fieldLink RX4 31 "LightDeskModel" "fades" "[I"] ++ wsX40)
def wsX4_merged_r1 : List Cond := [Cond.fieldLink RX4 64 "LightDeskModel" "thrown" "I", Cond.methodLink RX4 93 yX4_isChannel, Cond.static yX4_isChannel, Cond.initialized RX4, Cond.code yX4_isChannel cX4_isChannel 1 (some .boolean), Cond.methodLink RX4 68 yX4_in, Cond.static yX4_in, Cond.code yX4_in cX4_in 3 (some .boolean), Cond.methodLink RX4 120 yX4_mergedOf, Cond.instanceMethod yX4_mergedOf, Cond.selects RX4 yX4_mergedOf yX4_mergedOf, Cond.code yX4_mergedOf cX4_mergedOf 4 (some .int), Cond.fieldLink RX4 19 "LightDeskModel" "latest" "[I", Cond.fieldLink RX4 22 "LightDeskModel" "last" "[I", Cond.methodLink RX4 109 yX4_levelOf, Cond.instanceMethod yX4_levelOf, Cond.selects RX4 yX4_levelOf yX4_levelOf, Cond.code yX4_levelOf cX4_levelOf 7 (some .int), Cond.fieldLink RX4 49 "LightDeskModel" "goals" "[I", Cond.fieldLink RX4 46 "LightDeskModel" "old" "[I", Cond.fieldLink RX4 40 "LightDeskModel" "runs" "[I", Cond.fieldLink RX4 106 "LightDeskModel" "time" "I", Cond.fieldLink RX4 43 "LightDeskModel" "since" "[I", Cond.fieldLink RX4 28 "LightDeskModel" "delays" "[I"]
def wsX4_merged_r2 : List Cond := [Cond.fieldLink RX4 31 "LightDeskModel" "fades" "[I"]
def wsX4_merged : List Cond := .code yX4_merged cX4_merged 2 (some .int) :: ((wsX4_merged_r1 ++ wsX4_merged_r2) ++ wsX40)
def wsX4_through : List Cond := .code yX4_through cX4_through 3 (some .int) :: ([])
def wsX4_lightOf : List Cond := .code yX4_lightOf cX4_lightOf 6 (some .int) :: ([.fieldLink RX4 72 "LightDeskModel" "lamps" "I", .fieldLink RX4 16 "LightDeskModel" "hung" "[I", .fieldLink RX4 7 "LightDeskModel" "powers" "[I", .fieldLink RX4 13 "LightDeskModel" "gels" "[I", .methodLink RX4 123 yX4_through, .static yX4_through, .initialized RX4, .code yX4_through cX4_through 3 (some .int)] ++ wsX40)
def wsX4_light_r1 : List Cond := [Cond.fieldLink RX4 64 "LightDeskModel" "thrown" "I", Cond.fieldLink RX4 96 "LightDeskModel" "night" "I", Cond.methodLink RX4 93 yX4_isChannel, Cond.static yX4_isChannel, Cond.initialized RX4, Cond.code yX4_isChannel cX4_isChannel 1 (some .boolean), Cond.methodLink RX4 68 yX4_in, Cond.static yX4_in, Cond.code yX4_in cX4_in 3 (some .boolean), Cond.methodLink RX4 120 yX4_mergedOf, Cond.instanceMethod yX4_mergedOf, Cond.selects RX4 yX4_mergedOf yX4_mergedOf, Cond.code yX4_mergedOf cX4_mergedOf 4 (some .int), Cond.fieldLink RX4 19 "LightDeskModel" "latest" "[I", Cond.fieldLink RX4 22 "LightDeskModel" "last" "[I", Cond.methodLink RX4 109 yX4_levelOf, Cond.instanceMethod yX4_levelOf, Cond.selects RX4 yX4_levelOf yX4_levelOf, Cond.code yX4_levelOf cX4_levelOf 7 (some .int), Cond.fieldLink RX4 49 "LightDeskModel" "goals" "[I", Cond.fieldLink RX4 46 "LightDeskModel" "old" "[I", Cond.fieldLink RX4 40 "LightDeskModel" "runs" "[I", Cond.fieldLink RX4 106 "LightDeskModel" "time" "I", Cond.fieldLink RX4 43 "LightDeskModel" "since" "[I"]
def wsX4_light_r2 : List Cond := [Cond.fieldLink RX4 28 "LightDeskModel" "delays" "[I", Cond.fieldLink RX4 31 "LightDeskModel" "fades" "[I", Cond.methodLink RX4 127 yX4_lightOf, Cond.instanceMethod yX4_lightOf, Cond.selects RX4 yX4_lightOf yX4_lightOf, Cond.code yX4_lightOf cX4_lightOf 6 (some .int), Cond.fieldLink RX4 72 "LightDeskModel" "lamps" "I", Cond.fieldLink RX4 16 "LightDeskModel" "hung" "[I", Cond.fieldLink RX4 7 "LightDeskModel" "powers" "[I", Cond.fieldLink RX4 13 "LightDeskModel" "gels" "[I", Cond.methodLink RX4 123 yX4_through, Cond.static yX4_through, Cond.code yX4_through cX4_through 3 (some .int)]
def wsX4_light : List Cond := .code yX4_light cX4_light 2 (some .int) :: ((wsX4_light_r1 ++ wsX4_light_r2) ++ wsX40)
def wsX4_allLight_r1 : List Cond := [Cond.fieldLink RX4 64 "LightDeskModel" "thrown" "I", Cond.fieldLink RX4 96 "LightDeskModel" "night" "I", Cond.methodLink RX4 120 yX4_mergedOf, Cond.instanceMethod yX4_mergedOf, Cond.selects RX4 yX4_mergedOf yX4_mergedOf, Cond.initialized RX4, Cond.code yX4_mergedOf cX4_mergedOf 4 (some .int), Cond.fieldLink RX4 19 "LightDeskModel" "latest" "[I", Cond.fieldLink RX4 22 "LightDeskModel" "last" "[I", Cond.methodLink RX4 109 yX4_levelOf, Cond.instanceMethod yX4_levelOf, Cond.selects RX4 yX4_levelOf yX4_levelOf, Cond.code yX4_levelOf cX4_levelOf 7 (some .int), Cond.fieldLink RX4 49 "LightDeskModel" "goals" "[I", Cond.fieldLink RX4 46 "LightDeskModel" "old" "[I", Cond.fieldLink RX4 40 "LightDeskModel" "runs" "[I", Cond.fieldLink RX4 106 "LightDeskModel" "time" "I", Cond.fieldLink RX4 43 "LightDeskModel" "since" "[I", Cond.fieldLink RX4 28 "LightDeskModel" "delays" "[I", Cond.fieldLink RX4 31 "LightDeskModel" "fades" "[I", Cond.methodLink RX4 127 yX4_lightOf, Cond.instanceMethod yX4_lightOf, Cond.selects RX4 yX4_lightOf yX4_lightOf, Cond.code yX4_lightOf cX4_lightOf 6 (some .int)]
def wsX4_allLight_r2 : List Cond := [Cond.fieldLink RX4 72 "LightDeskModel" "lamps" "I", Cond.fieldLink RX4 16 "LightDeskModel" "hung" "[I", Cond.fieldLink RX4 7 "LightDeskModel" "powers" "[I", Cond.fieldLink RX4 13 "LightDeskModel" "gels" "[I", Cond.methodLink RX4 123 yX4_through, Cond.static yX4_through, Cond.code yX4_through cX4_through 3 (some .int)]
def wsX4_allLight : List Cond := .code yX4_allLight cX4_allLight 3 (some .int) :: ((wsX4_allLight_r1 ++ wsX4_allLight_r2) ++ wsX40)
def wsX4_shown : List Cond := .code yX4_shown cX4_shown 7 (some .int) :: ([.fieldLink RX4 37 "LightDeskModel" "levels" "[I", .methodLink RX4 127 yX4_lightOf, .instanceMethod yX4_lightOf, .selects RX4 yX4_lightOf yX4_lightOf, .initialized RX4, .code yX4_lightOf cX4_lightOf 6 (some .int), .fieldLink RX4 72 "LightDeskModel" "lamps" "I", .fieldLink RX4 16 "LightDeskModel" "hung" "[I", .fieldLink RX4 7 "LightDeskModel" "powers" "[I", .fieldLink RX4 13 "LightDeskModel" "gels" "[I", .methodLink RX4 123 yX4_through, .static yX4_through, .code yX4_through cX4_through 3 (some .int)] ++ wsX40)
def wsX4_preview_r1 : List Cond := [Cond.fieldLink RX4 25 "LightDeskModel" "cues" "[I", Cond.fieldLink RX4 64 "LightDeskModel" "thrown" "I", Cond.methodLink RX4 99 yX4_isList, Cond.static yX4_isList, Cond.initialized RX4, Cond.code yX4_isList cX4_isList 1 (some .boolean), Cond.methodLink RX4 68 yX4_in, Cond.static yX4_in, Cond.code yX4_in cX4_in 3 (some .boolean), Cond.methodLink RX4 90 yX4_isNight, Cond.static yX4_isNight, Cond.code yX4_isNight cX4_isNight 1 (some .boolean), Cond.methodLink RX4 130 yX4_shown, Cond.instanceMethod yX4_shown, Cond.selects RX4 yX4_shown yX4_shown, Cond.code yX4_shown cX4_shown 7 (some .int), Cond.fieldLink RX4 37 "LightDeskModel" "levels" "[I", Cond.methodLink RX4 127 yX4_lightOf, Cond.instanceMethod yX4_lightOf, Cond.selects RX4 yX4_lightOf yX4_lightOf, Cond.code yX4_lightOf cX4_lightOf 6 (some .int), Cond.fieldLink RX4 72 "LightDeskModel" "lamps" "I", Cond.fieldLink RX4 16 "LightDeskModel" "hung" "[I", Cond.fieldLink RX4 7 "LightDeskModel" "powers" "[I"]
def wsX4_preview_r2 : List Cond := [Cond.fieldLink RX4 13 "LightDeskModel" "gels" "[I", Cond.methodLink RX4 123 yX4_through, Cond.static yX4_through, Cond.code yX4_through cX4_through 3 (some .int)]
def wsX4_preview : List Cond := .code yX4_preview cX4_preview 4 (some .int) :: ((wsX4_preview_r1 ++ wsX4_preview_r2) ++ wsX40)
def wsX4_touched : List Cond := .code yX4_touched cX4_touched 10 (some .int) :: ([.fieldLink RX4 64 "LightDeskModel" "thrown" "I", .fieldLink RX4 16 "LightDeskModel" "hung" "[I", .fieldLink RX4 25 "LightDeskModel" "cues" "[I", .fieldLink RX4 37 "LightDeskModel" "levels" "[I", .fieldLink RX4 7 "LightDeskModel" "powers" "[I", .fieldLink RX4 13 "LightDeskModel" "gels" "[I", .methodLink RX4 82 yX4_isLamp, .instanceMethod yX4_isLamp, .selects RX4 yX4_isLamp yX4_isLamp, .initialized RX4, .code yX4_isLamp cX4_isLamp 2 (some .boolean), .fieldLink RX4 72 "LightDeskModel" "lamps" "I", .methodLink RX4 68 yX4_in, .static yX4_in, .code yX4_in cX4_in 3 (some .boolean), .methodLink RX4 78 yX4_isMade, .static yX4_isMade, .code yX4_isMade cX4_isMade 2 (some .boolean), .methodLink RX4 90 yX4_isNight, .static yX4_isNight, .code yX4_isNight cX4_isNight 1 (some .boolean), .methodLink RX4 123 yX4_through, .static yX4_through, .code yX4_through cX4_through 3 (some .int)] ++ wsX40)
def wsJ9_max_7cf53 : List Cond := .code yJ9_max_7cf53 cJ9_max_7cf53 2 (some .int) :: ([])
def wsJ9_min_7cf53 : List Cond := .code yJ9_min_7cf53 cJ9_min_7cf53 2 (some .int) :: ([])
def wsL_addLamp_r1 : List Cond := [Cond.classLink RL 13 "java/lang/IllegalArgumentException", Cond.classLink RL 15 "java/lang/IllegalStateException", Cond.methodLink RL 7 yX3_addLamp, Cond.instanceMethod yX3_addLamp, Cond.selects RX3 yX3_addLamp yX3_addLamp, Cond.initialized RX3, Cond.code yX3_addLamp cX3_addLamp 3 (some .int), Cond.classLink RX3 49 "java/lang/IllegalStateException", Cond.initialized "java/lang/IllegalStateException", Cond.fieldLink RX3 10 "LightDesk" "rigs" "LLightDesk$Rigs;", Cond.methodLink RX3 41 yX3_needLampKind, Cond.static yX3_needLampKind, Cond.code yX3_needLampKind cX3_needLampKind 2 none, Cond.classLink RX3 147 "java/lang/IllegalArgumentException", Cond.initialized "java/lang/IllegalArgumentException", Cond.methodLink RX3 45 yX2_isFull, Cond.instanceMethod yX2_isFull, Cond.selects RX2 yX2_isFull yX2_isFull, Cond.initialized RX2, Cond.code yX2_isFull cX2_isFull 1 (some .boolean), Cond.fieldLink RX2 29 "LightDesk$Rigs" "lamps" "I", Cond.methodLink RX3 56 yX2_add, Cond.instanceMethod yX2_add, Cond.selects RX2 yX2_add yX2_add]
def wsL_addLamp_r2 : List Cond := [Cond.code yX2_add cX2_add 4 (some .int), Cond.methodLink RX2 33 yX2_setKind, Cond.instanceMethod yX2_setKind, Cond.selects RX2 yX2_setKind yX2_setKind, Cond.code yX2_setKind cX2_setKind 4 none, Cond.fieldLink RX2 9 "LightDesk$Rigs" "powers" "[I", Cond.fieldLink RX2 15 "LightDesk$Rigs" "gels" "[I", Cond.methodLink RX2 37 yX2_has, Cond.instanceMethod yX2_has, Cond.selects RX2 yX2_has yX2_has, Cond.code yX2_has cX2_has 2 (some .boolean)]
def wsL_addLamp : List Cond := .codeWith yL_addLamp cL_addLamp 5 (some .int) [(0, 10, 13, 13), (0, 10, 17, 15)] :: ((wsL_addLamp_r1 ++ wsL_addLamp_r2) ++ wsX30 ++ wsX20 ++ (vx_atS RX3 53 "java/lang/IllegalStateException" ["java/lang/RuntimeException", "java/lang/Exception"]).filter goodWord ++ (vx_atS RX3 151 "java/lang/IllegalArgumentException" ["java/lang/RuntimeException", "java/lang/Exception"]).filter goodWord)
def wsL_swap_r1 : List Cond := [Cond.classLink RL 21 "java/lang/IndexOutOfBoundsException", Cond.classLink RL 13 "java/lang/IllegalArgumentException", Cond.methodLink RL 17 yX3_swap, Cond.instanceMethod yX3_swap, Cond.selects RX3 yX3_swap yX3_swap, Cond.initialized RX3, Cond.code yX3_swap cX3_swap 4 none, Cond.fieldLink RX3 29 "LightDesk" "history" "LLightDesk$History;", Cond.fieldLink RX3 10 "LightDesk" "rigs" "LLightDesk$Rigs;", Cond.methodLink RX3 60 yX3_needLamp, Cond.instanceMethod yX3_needLamp, Cond.selects RX3 yX3_needLamp yX3_needLamp, Cond.code yX3_needLamp cX3_needLamp 2 none, Cond.classLink RX3 212 "java/lang/IndexOutOfBoundsException", Cond.initialized "java/lang/IndexOutOfBoundsException", Cond.methodLink RX3 209 yX2_has, Cond.instanceMethod yX2_has, Cond.selects RX2 yX2_has yX2_has, Cond.initialized RX2, Cond.code yX2_has cX2_has 2 (some .boolean), Cond.fieldLink RX2 29 "LightDesk$Rigs" "lamps" "I", Cond.methodLink RX3 41 yX3_needLampKind, Cond.static yX3_needLampKind, Cond.code yX3_needLampKind cX3_needLampKind 2 none]
def wsL_swap_r2 : List Cond := [Cond.classLink RX3 147 "java/lang/IllegalArgumentException", Cond.initialized "java/lang/IllegalArgumentException", Cond.methodLink RX3 64 yX2_powerOf, Cond.instanceMethod yX2_powerOf, Cond.selects RX2 yX2_powerOf yX2_powerOf, Cond.code yX2_powerOf cX2_powerOf 2 (some .int), Cond.fieldLink RX2 9 "LightDesk$Rigs" "powers" "[I", Cond.methodLink RX2 37 yX2_has, Cond.methodLink RX3 68 yX2_gelOf, Cond.instanceMethod yX2_gelOf, Cond.selects RX2 yX2_gelOf yX2_gelOf, Cond.code yX2_gelOf cX2_gelOf 2 (some .int), Cond.fieldLink RX2 15 "LightDesk$Rigs" "gels" "[I", Cond.methodLink RX3 71 yX1_note, Cond.instanceMethod yX1_note, Cond.selects RX1 yX1_note yX1_note, Cond.initialized RX1, Cond.code yX1_note cX1_note 6 none, Cond.fieldLink RX1 24 "LightDesk$History" "next" "I", Cond.fieldLink RX1 16 "LightDesk$History" "size" "I", Cond.methodLink RX1 27 Lib.Math.min.name, Cond.static Lib.Math.min.name, Cond.initialized "java/lang/Math", Cond.code Lib.Math.min.name Lib.Math.min.code 2 (some .int)]
def wsL_swap_r3 : List Cond := [Cond.methodLink RX1 20 yX1_put, Cond.instanceMethod yX1_put, Cond.selects RX1 yX1_put yX1_put, Cond.code yX1_put cX1_put 3 none, Cond.fieldLink RX1 13 "LightDesk$History" "changes" "[[I", Cond.methodLink RX1 37 yX1_isPlace, Cond.static yX1_isPlace, Cond.code yX1_isPlace cX1_isPlace 2 (some .boolean), Cond.methodLink RX3 75 yX2_setKind, Cond.instanceMethod yX2_setKind, Cond.selects RX2 yX2_setKind yX2_setKind, Cond.code yX2_setKind cX2_setKind 4 none]
def wsL_swap : List Cond := .codeWith yL_swap cL_swap 5 (some .int) [(0, 7, 10, 21), (0, 7, 14, 13)] :: ((wsL_swap_r1 ++ (wsL_swap_r2 ++ wsL_swap_r3)) ++ wsX30 ++ wsX20 ++ wsX10 ++ (vx_atS RX3 216 "java/lang/IndexOutOfBoundsException" ["java/lang/RuntimeException", "java/lang/Exception"]).filter goodWord ++ (vx_atS RX3 151 "java/lang/IllegalArgumentException" ["java/lang/RuntimeException", "java/lang/Exception"]).filter goodWord)
def wsL_hang_r1 : List Cond := [Cond.classLink RL 21 "java/lang/IndexOutOfBoundsException", Cond.classLink RL 13 "java/lang/IllegalArgumentException", Cond.methodLink RL 23 yX3_hang, Cond.instanceMethod yX3_hang, Cond.selects RX3 yX3_hang yX3_hang, Cond.initialized RX3, Cond.code yX3_hang cX3_hang 5 (some .int), Cond.fieldLink RX3 10 "LightDesk" "rigs" "LLightDesk$Rigs;", Cond.fieldLink RX3 29 "LightDesk" "history" "LLightDesk$History;", Cond.methodLink RX3 60 yX3_needLamp, Cond.instanceMethod yX3_needLamp, Cond.selects RX3 yX3_needLamp yX3_needLamp, Cond.code yX3_needLamp cX3_needLamp 2 none, Cond.classLink RX3 212 "java/lang/IndexOutOfBoundsException", Cond.initialized "java/lang/IndexOutOfBoundsException", Cond.methodLink RX3 209 yX2_has, Cond.instanceMethod yX2_has, Cond.selects RX2 yX2_has yX2_has, Cond.initialized RX2, Cond.code yX2_has cX2_has 2 (some .boolean), Cond.fieldLink RX2 29 "LightDesk$Rigs" "lamps" "I", Cond.methodLink RX3 79 yX3_needNight, Cond.static yX3_needNight, Cond.code yX3_needNight cX3_needNight 1 none]
def wsL_hang_r2 : List Cond := [Cond.classLink RX3 147 "java/lang/IllegalArgumentException", Cond.initialized "java/lang/IllegalArgumentException", Cond.methodLink RX3 224 yX3_isNight, Cond.static yX3_isNight, Cond.code yX3_isNight cX3_isNight 1 (some .boolean), Cond.methodLink RX3 82 yX3_needChannelOrNone, Cond.static yX3_needChannelOrNone, Cond.code yX3_needChannelOrNone cX3_needChannelOrNone 1 none, Cond.methodLink RX3 95 yX3_needChannel, Cond.static yX3_needChannel, Cond.code yX3_needChannel cX3_needChannel 1 none, Cond.methodLink RX3 182 yX3_isChannel, Cond.static yX3_isChannel, Cond.code yX3_isChannel cX3_isChannel 1 (some .boolean), Cond.methodLink RX3 85 yX2_channelOf, Cond.instanceMethod yX2_channelOf, Cond.selects RX2 yX2_channelOf yX2_channelOf, Cond.code yX2_channelOf cX2_channelOf 3 (some .int), Cond.fieldLink RX2 20 "LightDesk$Rigs" "channels" "[[I", Cond.methodLink RX2 37 yX2_has, Cond.methodLink RX3 71 yX1_note, Cond.instanceMethod yX1_note, Cond.selects RX1 yX1_note yX1_note, Cond.initialized RX1]
def wsL_hang_r3 : List Cond := [Cond.code yX1_note cX1_note 6 none, Cond.fieldLink RX1 24 "LightDesk$History" "next" "I", Cond.fieldLink RX1 16 "LightDesk$History" "size" "I", Cond.methodLink RX1 27 Lib.Math.min.name, Cond.static Lib.Math.min.name, Cond.initialized "java/lang/Math", Cond.code Lib.Math.min.name Lib.Math.min.code 2 (some .int), Cond.methodLink RX1 20 yX1_put, Cond.instanceMethod yX1_put, Cond.selects RX1 yX1_put yX1_put, Cond.code yX1_put cX1_put 3 none, Cond.fieldLink RX1 13 "LightDesk$History" "changes" "[[I", Cond.methodLink RX1 37 yX1_isPlace, Cond.static yX1_isPlace, Cond.code yX1_isPlace cX1_isPlace 2 (some .boolean), Cond.methodLink RX3 88 yX2_setChannel, Cond.instanceMethod yX2_setChannel, Cond.selects RX2 yX2_setChannel yX2_setChannel, Cond.code yX2_setChannel cX2_setChannel 4 none]
def wsL_hang : List Cond := .codeWith yL_hang cL_hang 6 (some .int) [(0, 12, 15, 21), (0, 12, 19, 13)] :: ((wsL_hang_r1 ++ (wsL_hang_r2 ++ wsL_hang_r3)) ++ wsX30 ++ wsX20 ++ wsX10 ++ (vx_atS RX3 216 "java/lang/IndexOutOfBoundsException" ["java/lang/RuntimeException", "java/lang/Exception"]).filter goodWord ++ (vx_atS RX3 151 "java/lang/IllegalArgumentException" ["java/lang/RuntimeException", "java/lang/Exception"]).filter goodWord)
def wsL_setNight : List Cond := .codeWith yL_setNight cL_setNight 4 (some .int) [(0, 9, 12, 13)] :: ([.classLink RL 13 "java/lang/IllegalArgumentException", .methodLink RL 27 yX3_setNight, .instanceMethod yX3_setNight, .selects RX3 yX3_setNight yX3_setNight, .initialized RX3, .code yX3_setNight cX3_setNight 3 (some .int), .fieldLink RX3 91 "LightDesk" "presentNight" "I", .methodLink RX3 79 yX3_needNight, .static yX3_needNight, .code yX3_needNight cX3_needNight 1 none, .classLink RX3 147 "java/lang/IllegalArgumentException", .initialized "java/lang/IllegalArgumentException", .methodLink RX3 224 yX3_isNight, .static yX3_isNight, .code yX3_isNight cX3_isNight 1 (some .boolean)] ++ wsX30 ++ (vx_atS RX3 151 "java/lang/IllegalArgumentException" ["java/lang/RuntimeException", "java/lang/Exception"]).filter goodWord)
def wsL_setLatest : List Cond := .codeWith yL_setLatest cL_setLatest 5 (some .int) [(0, 17, 20, 13)] :: ([.classLink RL 13 "java/lang/IllegalArgumentException", .methodLink RL 31 yX3_setLatest, .instanceMethod yX3_setLatest, .selects RX3 yX3_setLatest yX3_setLatest, .initialized RX3, .code yX3_setLatest cX3_setLatest 4 (some .boolean), .fieldLink RX3 33 "LightDesk" "latestCounts" "[Z", .methodLink RX3 95 yX3_needChannel, .static yX3_needChannel, .code yX3_needChannel cX3_needChannel 1 none, .classLink RX3 147 "java/lang/IllegalArgumentException", .initialized "java/lang/IllegalArgumentException", .methodLink RX3 182 yX3_isChannel, .static yX3_isChannel, .code yX3_isChannel cX3_isChannel 1 (some .boolean)] ++ wsX30 ++ (vx_atS RX3 151 "java/lang/IllegalArgumentException" ["java/lang/RuntimeException", "java/lang/Exception"]).filter goodWord)
def wsL_addCue_r1 : List Cond := [Cond.classLink RL 13 "java/lang/IllegalArgumentException", Cond.classLink RL 15 "java/lang/IllegalStateException", Cond.methodLink RL 35 yX3_addCue, Cond.instanceMethod yX3_addCue, Cond.selects RX3 yX3_addCue yX3_addCue, Cond.initialized RX3, Cond.code yX3_addCue cX3_addCue 6 (some .int), Cond.classLink RX3 49 "java/lang/IllegalStateException", Cond.initialized "java/lang/IllegalStateException", Cond.methodLink RX3 98 yX3_needList, Cond.static yX3_needList, Cond.code yX3_needList cX3_needList 1 none, Cond.classLink RX3 147 "java/lang/IllegalArgumentException", Cond.initialized "java/lang/IllegalArgumentException", Cond.methodLink RX3 101 yX3_needTenths, Cond.static yX3_needTenths, Cond.code yX3_needTenths cX3_needTenths 1 none, Cond.methodLink RX3 104 yX3_cuesOf, Cond.instanceMethod yX3_cuesOf, Cond.selects RX3 yX3_cuesOf yX3_cuesOf, Cond.code yX3_cuesOf cX3_cuesOf 2 (some (.object "LightDesk$CueList")), Cond.fieldLink RX3 19 "LightDesk" "list0" "LLightDesk$CueList;", Cond.fieldLink RX3 23 "LightDesk" "list1" "LLightDesk$CueList;", Cond.methodLink RX3 108 yX0_isFull]
def wsL_addCue_r2 : List Cond := [Cond.instanceMethod yX0_isFull, Cond.selects RX0 yX0_isFull yX0_isFull, Cond.initialized RX0, Cond.code yX0_isFull cX0_isFull 1 (some .boolean), Cond.fieldLink RX0 43 "LightDesk$CueList" "cues" "I", Cond.methodLink RX3 111 yX0_add, Cond.instanceMethod yX0_add, Cond.selects RX0 yX0_add yX0_add, Cond.code yX0_add cX0_add 5 (some .int), Cond.fieldLink RX0 9 "LightDesk$CueList" "delays" "[I", Cond.fieldLink RX0 15 "LightDesk$CueList" "fades" "[I", Cond.fieldLink RX0 18 "LightDesk$CueList" "follow" "[Z"]
def wsL_addCue : List Cond := .codeWith yL_addCue cL_addCue 7 (some .int) [(0, 14, 17, 13), (0, 14, 21, 15)] :: ((wsL_addCue_r1 ++ wsL_addCue_r2) ++ wsX30 ++ wsX00 ++ (vx_atS RX3 53 "java/lang/IllegalStateException" ["java/lang/RuntimeException", "java/lang/Exception"]).filter goodWord ++ (vx_atS RX3 151 "java/lang/IllegalArgumentException" ["java/lang/RuntimeException", "java/lang/Exception"]).filter goodWord)
def wsL_setLevel_r1 : List Cond := [Cond.classLink RL 13 "java/lang/IllegalArgumentException", Cond.classLink RL 21 "java/lang/IndexOutOfBoundsException", Cond.methodLink RL 39 yX3_setLevel, Cond.instanceMethod yX3_setLevel, Cond.selects RX3 yX3_setLevel yX3_setLevel, Cond.initialized RX3, Cond.code yX3_setLevel cX3_setLevel 7 (some .int), Cond.fieldLink RX3 29 "LightDesk" "history" "LLightDesk$History;", Cond.methodLink RX3 98 yX3_needList, Cond.static yX3_needList, Cond.code yX3_needList cX3_needList 1 none, Cond.classLink RX3 147 "java/lang/IllegalArgumentException", Cond.initialized "java/lang/IllegalArgumentException", Cond.methodLink RX3 95 yX3_needChannel, Cond.static yX3_needChannel, Cond.code yX3_needChannel cX3_needChannel 1 none, Cond.methodLink RX3 182 yX3_isChannel, Cond.static yX3_isChannel, Cond.code yX3_isChannel cX3_isChannel 1 (some .boolean), Cond.methodLink RX3 114 yX3_needLevelOrNone, Cond.static yX3_needLevelOrNone, Cond.code yX3_needLevelOrNone cX3_needLevelOrNone 1 none, Cond.methodLink RX3 117 yX3_needCue, Cond.instanceMethod yX3_needCue]
def wsL_setLevel_r2 : List Cond := [Cond.selects RX3 yX3_needCue yX3_needCue, Cond.code yX3_needCue cX3_needCue 3 none, Cond.classLink RX3 212 "java/lang/IndexOutOfBoundsException", Cond.initialized "java/lang/IndexOutOfBoundsException", Cond.methodLink RX3 104 yX3_cuesOf, Cond.instanceMethod yX3_cuesOf, Cond.selects RX3 yX3_cuesOf yX3_cuesOf, Cond.code yX3_cuesOf cX3_cuesOf 2 (some (.object "LightDesk$CueList")), Cond.fieldLink RX3 19 "LightDesk" "list0" "LLightDesk$CueList;", Cond.fieldLink RX3 23 "LightDesk" "list1" "LLightDesk$CueList;", Cond.methodLink RX3 217 yX0_has, Cond.instanceMethod yX0_has, Cond.selects RX0 yX0_has yX0_has, Cond.initialized RX0, Cond.code yX0_has cX0_has 2 (some .boolean), Cond.fieldLink RX0 43 "LightDesk$CueList" "cues" "I", Cond.methodLink RX3 120 yX0_told, Cond.instanceMethod yX0_told, Cond.selects RX0 yX0_told yX0_told, Cond.code yX0_told cX0_told 3 (some .int), Cond.fieldLink RX0 24 "LightDesk$CueList" "levels" "[[I", Cond.methodLink RX0 46 yX0_has, Cond.methodLink RX3 71 yX1_note, Cond.instanceMethod yX1_note]
def wsL_setLevel_r3 : List Cond := [Cond.selects RX1 yX1_note yX1_note, Cond.initialized RX1, Cond.code yX1_note cX1_note 6 none, Cond.fieldLink RX1 24 "LightDesk$History" "next" "I", Cond.fieldLink RX1 16 "LightDesk$History" "size" "I", Cond.methodLink RX1 27 Lib.Math.min.name, Cond.static Lib.Math.min.name, Cond.initialized "java/lang/Math", Cond.code Lib.Math.min.name Lib.Math.min.code 2 (some .int), Cond.methodLink RX1 20 yX1_put, Cond.instanceMethod yX1_put, Cond.selects RX1 yX1_put yX1_put, Cond.code yX1_put cX1_put 3 none, Cond.fieldLink RX1 13 "LightDesk$History" "changes" "[[I", Cond.methodLink RX1 37 yX1_isPlace, Cond.static yX1_isPlace, Cond.code yX1_isPlace cX1_isPlace 2 (some .boolean), Cond.methodLink RX3 123 yX0_tell, Cond.instanceMethod yX0_tell, Cond.selects RX0 yX0_tell yX0_tell, Cond.code yX0_tell cX0_tell 4 none]
def wsL_setLevel : List Cond := .codeWith yL_setLevel cL_setLevel 7 (some .int) [(0, 14, 17, 13), (0, 14, 21, 21)] :: ((wsL_setLevel_r1 ++ (wsL_setLevel_r2 ++ wsL_setLevel_r3)) ++ wsX30 ++ wsX00 ++ wsX10 ++ (vx_atS RX3 151 "java/lang/IllegalArgumentException" ["java/lang/RuntimeException", "java/lang/Exception"]).filter goodWord ++ (vx_atS RX3 216 "java/lang/IndexOutOfBoundsException" ["java/lang/RuntimeException", "java/lang/Exception"]).filter goodWord)
def wsL_undo_r1 : List Cond := [Cond.classLink RL 15 "java/lang/IllegalStateException", Cond.methodLink RL 43 yX3_undo, Cond.instanceMethod yX3_undo, Cond.selects RX3 yX3_undo yX3_undo, Cond.initialized RX3, Cond.code yX3_undo cX3_undo 1 (some .int), Cond.classLink RX3 49 "java/lang/IllegalStateException", Cond.initialized "java/lang/IllegalStateException", Cond.fieldLink RX3 29 "LightDesk" "history" "LLightDesk$History;", Cond.methodLink RX3 126 yX1_isEmpty, Cond.instanceMethod yX1_isEmpty, Cond.selects RX1 yX1_isEmpty yX1_isEmpty, Cond.initialized RX1, Cond.code yX1_isEmpty cX1_isEmpty 1 (some .boolean), Cond.fieldLink RX1 16 "LightDesk$History" "size" "I", Cond.methodLink RX3 131 yX3_takeBackLast, Cond.instanceMethod yX3_takeBackLast, Cond.selects RX3 yX3_takeBackLast yX3_takeBackLast, Cond.code yX3_takeBackLast cX3_takeBackLast 5 none, Cond.fieldLink RX3 10 "LightDesk" "rigs" "LLightDesk$Rigs;", Cond.methodLink RX3 206 yX1_lastPart, Cond.instanceMethod yX1_lastPart, Cond.selects RX1 yX1_lastPart yX1_lastPart, Cond.code yX1_lastPart cX1_lastPart 3 (some .int)]
def wsL_undo_r2 : List Cond := [Cond.fieldLink RX1 13 "LightDesk$History" "changes" "[[I", Cond.methodLink RX1 33 yX1_lastRow, Cond.instanceMethod yX1_lastRow, Cond.selects RX1 yX1_lastRow yX1_lastRow, Cond.code yX1_lastRow cX1_lastRow 1 (some .int), Cond.fieldLink RX1 24 "LightDesk$History" "next" "I", Cond.methodLink RX1 37 yX1_isPlace, Cond.static yX1_isPlace, Cond.code yX1_isPlace cX1_isPlace 2 (some .boolean), Cond.methodLink RX3 75 yX2_setKind, Cond.instanceMethod yX2_setKind, Cond.selects RX2 yX2_setKind yX2_setKind, Cond.initialized RX2, Cond.code yX2_setKind cX2_setKind 4 none, Cond.fieldLink RX2 9 "LightDesk$Rigs" "powers" "[I", Cond.fieldLink RX2 15 "LightDesk$Rigs" "gels" "[I", Cond.methodLink RX2 37 yX2_has, Cond.instanceMethod yX2_has, Cond.selects RX2 yX2_has yX2_has, Cond.code yX2_has cX2_has 2 (some .boolean), Cond.fieldLink RX2 29 "LightDesk$Rigs" "lamps" "I", Cond.methodLink RX3 88 yX2_setChannel, Cond.instanceMethod yX2_setChannel, Cond.selects RX2 yX2_setChannel yX2_setChannel]
def wsL_undo_r3 : List Cond := [Cond.code yX2_setChannel cX2_setChannel 4 none, Cond.fieldLink RX2 20 "LightDesk$Rigs" "channels" "[[I", Cond.static yX3_isNight, Cond.code yX3_isNight cX3_isNight 1 (some .boolean), Cond.methodLink RX3 104 yX3_cuesOf, Cond.instanceMethod yX3_cuesOf, Cond.selects RX3 yX3_cuesOf yX3_cuesOf, Cond.code yX3_cuesOf cX3_cuesOf 2 (some (.object "LightDesk$CueList")), Cond.fieldLink RX3 19 "LightDesk" "list0" "LLightDesk$CueList;", Cond.fieldLink RX3 23 "LightDesk" "list1" "LLightDesk$CueList;", Cond.methodLink RX3 123 yX0_tell, Cond.instanceMethod yX0_tell, Cond.selects RX0 yX0_tell yX0_tell, Cond.initialized RX0, Cond.code yX0_tell cX0_tell 4 none, Cond.fieldLink RX0 24 "LightDesk$CueList" "levels" "[[I", Cond.methodLink RX0 46 yX0_has, Cond.instanceMethod yX0_has, Cond.selects RX0 yX0_has yX0_has, Cond.code yX0_has cX0_has 2 (some .boolean), Cond.fieldLink RX0 43 "LightDesk$CueList" "cues" "I", Cond.static yX3_isChannel, Cond.code yX3_isChannel cX3_isChannel 1 (some .boolean), Cond.methodLink RX3 134 yX1_dropLast]
def wsL_undo_r4 : List Cond := [Cond.instanceMethod yX1_dropLast, Cond.selects RX1 yX1_dropLast yX1_dropLast, Cond.code yX1_dropLast cX1_dropLast 1 none, Cond.methodLink RX1 41 Lib.Math.max.name, Cond.static Lib.Math.max.name, Cond.initialized "java/lang/Math", Cond.code Lib.Math.max.name Lib.Math.max.code 2 (some .int), Cond.methodLink RX3 137 yX1_size, Cond.instanceMethod yX1_size, Cond.selects RX1 yX1_size yX1_size, Cond.code yX1_size cX1_size 1 (some .int)]
def wsL_undo : List Cond := .codeWith yL_undo cL_undo 3 (some .int) [(0, 8, 11, 15)] :: ((wsL_undo_r1 ++ (wsL_undo_r2 ++ (wsL_undo_r3 ++ wsL_undo_r4))) ++ wsX30 ++ wsX10 ++ wsX20 ++ wsX00 ++ (vx_atS RX3 53 "java/lang/IllegalStateException" ["java/lang/RuntimeException", "java/lang/Exception"]).filter goodWord)
def wsL_go_r1 : List Cond := [Cond.classLink RL 13 "java/lang/IllegalArgumentException", Cond.classLink RL 21 "java/lang/IndexOutOfBoundsException", Cond.methodLink RL 47 yX3_go, Cond.instanceMethod yX3_go, Cond.selects RX3 yX3_go yX3_go, Cond.initialized RX3, Cond.code yX3_go cX3_go 4 (some .int), Cond.methodLink RX3 98 yX3_needList, Cond.static yX3_needList, Cond.code yX3_needList cX3_needList 1 none, Cond.classLink RX3 147 "java/lang/IllegalArgumentException", Cond.initialized "java/lang/IllegalArgumentException", Cond.methodLink RX3 117 yX3_needCue, Cond.instanceMethod yX3_needCue, Cond.selects RX3 yX3_needCue yX3_needCue, Cond.code yX3_needCue cX3_needCue 3 none, Cond.classLink RX3 212 "java/lang/IndexOutOfBoundsException", Cond.initialized "java/lang/IndexOutOfBoundsException", Cond.methodLink RX3 104 yX3_cuesOf, Cond.instanceMethod yX3_cuesOf, Cond.selects RX3 yX3_cuesOf yX3_cuesOf, Cond.code yX3_cuesOf cX3_cuesOf 2 (some (.object "LightDesk$CueList")), Cond.fieldLink RX3 19 "LightDesk" "list0" "LLightDesk$CueList;", Cond.fieldLink RX3 23 "LightDesk" "list1" "LLightDesk$CueList;"]
def wsL_go_r2 : List Cond := [Cond.methodLink RX3 217 yX0_has, Cond.instanceMethod yX0_has, Cond.selects RX0 yX0_has yX0_has, Cond.initialized RX0, Cond.code yX0_has cX0_has 2 (some .boolean), Cond.fieldLink RX0 43 "LightDesk$CueList" "cues" "I", Cond.methodLink RX3 141 yX0_countTold, Cond.instanceMethod yX0_countTold, Cond.selects RX0 yX0_countTold yX0_countTold, Cond.code yX0_countTold cX0_countTold 4 (some .int), Cond.methodLink RX0 53 yX0_told, Cond.instanceMethod yX0_told, Cond.selects RX0 yX0_told yX0_told, Cond.code yX0_told cX0_told 3 (some .int), Cond.fieldLink RX0 24 "LightDesk$CueList" "levels" "[[I", Cond.methodLink RX0 46 yX0_has, Cond.static yX3_isChannel, Cond.code yX3_isChannel cX3_isChannel 1 (some .boolean), Cond.methodLink RX3 144 yX3_beginFrom, Cond.instanceMethod yX3_beginFrom, Cond.selects RX3 yX3_beginFrom yX3_beginFrom, Cond.code yX3_beginFrom cX3_beginFrom 6 (some .int), Cond.methodLink RX3 191 yX0_begin, Cond.instanceMethod yX0_begin]
def wsL_go_r3 : List Cond := [Cond.selects RX0 yX0_begin yX0_begin, Cond.code yX0_begin cX0_begin 5 none, Cond.fieldLink RX0 27 "LightDesk$CueList" "from" "[I", Cond.fieldLink RX0 30 "LightDesk$CueList" "to" "[I", Cond.fieldLink RX0 33 "LightDesk$CueList" "begun" "I", Cond.fieldLink RX0 66 "LightDesk$CueList" "elapsed" "I", Cond.methodLink RX0 62 yX0_levelNow, Cond.instanceMethod yX0_levelNow, Cond.selects RX0 yX0_levelNow yX0_levelNow, Cond.code yX0_levelNow cX0_levelNow 4 (some .int), Cond.fieldLink RX0 15 "LightDesk$CueList" "fades" "[I", Cond.fieldLink RX0 9 "LightDesk$CueList" "delays" "[I", Cond.methodLink RX3 194 yX3_noteLatest, Cond.instanceMethod yX3_noteLatest, Cond.selects RX3 yX3_noteLatest yX3_noteLatest, Cond.code yX3_noteLatest cX3_noteLatest 5 none, Cond.fieldLink RX3 37 "LightDesk" "latestList" "[I", Cond.methodLink RX3 120 yX0_told, Cond.methodLink RX3 197 yX0_isOver, Cond.instanceMethod yX0_isOver, Cond.selects RX0 yX0_isOver yX0_isOver, Cond.code yX0_isOver cX0_isOver 1 (some .boolean), Cond.methodLink RX3 200 yX0_follower, Cond.instanceMethod yX0_follower]
def wsL_go_r4 : List Cond := [Cond.selects RX0 yX0_follower yX0_follower, Cond.code yX0_follower cX0_follower 2 (some .int), Cond.fieldLink RX0 18 "LightDesk$CueList" "follow" "[Z"]
def wsL_go : List Cond := .codeWith yL_go cL_go 5 (some .int) [(0, 10, 13, 13), (0, 10, 17, 21)] :: ((wsL_go_r1 ++ (wsL_go_r2 ++ (wsL_go_r3 ++ wsL_go_r4))) ++ wsX30 ++ wsX00 ++ (vx_atS RX3 151 "java/lang/IllegalArgumentException" ["java/lang/RuntimeException", "java/lang/Exception"]).filter goodWord ++ (vx_atS RX3 216 "java/lang/IndexOutOfBoundsException" ["java/lang/RuntimeException", "java/lang/Exception"]).filter goodWord)
def wsL_pass_r1 : List Cond := [Cond.classLink RL 13 "java/lang/IllegalArgumentException", Cond.methodLink RL 50 yX3_pass, Cond.instanceMethod yX3_pass, Cond.selects RX3 yX3_pass yX3_pass, Cond.initialized RX3, Cond.code yX3_pass cX3_pass 4 (some .int), Cond.classLink RX3 147 "java/lang/IllegalArgumentException", Cond.initialized "java/lang/IllegalArgumentException", Cond.methodLink RX3 152 yX3_passTenth, Cond.instanceMethod yX3_passTenth, Cond.selects RX3 yX3_passTenth yX3_passTenth, Cond.code yX3_passTenth cX3_passTenth 3 (some .int), Cond.methodLink RX3 104 yX3_cuesOf, Cond.instanceMethod yX3_cuesOf, Cond.selects RX3 yX3_cuesOf yX3_cuesOf, Cond.code yX3_cuesOf cX3_cuesOf 2 (some (.object "LightDesk$CueList")), Cond.fieldLink RX3 19 "LightDesk" "list0" "LLightDesk$CueList;", Cond.fieldLink RX3 23 "LightDesk" "list1" "LLightDesk$CueList;", Cond.methodLink RX3 203 yX0_endsInNextTenth, Cond.instanceMethod yX0_endsInNextTenth, Cond.selects RX0 yX0_endsInNextTenth yX0_endsInNextTenth, Cond.initialized RX0, Cond.code yX0_endsInNextTenth cX0_endsInNextTenth 1 (some .boolean), Cond.fieldLink RX0 66 "LightDesk$CueList" "elapsed" "I"]
def wsL_pass_r2 : List Cond := [Cond.methodLink RX0 69 yX0_isOver, Cond.instanceMethod yX0_isOver, Cond.selects RX0 yX0_isOver yX0_isOver, Cond.code yX0_isOver cX0_isOver 1 (some .boolean), Cond.fieldLink RX0 33 "LightDesk$CueList" "begun" "I", Cond.fieldLink RX0 9 "LightDesk$CueList" "delays" "[I", Cond.fieldLink RX0 15 "LightDesk$CueList" "fades" "[I", Cond.methodLink RX0 46 yX0_has, Cond.instanceMethod yX0_has, Cond.selects RX0 yX0_has yX0_has, Cond.code yX0_has cX0_has 2 (some .boolean), Cond.fieldLink RX0 43 "LightDesk$CueList" "cues" "I", Cond.methodLink RX3 200 yX0_follower, Cond.instanceMethod yX0_follower, Cond.selects RX0 yX0_follower yX0_follower, Cond.code yX0_follower cX0_follower 2 (some .int), Cond.fieldLink RX0 18 "LightDesk$CueList" "follow" "[Z", Cond.methodLink RX3 144 yX3_beginFrom, Cond.instanceMethod yX3_beginFrom, Cond.selects RX3 yX3_beginFrom yX3_beginFrom, Cond.code yX3_beginFrom cX3_beginFrom 6 (some .int), Cond.methodLink RX3 191 yX0_begin, Cond.instanceMethod yX0_begin, Cond.selects RX0 yX0_begin yX0_begin]
def wsL_pass_r3 : List Cond := [Cond.code yX0_begin cX0_begin 5 none, Cond.fieldLink RX0 27 "LightDesk$CueList" "from" "[I", Cond.fieldLink RX0 30 "LightDesk$CueList" "to" "[I", Cond.methodLink RX0 62 yX0_levelNow, Cond.instanceMethod yX0_levelNow, Cond.selects RX0 yX0_levelNow yX0_levelNow, Cond.code yX0_levelNow cX0_levelNow 4 (some .int), Cond.static yX3_isChannel, Cond.code yX3_isChannel cX3_isChannel 1 (some .boolean), Cond.methodLink RX0 53 yX0_told, Cond.instanceMethod yX0_told, Cond.selects RX0 yX0_told yX0_told, Cond.code yX0_told cX0_told 3 (some .int), Cond.fieldLink RX0 24 "LightDesk$CueList" "levels" "[[I", Cond.methodLink RX3 194 yX3_noteLatest, Cond.instanceMethod yX3_noteLatest, Cond.selects RX3 yX3_noteLatest yX3_noteLatest, Cond.code yX3_noteLatest cX3_noteLatest 5 none, Cond.fieldLink RX3 37 "LightDesk" "latestList" "[I", Cond.methodLink RX3 120 yX0_told, Cond.methodLink RX3 197 yX0_isOver]
def wsL_pass : List Cond := .codeWith yL_pass cL_pass 4 (some .int) [(0, 9, 12, 13)] :: ((wsL_pass_r1 ++ (wsL_pass_r2 ++ wsL_pass_r3)) ++ wsX30 ++ wsX00 ++ (vx_atS RX3 151 "java/lang/IllegalArgumentException" ["java/lang/RuntimeException", "java/lang/Exception"]).filter goodWord)
def wsL_running : List Cond := .codeWith yL_running cL_running 4 (some .int) [(0, 9, 12, 13)] :: ([.classLink RL 13 "java/lang/IllegalArgumentException", .methodLink RL 53 yX3_running, .instanceMethod yX3_running, .selects RX3 yX3_running yX3_running, .initialized RX3, .code yX3_running cX3_running 2 (some .int), .methodLink RX3 98 yX3_needList, .static yX3_needList, .code yX3_needList cX3_needList 1 none, .classLink RX3 147 "java/lang/IllegalArgumentException", .initialized "java/lang/IllegalArgumentException", .methodLink RX3 104 yX3_cuesOf, .instanceMethod yX3_cuesOf, .selects RX3 yX3_cuesOf yX3_cuesOf, .code yX3_cuesOf cX3_cuesOf 2 (some (.object "LightDesk$CueList")), .fieldLink RX3 19 "LightDesk" "list0" "LLightDesk$CueList;", .fieldLink RX3 23 "LightDesk" "list1" "LLightDesk$CueList;", .methodLink RX3 155 yX0_begunLast, .instanceMethod yX0_begunLast, .selects RX0 yX0_begunLast yX0_begunLast, .initialized RX0, .code yX0_begunLast cX0_begunLast 1 (some .int), .fieldLink RX0 33 "LightDesk$CueList" "begun" "I"] ++ wsX30 ++ wsX00 ++ (vx_atS RX3 151 "java/lang/IllegalArgumentException" ["java/lang/RuntimeException", "java/lang/Exception"]).filter goodWord)
def wsL_level_r1 : List Cond := [Cond.classLink RL 13 "java/lang/IllegalArgumentException", Cond.methodLink RL 56 yX3_level, Cond.instanceMethod yX3_level, Cond.selects RX3 yX3_level yX3_level, Cond.initialized RX3, Cond.code yX3_level cX3_level 3 (some .int), Cond.methodLink RX3 98 yX3_needList, Cond.static yX3_needList, Cond.code yX3_needList cX3_needList 1 none, Cond.classLink RX3 147 "java/lang/IllegalArgumentException", Cond.initialized "java/lang/IllegalArgumentException", Cond.methodLink RX3 95 yX3_needChannel, Cond.static yX3_needChannel, Cond.code yX3_needChannel cX3_needChannel 1 none, Cond.methodLink RX3 182 yX3_isChannel, Cond.static yX3_isChannel, Cond.code yX3_isChannel cX3_isChannel 1 (some .boolean), Cond.methodLink RX3 104 yX3_cuesOf, Cond.instanceMethod yX3_cuesOf, Cond.selects RX3 yX3_cuesOf yX3_cuesOf, Cond.code yX3_cuesOf cX3_cuesOf 2 (some (.object "LightDesk$CueList")), Cond.fieldLink RX3 19 "LightDesk" "list0" "LLightDesk$CueList;", Cond.fieldLink RX3 23 "LightDesk" "list1" "LLightDesk$CueList;", Cond.methodLink RX3 158 yX0_levelNow]
def wsL_level_r2 : List Cond := [Cond.instanceMethod yX0_levelNow, Cond.selects RX0 yX0_levelNow yX0_levelNow, Cond.initialized RX0, Cond.code yX0_levelNow cX0_levelNow 4 (some .int), Cond.fieldLink RX0 33 "LightDesk$CueList" "begun" "I", Cond.fieldLink RX0 15 "LightDesk$CueList" "fades" "[I", Cond.fieldLink RX0 66 "LightDesk$CueList" "elapsed" "I", Cond.fieldLink RX0 9 "LightDesk$CueList" "delays" "[I", Cond.fieldLink RX0 27 "LightDesk$CueList" "from" "[I", Cond.fieldLink RX0 30 "LightDesk$CueList" "to" "[I", Cond.methodLink RX0 46 yX0_has, Cond.instanceMethod yX0_has, Cond.selects RX0 yX0_has yX0_has, Cond.code yX0_has cX0_has 2 (some .boolean), Cond.fieldLink RX0 43 "LightDesk$CueList" "cues" "I"]
def wsL_level : List Cond := .codeWith yL_level cL_level 5 (some .int) [(0, 10, 13, 13)] :: ((wsL_level_r1 ++ wsL_level_r2) ++ wsX30 ++ wsX00 ++ (vx_atS RX3 151 "java/lang/IllegalArgumentException" ["java/lang/RuntimeException", "java/lang/Exception"]).filter goodWord)
def wsL_merged_r1 : List Cond := [Cond.classLink RL 13 "java/lang/IllegalArgumentException", Cond.methodLink RL 59 yX3_merged, Cond.instanceMethod yX3_merged, Cond.selects RX3 yX3_merged yX3_merged, Cond.initialized RX3, Cond.code yX3_merged cX3_merged 2 (some .int), Cond.methodLink RX3 95 yX3_needChannel, Cond.static yX3_needChannel, Cond.code yX3_needChannel cX3_needChannel 1 none, Cond.classLink RX3 147 "java/lang/IllegalArgumentException", Cond.initialized "java/lang/IllegalArgumentException", Cond.methodLink RX3 182 yX3_isChannel, Cond.static yX3_isChannel, Cond.code yX3_isChannel cX3_isChannel 1 (some .boolean), Cond.methodLink RX3 161 yX3_mergedNow, Cond.instanceMethod yX3_mergedNow, Cond.selects RX3 yX3_mergedNow yX3_mergedNow, Cond.code yX3_mergedNow cX3_mergedNow 4 (some .int), Cond.fieldLink RX3 19 "LightDesk" "list0" "LLightDesk$CueList;", Cond.fieldLink RX3 23 "LightDesk" "list1" "LLightDesk$CueList;", Cond.fieldLink RX3 33 "LightDesk" "latestCounts" "[Z", Cond.fieldLink RX3 37 "LightDesk" "latestList" "[I", Cond.methodLink RX3 186 Lib.Math.max.name, Cond.static Lib.Math.max.name]
def wsL_merged_r2 : List Cond := [Cond.initialized "java/lang/Math", Cond.code Lib.Math.max.name Lib.Math.max.code 2 (some .int), Cond.methodLink RX3 158 yX0_levelNow, Cond.instanceMethod yX0_levelNow, Cond.selects RX0 yX0_levelNow yX0_levelNow, Cond.initialized RX0, Cond.code yX0_levelNow cX0_levelNow 4 (some .int), Cond.fieldLink RX0 33 "LightDesk$CueList" "begun" "I", Cond.fieldLink RX0 15 "LightDesk$CueList" "fades" "[I", Cond.fieldLink RX0 66 "LightDesk$CueList" "elapsed" "I", Cond.fieldLink RX0 9 "LightDesk$CueList" "delays" "[I", Cond.fieldLink RX0 27 "LightDesk$CueList" "from" "[I", Cond.fieldLink RX0 30 "LightDesk$CueList" "to" "[I", Cond.methodLink RX0 46 yX0_has, Cond.instanceMethod yX0_has, Cond.selects RX0 yX0_has yX0_has, Cond.code yX0_has cX0_has 2 (some .boolean), Cond.fieldLink RX0 43 "LightDesk$CueList" "cues" "I"]
def wsL_merged : List Cond := .codeWith yL_merged cL_merged 4 (some .int) [(0, 9, 12, 13)] :: ((wsL_merged_r1 ++ wsL_merged_r2) ++ wsX30 ++ wsX00 ++ (vx_atS RX3 151 "java/lang/IllegalArgumentException" ["java/lang/RuntimeException", "java/lang/Exception"]).filter goodWord)
def wsL_light_r1 : List Cond := [Cond.classLink RL 13 "java/lang/IllegalArgumentException", Cond.methodLink RL 62 yX3_light, Cond.instanceMethod yX3_light, Cond.selects RX3 yX3_light yX3_light, Cond.initialized RX3, Cond.code yX3_light cX3_light 2 (some .int), Cond.fieldLink RX3 10 "LightDesk" "rigs" "LLightDesk$Rigs;", Cond.fieldLink RX3 91 "LightDesk" "presentNight" "I", Cond.methodLink RX3 95 yX3_needChannel, Cond.static yX3_needChannel, Cond.code yX3_needChannel cX3_needChannel 1 none, Cond.classLink RX3 147 "java/lang/IllegalArgumentException", Cond.initialized "java/lang/IllegalArgumentException", Cond.methodLink RX3 182 yX3_isChannel, Cond.static yX3_isChannel, Cond.code yX3_isChannel cX3_isChannel 1 (some .boolean), Cond.methodLink RX3 161 yX3_mergedNow, Cond.instanceMethod yX3_mergedNow, Cond.selects RX3 yX3_mergedNow yX3_mergedNow, Cond.code yX3_mergedNow cX3_mergedNow 4 (some .int), Cond.fieldLink RX3 19 "LightDesk" "list0" "LLightDesk$CueList;", Cond.fieldLink RX3 23 "LightDesk" "list1" "LLightDesk$CueList;", Cond.fieldLink RX3 33 "LightDesk" "latestCounts" "[Z", Cond.fieldLink RX3 37 "LightDesk" "latestList" "[I"]
def wsL_light_r2 : List Cond := [Cond.methodLink RX3 186 Lib.Math.max.name, Cond.static Lib.Math.max.name, Cond.initialized "java/lang/Math", Cond.code Lib.Math.max.name Lib.Math.max.code 2 (some .int), Cond.methodLink RX3 158 yX0_levelNow, Cond.instanceMethod yX0_levelNow, Cond.selects RX0 yX0_levelNow yX0_levelNow, Cond.initialized RX0, Cond.code yX0_levelNow cX0_levelNow 4 (some .int), Cond.fieldLink RX0 33 "LightDesk$CueList" "begun" "I", Cond.fieldLink RX0 15 "LightDesk$CueList" "fades" "[I", Cond.fieldLink RX0 66 "LightDesk$CueList" "elapsed" "I", Cond.fieldLink RX0 9 "LightDesk$CueList" "delays" "[I", Cond.fieldLink RX0 27 "LightDesk$CueList" "from" "[I", Cond.fieldLink RX0 30 "LightDesk$CueList" "to" "[I", Cond.methodLink RX0 46 yX0_has, Cond.instanceMethod yX0_has, Cond.selects RX0 yX0_has yX0_has, Cond.code yX0_has cX0_has 2 (some .boolean), Cond.fieldLink RX0 43 "LightDesk$CueList" "cues" "I", Cond.methodLink RX3 164 yX2_shineOn, Cond.instanceMethod yX2_shineOn, Cond.selects RX2 yX2_shineOn yX2_shineOn, Cond.initialized RX2]
def wsL_light_r3 : List Cond := [Cond.code yX2_shineOn cX2_shineOn 6 (some .int), Cond.fieldLink RX2 29 "LightDesk$Rigs" "lamps" "I", Cond.methodLink RX2 44 yX2_channelOf, Cond.instanceMethod yX2_channelOf, Cond.selects RX2 yX2_channelOf yX2_channelOf, Cond.code yX2_channelOf cX2_channelOf 3 (some .int), Cond.fieldLink RX2 20 "LightDesk$Rigs" "channels" "[[I", Cond.static yX3_isNight, Cond.code yX3_isNight cX3_isNight 1 (some .boolean), Cond.methodLink RX2 37 yX2_has, Cond.instanceMethod yX2_has, Cond.selects RX2 yX2_has yX2_has, Cond.code yX2_has cX2_has 2 (some .boolean), Cond.methodLink RX2 48 yX2_shine, Cond.instanceMethod yX2_shine, Cond.selects RX2 yX2_shine yX2_shine, Cond.code yX2_shine cX2_shine 3 (some .int), Cond.methodLink RX2 51 yX2_powerOf, Cond.instanceMethod yX2_powerOf, Cond.selects RX2 yX2_powerOf yX2_powerOf, Cond.code yX2_powerOf cX2_powerOf 2 (some .int), Cond.fieldLink RX2 9 "LightDesk$Rigs" "powers" "[I", Cond.methodLink RX2 55 yX2_gelOf, Cond.instanceMethod yX2_gelOf]
def wsL_light_r4 : List Cond := [Cond.selects RX2 yX2_gelOf yX2_gelOf, Cond.code yX2_gelOf cX2_gelOf 2 (some .int), Cond.fieldLink RX2 15 "LightDesk$Rigs" "gels" "[I", Cond.methodLink RX2 58 yX2_shineOfKind, Cond.static yX2_shineOfKind, Cond.code yX2_shineOfKind cX2_shineOfKind 3 (some .int)]
def wsL_light : List Cond := .codeWith yL_light cL_light 4 (some .int) [(0, 9, 12, 13)] :: ((wsL_light_r1 ++ (wsL_light_r2 ++ (wsL_light_r3 ++ wsL_light_r4))) ++ wsX30 ++ wsX00 ++ wsX20 ++ (vx_atS RX3 151 "java/lang/IllegalArgumentException" ["java/lang/RuntimeException", "java/lang/Exception"]).filter goodWord)
def wsL_preview_r1 : List Cond := [Cond.classLink RL 13 "java/lang/IllegalArgumentException", Cond.classLink RL 21 "java/lang/IndexOutOfBoundsException", Cond.methodLink RL 65 yX3_preview, Cond.instanceMethod yX3_preview, Cond.selects RX3 yX3_preview yX3_preview, Cond.initialized RX3, Cond.code yX3_preview cX3_preview 7 (some .int), Cond.fieldLink RX3 10 "LightDesk" "rigs" "LLightDesk$Rigs;", Cond.methodLink RX3 98 yX3_needList, Cond.static yX3_needList, Cond.code yX3_needList cX3_needList 1 none, Cond.classLink RX3 147 "java/lang/IllegalArgumentException", Cond.initialized "java/lang/IllegalArgumentException", Cond.methodLink RX3 79 yX3_needNight, Cond.static yX3_needNight, Cond.code yX3_needNight cX3_needNight 1 none, Cond.methodLink RX3 224 yX3_isNight, Cond.static yX3_isNight, Cond.code yX3_isNight cX3_isNight 1 (some .boolean), Cond.methodLink RX3 117 yX3_needCue, Cond.instanceMethod yX3_needCue, Cond.selects RX3 yX3_needCue yX3_needCue, Cond.code yX3_needCue cX3_needCue 3 none, Cond.classLink RX3 212 "java/lang/IndexOutOfBoundsException"]
def wsL_preview_r2 : List Cond := [Cond.initialized "java/lang/IndexOutOfBoundsException", Cond.methodLink RX3 104 yX3_cuesOf, Cond.instanceMethod yX3_cuesOf, Cond.selects RX3 yX3_cuesOf yX3_cuesOf, Cond.code yX3_cuesOf cX3_cuesOf 2 (some (.object "LightDesk$CueList")), Cond.fieldLink RX3 19 "LightDesk" "list0" "LLightDesk$CueList;", Cond.fieldLink RX3 23 "LightDesk" "list1" "LLightDesk$CueList;", Cond.methodLink RX3 217 yX0_has, Cond.instanceMethod yX0_has, Cond.selects RX0 yX0_has yX0_has, Cond.initialized RX0, Cond.code yX0_has cX0_has 2 (some .boolean), Cond.fieldLink RX0 43 "LightDesk$CueList" "cues" "I", Cond.methodLink RX3 168 yX0_toldOrZero, Cond.instanceMethod yX0_toldOrZero, Cond.selects RX0 yX0_toldOrZero yX0_toldOrZero, Cond.code yX0_toldOrZero cX0_toldOrZero 3 (some .int), Cond.methodLink RX0 57 Lib.Math.max.name, Cond.static Lib.Math.max.name, Cond.initialized "java/lang/Math", Cond.code Lib.Math.max.name Lib.Math.max.code 2 (some .int), Cond.methodLink RX0 53 yX0_told, Cond.instanceMethod yX0_told, Cond.selects RX0 yX0_told yX0_told]
def wsL_preview_r3 : List Cond := [Cond.code yX0_told cX0_told 3 (some .int), Cond.fieldLink RX0 24 "LightDesk$CueList" "levels" "[[I", Cond.methodLink RX0 46 yX0_has, Cond.static yX3_isChannel, Cond.code yX3_isChannel cX3_isChannel 1 (some .boolean), Cond.methodLink RX3 164 yX2_shineOn, Cond.instanceMethod yX2_shineOn, Cond.selects RX2 yX2_shineOn yX2_shineOn, Cond.initialized RX2, Cond.code yX2_shineOn cX2_shineOn 6 (some .int), Cond.fieldLink RX2 29 "LightDesk$Rigs" "lamps" "I", Cond.methodLink RX2 44 yX2_channelOf, Cond.instanceMethod yX2_channelOf, Cond.selects RX2 yX2_channelOf yX2_channelOf, Cond.code yX2_channelOf cX2_channelOf 3 (some .int), Cond.fieldLink RX2 20 "LightDesk$Rigs" "channels" "[[I", Cond.methodLink RX2 37 yX2_has, Cond.instanceMethod yX2_has, Cond.selects RX2 yX2_has yX2_has, Cond.code yX2_has cX2_has 2 (some .boolean), Cond.methodLink RX2 48 yX2_shine, Cond.instanceMethod yX2_shine, Cond.selects RX2 yX2_shine yX2_shine, Cond.code yX2_shine cX2_shine 3 (some .int)]
def wsL_preview_r4 : List Cond := [Cond.methodLink RX2 51 yX2_powerOf, Cond.instanceMethod yX2_powerOf, Cond.selects RX2 yX2_powerOf yX2_powerOf, Cond.code yX2_powerOf cX2_powerOf 2 (some .int), Cond.fieldLink RX2 9 "LightDesk$Rigs" "powers" "[I", Cond.methodLink RX2 55 yX2_gelOf, Cond.instanceMethod yX2_gelOf, Cond.selects RX2 yX2_gelOf yX2_gelOf, Cond.code yX2_gelOf cX2_gelOf 2 (some .int), Cond.fieldLink RX2 15 "LightDesk$Rigs" "gels" "[I", Cond.methodLink RX2 58 yX2_shineOfKind, Cond.static yX2_shineOfKind, Cond.code yX2_shineOfKind cX2_shineOfKind 3 (some .int)]
def wsL_preview : List Cond := .codeWith yL_preview cL_preview 6 (some .int) [(0, 12, 15, 13), (0, 12, 19, 21)] :: ((wsL_preview_r1 ++ (wsL_preview_r2 ++ (wsL_preview_r3 ++ wsL_preview_r4))) ++ wsX30 ++ wsX00 ++ wsX20 ++ (vx_atS RX3 151 "java/lang/IllegalArgumentException" ["java/lang/RuntimeException", "java/lang/Exception"]).filter goodWord ++ (vx_atS RX3 216 "java/lang/IndexOutOfBoundsException" ["java/lang/RuntimeException", "java/lang/Exception"]).filter goodWord)
def wsL_touched_r1 : List Cond := [Cond.classLink RL 21 "java/lang/IndexOutOfBoundsException", Cond.classLink RL 13 "java/lang/IllegalArgumentException", Cond.methodLink RL 68 yX3_touched, Cond.instanceMethod yX3_touched, Cond.selects RX3 yX3_touched yX3_touched, Cond.initialized RX3, Cond.code yX3_touched cX3_touched 6 (some .int), Cond.fieldLink RX3 10 "LightDesk" "rigs" "LLightDesk$Rigs;", Cond.fieldLink RX3 19 "LightDesk" "list0" "LLightDesk$CueList;", Cond.fieldLink RX3 23 "LightDesk" "list1" "LLightDesk$CueList;", Cond.methodLink RX3 60 yX3_needLamp, Cond.instanceMethod yX3_needLamp, Cond.selects RX3 yX3_needLamp yX3_needLamp, Cond.code yX3_needLamp cX3_needLamp 2 none, Cond.classLink RX3 212 "java/lang/IndexOutOfBoundsException", Cond.initialized "java/lang/IndexOutOfBoundsException", Cond.methodLink RX3 209 yX2_has, Cond.instanceMethod yX2_has, Cond.selects RX2 yX2_has yX2_has, Cond.initialized RX2, Cond.code yX2_has cX2_has 2 (some .boolean), Cond.fieldLink RX2 29 "LightDesk$Rigs" "lamps" "I", Cond.methodLink RX3 41 yX3_needLampKind, Cond.static yX3_needLampKind]
def wsL_touched_r2 : List Cond := [Cond.code yX3_needLampKind cX3_needLampKind 2 none, Cond.classLink RX3 147 "java/lang/IllegalArgumentException", Cond.initialized "java/lang/IllegalArgumentException", Cond.methodLink RX3 79 yX3_needNight, Cond.static yX3_needNight, Cond.code yX3_needNight cX3_needNight 1 none, Cond.methodLink RX3 224 yX3_isNight, Cond.static yX3_isNight, Cond.code yX3_isNight cX3_isNight 1 (some .boolean), Cond.methodLink RX3 85 yX2_channelOf, Cond.instanceMethod yX2_channelOf, Cond.selects RX2 yX2_channelOf yX2_channelOf, Cond.code yX2_channelOf cX2_channelOf 3 (some .int), Cond.fieldLink RX2 20 "LightDesk$Rigs" "channels" "[[I", Cond.methodLink RX2 37 yX2_has, Cond.methodLink RX3 171 yX3_countTouched, Cond.instanceMethod yX3_countTouched, Cond.selects RX3 yX3_countTouched yX3_countTouched, Cond.code yX3_countTouched cX3_countTouched 9 (some .int), Cond.methodLink RX3 175 yX0_size, Cond.instanceMethod yX0_size, Cond.selects RX0 yX0_size yX0_size, Cond.initialized RX0, Cond.code yX0_size cX0_size 1 (some .int)]
def wsL_touched_r3 : List Cond := [Cond.fieldLink RX0 43 "LightDesk$CueList" "cues" "I", Cond.methodLink RX3 168 yX0_toldOrZero, Cond.instanceMethod yX0_toldOrZero, Cond.selects RX0 yX0_toldOrZero yX0_toldOrZero, Cond.code yX0_toldOrZero cX0_toldOrZero 3 (some .int), Cond.methodLink RX0 57 Lib.Math.max.name, Cond.static Lib.Math.max.name, Cond.initialized "java/lang/Math", Cond.code Lib.Math.max.name Lib.Math.max.code 2 (some .int), Cond.methodLink RX0 53 yX0_told, Cond.instanceMethod yX0_told, Cond.selects RX0 yX0_told yX0_told, Cond.code yX0_told cX0_told 3 (some .int), Cond.fieldLink RX0 24 "LightDesk$CueList" "levels" "[[I", Cond.methodLink RX0 46 yX0_has, Cond.instanceMethod yX0_has, Cond.selects RX0 yX0_has yX0_has, Cond.code yX0_has cX0_has 2 (some .boolean), Cond.static yX3_isChannel, Cond.code yX3_isChannel cX3_isChannel 1 (some .boolean), Cond.methodLink RX3 176 yX2_shine, Cond.instanceMethod yX2_shine, Cond.selects RX2 yX2_shine yX2_shine, Cond.code yX2_shine cX2_shine 3 (some .int)]
def wsL_touched_r4 : List Cond := [Cond.methodLink RX2 51 yX2_powerOf, Cond.instanceMethod yX2_powerOf, Cond.selects RX2 yX2_powerOf yX2_powerOf, Cond.code yX2_powerOf cX2_powerOf 2 (some .int), Cond.fieldLink RX2 9 "LightDesk$Rigs" "powers" "[I", Cond.methodLink RX2 55 yX2_gelOf, Cond.instanceMethod yX2_gelOf, Cond.selects RX2 yX2_gelOf yX2_gelOf, Cond.code yX2_gelOf cX2_gelOf 2 (some .int), Cond.fieldLink RX2 15 "LightDesk$Rigs" "gels" "[I", Cond.methodLink RX2 58 yX2_shineOfKind, Cond.static yX2_shineOfKind, Cond.code yX2_shineOfKind cX2_shineOfKind 3 (some .int), Cond.methodLink RX3 179 yX2_shineOfKind]
def wsL_touched : List Cond := .codeWith yL_touched cL_touched 7 (some .int) [(0, 14, 17, 21), (0, 14, 21, 13)] :: ((wsL_touched_r1 ++ (wsL_touched_r2 ++ (wsL_touched_r3 ++ wsL_touched_r4))) ++ wsX30 ++ wsX20 ++ wsX00 ++ (vx_atS RX3 216 "java/lang/IndexOutOfBoundsException" ["java/lang/RuntimeException", "java/lang/Exception"]).filter goodWord ++ (vx_atS RX3 151 "java/lang/IllegalArgumentException" ["java/lang/RuntimeException", "java/lang/Exception"]).filter goodWord)
def wsL_law0_r1 : List Cond := [Cond.classLink RL 8 RX3, Cond.instantiable RX3 7, Cond.initialized RX3, Cond.classLink RL 72 RX4, Cond.instantiable RX4 23, Cond.initialized RX4, Cond.arrayClass .long, Cond.methodLink RL 71 yX3_init, Cond.instanceMethod yX3_init, Cond.code yX3_init cX3_init 1 none, Cond.methodLink RX3 1 objectInit, Cond.instanceMethod objectInit, Cond.code objectInit ⟨#[0xb1]⟩ 1 none, Cond.classLink RX3 7 RX2, Cond.instantiable RX2 4, Cond.initialized RX2, Cond.fieldLink RX3 10 "LightDesk" "rigs" "LLightDesk$Rigs;", Cond.classLink RX3 16 RX0, Cond.instantiable RX0 9, Cond.initialized RX0, Cond.fieldLink RX3 19 "LightDesk" "list0" "LLightDesk$CueList;", Cond.fieldLink RX3 23 "LightDesk" "list1" "LLightDesk$CueList;", Cond.classLink RX3 26 RX1, Cond.instantiable RX1 3]
def wsL_law0_r2 : List Cond := [Cond.initialized RX1, Cond.fieldLink RX3 29 "LightDesk" "history" "LLightDesk$History;", Cond.arrayClass .boolean, Cond.fieldLink RX3 33 "LightDesk" "latestCounts" "[Z", Cond.arrayClass .int, Cond.fieldLink RX3 37 "LightDesk" "latestList" "[I", Cond.methodLink RX3 9 yX2_init, Cond.instanceMethod yX2_init, Cond.code yX2_init cX2_init 2 none, Cond.methodLink RX2 3 objectInit, Cond.fieldLink RX2 9 "LightDesk$Rigs" "powers" "[I", Cond.fieldLink RX2 15 "LightDesk$Rigs" "gels" "[I", Cond.classLink RX2 18 "[[I", Cond.fieldLink RX2 20 "LightDesk$Rigs" "channels" "[[I", Cond.methodLink RX2 23 yJ7_fill_53178, Cond.static yJ7_fill_53178, Cond.initialized RJ7, Cond.code yJ7_fill_53178 cJ7_fill_53178 4 none, Cond.methodLink RX3 18 yX0_init, Cond.instanceMethod yX0_init, Cond.code yX0_init cX0_init 2 none, Cond.methodLink RX0 3 objectInit, Cond.fieldLink RX0 9 "LightDesk$CueList" "delays" "[I", Cond.fieldLink RX0 15 "LightDesk$CueList" "fades" "[I"]
def wsL_law0_r3 : List Cond := [Cond.fieldLink RX0 18 "LightDesk$CueList" "follow" "[Z", Cond.classLink RX0 22 "[[I", Cond.fieldLink RX0 24 "LightDesk$CueList" "levels" "[[I", Cond.fieldLink RX0 27 "LightDesk$CueList" "from" "[I", Cond.fieldLink RX0 30 "LightDesk$CueList" "to" "[I", Cond.fieldLink RX0 33 "LightDesk$CueList" "begun" "I", Cond.methodLink RX0 37 yJ7_fill_53178, Cond.instanceMethod yX1_init, Cond.code yX1_init cX1_init 1 none, Cond.methodLink RX1 3 objectInit, Cond.classLink RX1 11 "[[I", Cond.fieldLink RX1 13 "LightDesk$History" "changes" "[[I", Cond.methodLink RL 74 yX4_init, Cond.instanceMethod yX4_init, Cond.code yX4_init cX4_init 1 none, Cond.methodLink RX4 1 objectInit, Cond.fieldLink RX4 7 "LightDeskModel" "powers" "[I", Cond.fieldLink RX4 13 "LightDeskModel" "gels" "[I", Cond.fieldLink RX4 16 "LightDeskModel" "hung" "[I", Cond.fieldLink RX4 19 "LightDeskModel" "latest" "[I", Cond.fieldLink RX4 22 "LightDeskModel" "last" "[I", Cond.fieldLink RX4 25 "LightDeskModel" "cues" "[I", Cond.fieldLink RX4 28 "LightDeskModel" "delays" "[I", Cond.fieldLink RX4 31 "LightDeskModel" "fades" "[I"]
def wsL_law0_r4 : List Cond := [Cond.fieldLink RX4 34 "LightDeskModel" "follow" "[I", Cond.fieldLink RX4 37 "LightDeskModel" "levels" "[I", Cond.fieldLink RX4 40 "LightDeskModel" "runs" "[I", Cond.fieldLink RX4 43 "LightDeskModel" "since" "[I", Cond.fieldLink RX4 46 "LightDeskModel" "old" "[I", Cond.fieldLink RX4 49 "LightDeskModel" "goals" "[I", Cond.fieldLink RX4 52 "LightDeskModel" "sorts" "[I", Cond.fieldLink RX4 55 "LightDeskModel" "places" "[I", Cond.fieldLink RX4 58 "LightDeskModel" "values" "[I", Cond.fieldLink RX4 61 "LightDeskModel" "others" "[I", Cond.methodLink RL 75 yL_addLamp, Cond.static yL_addLamp, Cond.initialized RL, Cond.codeWith yL_addLamp cL_addLamp 5 (some .int) [(0, 10, 13, 13), (0, 10, 17, 15)], Cond.classLink RL 13 "java/lang/IllegalArgumentException", Cond.classLink RL 15 "java/lang/IllegalStateException", Cond.methodLink RL 7 yX3_addLamp, Cond.instanceMethod yX3_addLamp, Cond.selects RX3 yX3_addLamp yX3_addLamp, Cond.code yX3_addLamp cX3_addLamp 3 (some .int), Cond.classLink RX3 49 "java/lang/IllegalStateException", Cond.initialized "java/lang/IllegalStateException", Cond.methodLink RX3 41 yX3_needLampKind, Cond.static yX3_needLampKind]
def wsL_law0_r5 : List Cond := [Cond.code yX3_needLampKind cX3_needLampKind 2 none, Cond.classLink RX3 147 "java/lang/IllegalArgumentException", Cond.initialized "java/lang/IllegalArgumentException", Cond.methodLink RX3 45 yX2_isFull, Cond.instanceMethod yX2_isFull, Cond.selects RX2 yX2_isFull yX2_isFull, Cond.code yX2_isFull cX2_isFull 1 (some .boolean), Cond.fieldLink RX2 29 "LightDesk$Rigs" "lamps" "I", Cond.methodLink RX3 56 yX2_add, Cond.instanceMethod yX2_add, Cond.selects RX2 yX2_add yX2_add, Cond.code yX2_add cX2_add 4 (some .int), Cond.methodLink RX2 33 yX2_setKind, Cond.instanceMethod yX2_setKind, Cond.selects RX2 yX2_setKind yX2_setKind, Cond.code yX2_setKind cX2_setKind 4 none, Cond.methodLink RX2 37 yX2_has, Cond.instanceMethod yX2_has, Cond.selects RX2 yX2_has yX2_has, Cond.code yX2_has cX2_has 2 (some .boolean), Cond.methodLink RL 80 yX4_addLamp, Cond.instanceMethod yX4_addLamp, Cond.selects RX4 yX4_addLamp yX4_addLamp, Cond.code yX4_addLamp cX4_addLamp 3 (some .int)]
def wsL_law0_r6 : List Cond := [Cond.fieldLink RX4 72 "LightDeskModel" "lamps" "I", Cond.fieldLink RX4 64 "LightDeskModel" "thrown" "I", Cond.methodLink RX4 78 yX4_isMade, Cond.static yX4_isMade, Cond.code yX4_isMade cX4_isMade 2 (some .boolean), Cond.methodLink RX4 68 yX4_in, Cond.static yX4_in, Cond.code yX4_in cX4_in 3 (some .boolean), Cond.methodLink RL 81 yX4_thrown, Cond.instanceMethod yX4_thrown, Cond.selects RX4 yX4_thrown yX4_thrown, Cond.code yX4_thrown cX4_thrown 1 (some .int), Cond.methodLink RL 84 yL_swap, Cond.static yL_swap, Cond.codeWith yL_swap cL_swap 5 (some .int) [(0, 7, 10, 21), (0, 7, 14, 13)], Cond.classLink RL 21 "java/lang/IndexOutOfBoundsException", Cond.methodLink RL 17 yX3_swap, Cond.instanceMethod yX3_swap, Cond.selects RX3 yX3_swap yX3_swap, Cond.code yX3_swap cX3_swap 4 none, Cond.methodLink RX3 60 yX3_needLamp, Cond.instanceMethod yX3_needLamp, Cond.selects RX3 yX3_needLamp yX3_needLamp, Cond.code yX3_needLamp cX3_needLamp 2 none]
def wsL_law0_r7 : List Cond := [Cond.classLink RX3 212 "java/lang/IndexOutOfBoundsException", Cond.initialized "java/lang/IndexOutOfBoundsException", Cond.methodLink RX3 209 yX2_has, Cond.methodLink RX3 64 yX2_powerOf, Cond.instanceMethod yX2_powerOf, Cond.selects RX2 yX2_powerOf yX2_powerOf, Cond.code yX2_powerOf cX2_powerOf 2 (some .int), Cond.methodLink RX3 68 yX2_gelOf, Cond.instanceMethod yX2_gelOf, Cond.selects RX2 yX2_gelOf yX2_gelOf, Cond.code yX2_gelOf cX2_gelOf 2 (some .int), Cond.methodLink RX3 71 yX1_note, Cond.instanceMethod yX1_note, Cond.selects RX1 yX1_note yX1_note, Cond.code yX1_note cX1_note 6 none, Cond.fieldLink RX1 24 "LightDesk$History" "next" "I", Cond.fieldLink RX1 16 "LightDesk$History" "size" "I", Cond.methodLink RX1 27 Lib.Math.min.name, Cond.static Lib.Math.min.name, Cond.initialized "java/lang/Math", Cond.code Lib.Math.min.name Lib.Math.min.code 2 (some .int), Cond.methodLink RX1 20 yX1_put, Cond.instanceMethod yX1_put, Cond.selects RX1 yX1_put yX1_put]
def wsL_law0_r8 : List Cond := [Cond.code yX1_put cX1_put 3 none, Cond.methodLink RX1 37 yX1_isPlace, Cond.static yX1_isPlace, Cond.code yX1_isPlace cX1_isPlace 2 (some .boolean), Cond.methodLink RX3 75 yX2_setKind, Cond.methodLink RL 87 yX4_swap, Cond.instanceMethod yX4_swap, Cond.selects RX4 yX4_swap yX4_swap, Cond.code yX4_swap cX4_swap 4 none, Cond.methodLink RX4 82 yX4_isLamp, Cond.instanceMethod yX4_isLamp, Cond.selects RX4 yX4_isLamp yX4_isLamp, Cond.code yX4_isLamp cX4_isLamp 2 (some .boolean), Cond.methodLink RX4 86 yX4_keeps, Cond.instanceMethod yX4_keeps, Cond.selects RX4 yX4_keeps yX4_keeps, Cond.code yX4_keeps cX4_keeps 6 none, Cond.fieldLink RX4 75 "LightDeskModel" "changes" "I", Cond.methodLink RL 88 yL_hang, Cond.static yL_hang, Cond.codeWith yL_hang cL_hang 6 (some .int) [(0, 12, 15, 21), (0, 12, 19, 13)], Cond.methodLink RL 23 yX3_hang, Cond.instanceMethod yX3_hang, Cond.selects RX3 yX3_hang yX3_hang]
def wsL_law0_r9 : List Cond := [Cond.code yX3_hang cX3_hang 5 (some .int), Cond.methodLink RX3 79 yX3_needNight, Cond.static yX3_needNight, Cond.code yX3_needNight cX3_needNight 1 none, Cond.methodLink RX3 224 yX3_isNight, Cond.static yX3_isNight, Cond.code yX3_isNight cX3_isNight 1 (some .boolean), Cond.methodLink RX3 82 yX3_needChannelOrNone, Cond.static yX3_needChannelOrNone, Cond.code yX3_needChannelOrNone cX3_needChannelOrNone 1 none, Cond.methodLink RX3 95 yX3_needChannel, Cond.static yX3_needChannel, Cond.code yX3_needChannel cX3_needChannel 1 none, Cond.methodLink RX3 182 yX3_isChannel, Cond.static yX3_isChannel, Cond.code yX3_isChannel cX3_isChannel 1 (some .boolean), Cond.methodLink RX3 85 yX2_channelOf, Cond.instanceMethod yX2_channelOf, Cond.selects RX2 yX2_channelOf yX2_channelOf, Cond.code yX2_channelOf cX2_channelOf 3 (some .int), Cond.methodLink RX3 88 yX2_setChannel, Cond.instanceMethod yX2_setChannel, Cond.selects RX2 yX2_setChannel yX2_setChannel, Cond.code yX2_setChannel cX2_setChannel 4 none]
def wsL_law0_r10 : List Cond := [Cond.methodLink RL 91 yX4_hang, Cond.instanceMethod yX4_hang, Cond.selects RX4 yX4_hang yX4_hang, Cond.code yX4_hang cX4_hang 6 (some .int), Cond.methodLink RX4 90 yX4_isNight, Cond.static yX4_isNight, Cond.code yX4_isNight cX4_isNight 1 (some .boolean), Cond.methodLink RX4 93 yX4_isChannel, Cond.static yX4_isChannel, Cond.code yX4_isChannel cX4_isChannel 1 (some .boolean), Cond.methodLink RL 92 yL_setNight, Cond.static yL_setNight, Cond.codeWith yL_setNight cL_setNight 4 (some .int) [(0, 9, 12, 13)], Cond.methodLink RL 27 yX3_setNight, Cond.instanceMethod yX3_setNight, Cond.selects RX3 yX3_setNight yX3_setNight, Cond.code yX3_setNight cX3_setNight 3 (some .int), Cond.fieldLink RX3 91 "LightDesk" "presentNight" "I", Cond.methodLink RL 95 yX4_setNight, Cond.instanceMethod yX4_setNight, Cond.selects RX4 yX4_setNight yX4_setNight, Cond.code yX4_setNight cX4_setNight 3 (some .int), Cond.fieldLink RX4 96 "LightDeskModel" "night" "I", Cond.methodLink RL 96 yL_setLatest]
def wsL_law0_r11 : List Cond := [Cond.static yL_setLatest, Cond.codeWith yL_setLatest cL_setLatest 5 (some .int) [(0, 17, 20, 13)], Cond.methodLink RL 31 yX3_setLatest, Cond.instanceMethod yX3_setLatest, Cond.selects RX3 yX3_setLatest yX3_setLatest, Cond.code yX3_setLatest cX3_setLatest 4 (some .boolean), Cond.methodLink RL 99 yX4_setLatest, Cond.instanceMethod yX4_setLatest, Cond.selects RX4 yX4_setLatest yX4_setLatest, Cond.code yX4_setLatest cX4_setLatest 4 (some .boolean), Cond.methodLink RL 100 yL_addCue, Cond.static yL_addCue, Cond.codeWith yL_addCue cL_addCue 7 (some .int) [(0, 14, 17, 13), (0, 14, 21, 15)], Cond.methodLink RL 35 yX3_addCue, Cond.instanceMethod yX3_addCue, Cond.selects RX3 yX3_addCue yX3_addCue, Cond.code yX3_addCue cX3_addCue 6 (some .int), Cond.methodLink RX3 98 yX3_needList, Cond.static yX3_needList, Cond.code yX3_needList cX3_needList 1 none, Cond.methodLink RX3 101 yX3_needTenths, Cond.static yX3_needTenths, Cond.code yX3_needTenths cX3_needTenths 1 none, Cond.methodLink RX3 104 yX3_cuesOf]
def wsL_law0_r12 : List Cond := [Cond.instanceMethod yX3_cuesOf, Cond.selects RX3 yX3_cuesOf yX3_cuesOf, Cond.code yX3_cuesOf cX3_cuesOf 2 (some (.object "LightDesk$CueList")), Cond.methodLink RX3 108 yX0_isFull, Cond.instanceMethod yX0_isFull, Cond.selects RX0 yX0_isFull yX0_isFull, Cond.code yX0_isFull cX0_isFull 1 (some .boolean), Cond.fieldLink RX0 43 "LightDesk$CueList" "cues" "I", Cond.methodLink RX3 111 yX0_add, Cond.instanceMethod yX0_add, Cond.selects RX0 yX0_add yX0_add, Cond.code yX0_add cX0_add 5 (some .int), Cond.methodLink RL 103 yX4_addCue, Cond.instanceMethod yX4_addCue, Cond.selects RX4 yX4_addCue yX4_addCue, Cond.code yX4_addCue cX4_addCue 6 (some .int), Cond.methodLink RX4 99 yX4_isList, Cond.static yX4_isList, Cond.code yX4_isList cX4_isList 1 (some .boolean), Cond.methodLink RX4 102 yX4_fails, Cond.instanceMethod yX4_fails, Cond.selects RX4 yX4_fails yX4_fails, Cond.code yX4_fails cX4_fails 2 (some .int), Cond.methodLink RL 104 yL_setLevel]
def wsL_law0_r13 : List Cond := [Cond.static yL_setLevel, Cond.codeWith yL_setLevel cL_setLevel 7 (some .int) [(0, 14, 17, 13), (0, 14, 21, 21)], Cond.methodLink RL 39 yX3_setLevel, Cond.instanceMethod yX3_setLevel, Cond.selects RX3 yX3_setLevel yX3_setLevel, Cond.code yX3_setLevel cX3_setLevel 7 (some .int), Cond.methodLink RX3 114 yX3_needLevelOrNone, Cond.static yX3_needLevelOrNone, Cond.code yX3_needLevelOrNone cX3_needLevelOrNone 1 none, Cond.methodLink RX3 117 yX3_needCue, Cond.instanceMethod yX3_needCue, Cond.selects RX3 yX3_needCue yX3_needCue, Cond.code yX3_needCue cX3_needCue 3 none, Cond.methodLink RX3 217 yX0_has, Cond.instanceMethod yX0_has, Cond.selects RX0 yX0_has yX0_has, Cond.code yX0_has cX0_has 2 (some .boolean), Cond.methodLink RX3 120 yX0_told, Cond.instanceMethod yX0_told, Cond.selects RX0 yX0_told yX0_told, Cond.code yX0_told cX0_told 3 (some .int), Cond.methodLink RX0 46 yX0_has, Cond.methodLink RX3 123 yX0_tell, Cond.instanceMethod yX0_tell]
def wsL_law0_r14 : List Cond := [Cond.selects RX0 yX0_tell yX0_tell, Cond.code yX0_tell cX0_tell 4 none, Cond.methodLink RL 107 yX4_setLevel, Cond.instanceMethod yX4_setLevel, Cond.selects RX4 yX4_setLevel yX4_setLevel, Cond.code yX4_setLevel cX4_setLevel 7 (some .int), Cond.methodLink RL 108 yL_undo, Cond.static yL_undo, Cond.codeWith yL_undo cL_undo 3 (some .int) [(0, 8, 11, 15)], Cond.methodLink RL 43 yX3_undo, Cond.instanceMethod yX3_undo, Cond.selects RX3 yX3_undo yX3_undo, Cond.code yX3_undo cX3_undo 1 (some .int), Cond.methodLink RX3 126 yX1_isEmpty, Cond.instanceMethod yX1_isEmpty, Cond.selects RX1 yX1_isEmpty yX1_isEmpty, Cond.code yX1_isEmpty cX1_isEmpty 1 (some .boolean), Cond.methodLink RX3 131 yX3_takeBackLast, Cond.instanceMethod yX3_takeBackLast, Cond.selects RX3 yX3_takeBackLast yX3_takeBackLast, Cond.code yX3_takeBackLast cX3_takeBackLast 5 none, Cond.methodLink RX3 206 yX1_lastPart, Cond.instanceMethod yX1_lastPart, Cond.selects RX1 yX1_lastPart yX1_lastPart]
def wsL_law0_r15 : List Cond := [Cond.code yX1_lastPart cX1_lastPart 3 (some .int), Cond.methodLink RX1 33 yX1_lastRow, Cond.instanceMethod yX1_lastRow, Cond.selects RX1 yX1_lastRow yX1_lastRow, Cond.code yX1_lastRow cX1_lastRow 1 (some .int), Cond.methodLink RX3 134 yX1_dropLast, Cond.instanceMethod yX1_dropLast, Cond.selects RX1 yX1_dropLast yX1_dropLast, Cond.code yX1_dropLast cX1_dropLast 1 none, Cond.methodLink RX1 41 Lib.Math.max.name, Cond.static Lib.Math.max.name, Cond.code Lib.Math.max.name Lib.Math.max.code 2 (some .int), Cond.methodLink RX3 137 yX1_size, Cond.instanceMethod yX1_size, Cond.selects RX1 yX1_size yX1_size, Cond.code yX1_size cX1_size 1 (some .int), Cond.methodLink RL 111 yX4_undo, Cond.instanceMethod yX4_undo, Cond.selects RX4 yX4_undo yX4_undo, Cond.code yX4_undo cX4_undo 2 (some .int), Cond.methodLink RL 112 yL_go, Cond.static yL_go, Cond.codeWith yL_go cL_go 5 (some .int) [(0, 10, 13, 13), (0, 10, 17, 21)], Cond.methodLink RL 47 yX3_go]
def wsL_law0_r16 : List Cond := [Cond.instanceMethod yX3_go, Cond.selects RX3 yX3_go yX3_go, Cond.code yX3_go cX3_go 4 (some .int), Cond.methodLink RX3 141 yX0_countTold, Cond.instanceMethod yX0_countTold, Cond.selects RX0 yX0_countTold yX0_countTold, Cond.code yX0_countTold cX0_countTold 4 (some .int), Cond.methodLink RX0 53 yX0_told, Cond.methodLink RX3 144 yX3_beginFrom, Cond.instanceMethod yX3_beginFrom, Cond.selects RX3 yX3_beginFrom yX3_beginFrom, Cond.code yX3_beginFrom cX3_beginFrom 6 (some .int), Cond.methodLink RX3 191 yX0_begin, Cond.instanceMethod yX0_begin, Cond.selects RX0 yX0_begin yX0_begin, Cond.code yX0_begin cX0_begin 5 none, Cond.fieldLink RX0 66 "LightDesk$CueList" "elapsed" "I", Cond.methodLink RX0 62 yX0_levelNow, Cond.instanceMethod yX0_levelNow, Cond.selects RX0 yX0_levelNow yX0_levelNow, Cond.code yX0_levelNow cX0_levelNow 4 (some .int), Cond.methodLink RX3 194 yX3_noteLatest, Cond.instanceMethod yX3_noteLatest, Cond.selects RX3 yX3_noteLatest yX3_noteLatest]
def wsL_law0_r17 : List Cond := [Cond.code yX3_noteLatest cX3_noteLatest 5 none, Cond.methodLink RX3 197 yX0_isOver, Cond.instanceMethod yX0_isOver, Cond.selects RX0 yX0_isOver yX0_isOver, Cond.code yX0_isOver cX0_isOver 1 (some .boolean), Cond.methodLink RX3 200 yX0_follower, Cond.instanceMethod yX0_follower, Cond.selects RX0 yX0_follower yX0_follower, Cond.code yX0_follower cX0_follower 2 (some .int), Cond.methodLink RL 114 yX4_go, Cond.instanceMethod yX4_go, Cond.selects RX4 yX4_go yX4_go, Cond.code yX4_go cX4_go 5 (some .int), Cond.methodLink RX4 113 yX4_begins, Cond.instanceMethod yX4_begins, Cond.selects RX4 yX4_begins yX4_begins, Cond.code yX4_begins cX4_begins 5 none, Cond.fieldLink RX4 106 "LightDeskModel" "time" "I", Cond.methodLink RX4 109 yX4_levelOf, Cond.instanceMethod yX4_levelOf, Cond.selects RX4 yX4_levelOf yX4_levelOf, Cond.code yX4_levelOf cX4_levelOf 7 (some .int), Cond.methodLink RX4 117 yX4_looks, Cond.instanceMethod yX4_looks]
def wsL_law0_r18 : List Cond := [Cond.selects RX4 yX4_looks yX4_looks, Cond.code yX4_looks cX4_looks 5 (some .int), Cond.methodLink RL 115 yL_pass, Cond.static yL_pass, Cond.codeWith yL_pass cL_pass 4 (some .int) [(0, 9, 12, 13)], Cond.methodLink RL 50 yX3_pass, Cond.instanceMethod yX3_pass, Cond.selects RX3 yX3_pass yX3_pass, Cond.code yX3_pass cX3_pass 4 (some .int), Cond.methodLink RX3 152 yX3_passTenth, Cond.instanceMethod yX3_passTenth, Cond.selects RX3 yX3_passTenth yX3_passTenth, Cond.code yX3_passTenth cX3_passTenth 3 (some .int), Cond.methodLink RX3 203 yX0_endsInNextTenth, Cond.instanceMethod yX0_endsInNextTenth, Cond.selects RX0 yX0_endsInNextTenth yX0_endsInNextTenth, Cond.code yX0_endsInNextTenth cX0_endsInNextTenth 1 (some .boolean), Cond.methodLink RX0 69 yX0_isOver, Cond.methodLink RL 117 yX4_pass, Cond.instanceMethod yX4_pass, Cond.selects RX4 yX4_pass yX4_pass, Cond.code yX4_pass cX4_pass 4 (some .int), Cond.methodLink RL 118 yL_running, Cond.static yL_running]
def wsL_law0_r19 : List Cond := [Cond.codeWith yL_running cL_running 4 (some .int) [(0, 9, 12, 13)], Cond.methodLink RL 53 yX3_running, Cond.instanceMethod yX3_running, Cond.selects RX3 yX3_running yX3_running, Cond.code yX3_running cX3_running 2 (some .int), Cond.methodLink RX3 155 yX0_begunLast, Cond.instanceMethod yX0_begunLast, Cond.selects RX0 yX0_begunLast yX0_begunLast, Cond.code yX0_begunLast cX0_begunLast 1 (some .int), Cond.methodLink RL 120 yX4_running, Cond.instanceMethod yX4_running, Cond.selects RX4 yX4_running yX4_running, Cond.code yX4_running cX4_running 2 (some .int), Cond.methodLink RL 121 yL_level, Cond.static yL_level, Cond.codeWith yL_level cL_level 5 (some .int) [(0, 10, 13, 13)], Cond.methodLink RL 56 yX3_level, Cond.instanceMethod yX3_level, Cond.selects RX3 yX3_level yX3_level, Cond.code yX3_level cX3_level 3 (some .int), Cond.methodLink RX3 158 yX0_levelNow, Cond.methodLink RL 123 yX4_level, Cond.instanceMethod yX4_level, Cond.selects RX4 yX4_level yX4_level]
def wsL_law0_r20 : List Cond := [Cond.code yX4_level cX4_level 3 (some .int), Cond.methodLink RL 124 yL_merged, Cond.static yL_merged, Cond.codeWith yL_merged cL_merged 4 (some .int) [(0, 9, 12, 13)], Cond.methodLink RL 59 yX3_merged, Cond.instanceMethod yX3_merged, Cond.selects RX3 yX3_merged yX3_merged, Cond.code yX3_merged cX3_merged 2 (some .int), Cond.methodLink RX3 161 yX3_mergedNow, Cond.instanceMethod yX3_mergedNow, Cond.selects RX3 yX3_mergedNow yX3_mergedNow, Cond.code yX3_mergedNow cX3_mergedNow 4 (some .int), Cond.methodLink RX3 186 Lib.Math.max.name, Cond.methodLink RL 126 yX4_merged, Cond.instanceMethod yX4_merged, Cond.selects RX4 yX4_merged yX4_merged, Cond.code yX4_merged cX4_merged 2 (some .int), Cond.methodLink RX4 120 yX4_mergedOf, Cond.instanceMethod yX4_mergedOf, Cond.selects RX4 yX4_mergedOf yX4_mergedOf, Cond.code yX4_mergedOf cX4_mergedOf 4 (some .int), Cond.methodLink RL 127 yL_light, Cond.static yL_light, Cond.codeWith yL_light cL_light 4 (some .int) [(0, 9, 12, 13)]]
def wsL_law0_r21 : List Cond := [Cond.methodLink RL 62 yX3_light, Cond.instanceMethod yX3_light, Cond.selects RX3 yX3_light yX3_light, Cond.code yX3_light cX3_light 2 (some .int), Cond.methodLink RX3 164 yX2_shineOn, Cond.instanceMethod yX2_shineOn, Cond.selects RX2 yX2_shineOn yX2_shineOn, Cond.code yX2_shineOn cX2_shineOn 6 (some .int), Cond.methodLink RX2 44 yX2_channelOf, Cond.methodLink RX2 48 yX2_shine, Cond.instanceMethod yX2_shine, Cond.selects RX2 yX2_shine yX2_shine, Cond.code yX2_shine cX2_shine 3 (some .int), Cond.methodLink RX2 51 yX2_powerOf, Cond.methodLink RX2 55 yX2_gelOf, Cond.methodLink RX2 58 yX2_shineOfKind, Cond.static yX2_shineOfKind, Cond.code yX2_shineOfKind cX2_shineOfKind 3 (some .int), Cond.methodLink RL 129 yX4_light, Cond.instanceMethod yX4_light, Cond.selects RX4 yX4_light yX4_light, Cond.code yX4_light cX4_light 2 (some .int), Cond.methodLink RX4 127 yX4_lightOf, Cond.instanceMethod yX4_lightOf]
def wsL_law0_r22 : List Cond := [Cond.selects RX4 yX4_lightOf yX4_lightOf, Cond.code yX4_lightOf cX4_lightOf 6 (some .int), Cond.methodLink RX4 123 yX4_through, Cond.static yX4_through, Cond.code yX4_through cX4_through 3 (some .int), Cond.methodLink RL 130 yX3_allLight, Cond.instanceMethod yX3_allLight, Cond.selects RX3 yX3_allLight yX3_allLight, Cond.code yX3_allLight cX3_allLight 3 (some .int), Cond.methodLink RL 133 yX4_allLight, Cond.instanceMethod yX4_allLight, Cond.selects RX4 yX4_allLight yX4_allLight, Cond.code yX4_allLight cX4_allLight 3 (some .int), Cond.methodLink RL 134 yL_preview, Cond.static yL_preview, Cond.codeWith yL_preview cL_preview 6 (some .int) [(0, 12, 15, 13), (0, 12, 19, 21)], Cond.methodLink RL 65 yX3_preview, Cond.instanceMethod yX3_preview, Cond.selects RX3 yX3_preview yX3_preview, Cond.code yX3_preview cX3_preview 7 (some .int), Cond.methodLink RX3 168 yX0_toldOrZero, Cond.instanceMethod yX0_toldOrZero, Cond.selects RX0 yX0_toldOrZero yX0_toldOrZero, Cond.code yX0_toldOrZero cX0_toldOrZero 3 (some .int)]
def wsL_law0_r23 : List Cond := [Cond.methodLink RX0 57 Lib.Math.max.name, Cond.methodLink RL 136 yX4_preview, Cond.instanceMethod yX4_preview, Cond.selects RX4 yX4_preview yX4_preview, Cond.code yX4_preview cX4_preview 4 (some .int), Cond.methodLink RX4 130 yX4_shown, Cond.instanceMethod yX4_shown, Cond.selects RX4 yX4_shown yX4_shown, Cond.code yX4_shown cX4_shown 7 (some .int), Cond.methodLink RL 137 yL_touched, Cond.static yL_touched, Cond.codeWith yL_touched cL_touched 7 (some .int) [(0, 14, 17, 21), (0, 14, 21, 13)], Cond.methodLink RL 68 yX3_touched, Cond.instanceMethod yX3_touched, Cond.selects RX3 yX3_touched yX3_touched, Cond.code yX3_touched cX3_touched 6 (some .int), Cond.methodLink RX3 171 yX3_countTouched, Cond.instanceMethod yX3_countTouched, Cond.selects RX3 yX3_countTouched yX3_countTouched, Cond.code yX3_countTouched cX3_countTouched 9 (some .int), Cond.methodLink RX3 175 yX0_size, Cond.instanceMethod yX0_size, Cond.selects RX0 yX0_size yX0_size, Cond.code yX0_size cX0_size 1 (some .int)]
def wsL_law0_r24 : List Cond := [Cond.methodLink RX3 176 yX2_shine, Cond.methodLink RX3 179 yX2_shineOfKind, Cond.methodLink RL 139 yX4_touched, Cond.instanceMethod yX4_touched, Cond.selects RX4 yX4_touched yX4_touched, Cond.code yX4_touched cX4_touched 10 (some .int)]
def wsL_law0 : List Cond := (wsL_law0_r1 ++ (wsL_law0_r2 ++ (wsL_law0_r3 ++ (wsL_law0_r4 ++ (wsL_law0_r5 ++ (wsL_law0_r6 ++ (wsL_law0_r7 ++ (wsL_law0_r8 ++ (wsL_law0_r9 ++ (wsL_law0_r10 ++ (wsL_law0_r11 ++ (wsL_law0_r12 ++ (wsL_law0_r13 ++ (wsL_law0_r14 ++ (wsL_law0_r15 ++ (wsL_law0_r16 ++ (wsL_law0_r17 ++ (wsL_law0_r18 ++ (wsL_law0_r19 ++ (wsL_law0_r20 ++ (wsL_law0_r21 ++ (wsL_law0_r22 ++ (wsL_law0_r23 ++ wsL_law0_r24))))))))))))))))))))))) ++ wsX30 ++ wsX40 ++ wsX20 ++ wsX00 ++ wsX10 ++ ([] : List Cond)
def wsL_law : List Cond := wsL_law0 ++ (vx_atS RX3 53 "java/lang/IllegalStateException" ["java/lang/RuntimeException", "java/lang/Exception"]).filter goodWord ++ (vx_atS RX3 151 "java/lang/IllegalArgumentException" ["java/lang/RuntimeException", "java/lang/Exception"]).filter goodWord ++ (vx_atS RX3 216 "java/lang/IndexOutOfBoundsException" ["java/lang/RuntimeException", "java/lang/Exception"]).filter goodWord
theorem ld_inp {big : List Cond} (ws : List Cond) (ps : List Nat) (hp : ws = ps.filterMap (fun i => big[i]?)) : ∀ w ∈ ws, w ∈ big := fun w hw => by
  rw [hp] at hw
  obtain ⟨i, -, hi⟩ := List.mem_filterMap.mp hw
  exact List.mem_of_getElem? hi
set_option maxRecDepth 20000 in
theorem ld_i_wsL_law0_r1 : ∀ w ∈ wsL_law0_r1, w ∈ lw_tbl := ld_inp _ [35, 36, 22, 587, 588, 27, 789, 37, 38, 39, 40, 41, 42, 43, 44, 23, 122, 68, 69, 25, 123, 124, 105, 106] (by decide +kernel)
set_option maxRecDepth 20000 in
theorem ld_i_wsL_law0_r2 : ∀ w ∈ wsL_law0_r2, w ∈ lw_tbl := ld_inp _ [26, 125, 104, 126, 67, 127, 45, 46, 47, 48, 54, 55, 49, 56, 51, 52, 24, 53, 70, 71, 72, 73, 76, 77] (by decide +kernel)
set_option maxRecDepth 20000 in
theorem ld_i_wsL_law0_r3 : ∀ w ∈ wsL_law0_r3, w ∈ lw_tbl := ld_inp _ [78, 74, 79, 80, 81, 83, 75, 108, 109, 110, 111, 112, 589, 590, 591, 592, 594, 595, 596, 598, 599, 600, 601, 602] (by decide +kernel)
set_option maxRecDepth 20000 in
theorem ld_i_wsL_law0_r4 : ∀ w ∈ wsL_law0_r4, w ∈ lw_tbl := ld_inp _ [603, 604, 606, 607, 608, 609, 611, 612, 613, 614, 197, 198, 21, 199, 200, 201, 202, 203, 204, 205, 282, 32, 206, 207] (by decide +kernel)
set_option maxRecDepth 20000 in
theorem ld_i_wsL_law0_r5 : ∀ w ∈ wsL_law0_r5, w ∈ lw_tbl := ld_inp _ [208, 209, 31, 278, 279, 280, 281, 57, 298, 299, 300, 301, 302, 303, 304, 305, 178, 179, 180, 181, 671, 672, 673, 674] (by decide +kernel)
set_option maxRecDepth 20000 in
theorem ld_i_wsL_law0_r6 : ∀ w ∈ wsL_law0_r6, w ∈ lw_tbl := ld_inp _ [593, 615, 675, 676, 677, 678, 679, 680, 663, 664, 665, 666, 306, 307, 308, 309, 310, 311, 312, 313, 314, 316, 2, 317] (by decide +kernel)
set_option maxRecDepth 20000 in
theorem ld_i_wsL_law0_r7 : ∀ w ∈ wsL_law0_r7, w ∈ lw_tbl := ld_inp _ [319, 33, 318, 335, 187, 188, 189, 336, 191, 192, 193, 337, 338, 339, 340, 113, 114, 348, 349, 34, 350, 341, 343, 3] (by decide +kernel)
set_option maxRecDepth 20000 in
theorem ld_i_wsL_law0_r8 : ∀ w ∈ wsL_law0_r8, w ∈ lw_tbl := ld_inp _ [344, 345, 346, 347, 351, 681, 682, 683, 684, 685, 687, 12, 688, 689, 691, 13, 692, 610, 352, 353, 354, 355, 356, 357] (by decide +kernel)
set_option maxRecDepth 20000 in
theorem ld_i_wsL_law0_r9 : ∀ w ∈ wsL_law0_r9, w ∈ lw_tbl := ld_inp _ [358, 359, 360, 361, 362, 176, 177, 364, 365, 366, 367, 368, 369, 163, 161, 162, 371, 172, 173, 174, 372, 373, 374, 375] (by decide +kernel)
set_option maxRecDepth 20000 in
theorem ld_i_wsL_law0_r10 : ∀ w ∈ wsL_law0_r10, w ∈ lw_tbl := ld_inp _ [693, 694, 695, 696, 697, 698, 699, 700, 701, 702, 376, 377, 378, 379, 380, 381, 382, 128, 703, 704, 705, 706, 597, 383] (by decide +kernel)
set_option maxRecDepth 20000 in
theorem ld_i_wsL_law0_r11 : ∀ w ∈ wsL_law0_r11, w ∈ lw_tbl := ld_inp _ [384, 385, 386, 387, 388, 389, 707, 708, 709, 710, 390, 391, 392, 393, 394, 395, 396, 397, 398, 399, 401, 402, 403, 405] (by decide +kernel)
set_option maxRecDepth 20000 in
theorem ld_i_wsL_law0_r12 : ∀ w ∈ wsL_law0_r12, w ∈ lw_tbl := ld_inp _ [407, 4, 408, 409, 410, 411, 412, 82, 414, 415, 416, 417, 711, 712, 713, 714, 715, 716, 717, 718, 720, 14, 721, 418] (by decide +kernel)
set_option maxRecDepth 20000 in
theorem ld_i_wsL_law0_r13 : ∀ w ∈ wsL_law0_r13, w ∈ lw_tbl := ld_inp _ [419, 420, 421, 422, 423, 424, 425, 426, 427, 429, 431, 5, 432, 433, 157, 158, 159, 435, 436, 437, 438, 156, 439, 440] (by decide +kernel)
set_option maxRecDepth 20000 in
theorem ld_i_wsL_law0_r14 : ∀ w ∈ wsL_law0_r14, w ∈ lw_tbl := ld_inp _ [441, 442, 722, 723, 724, 725, 443, 444, 445, 446, 447, 448, 449, 450, 451, 452, 453, 455, 457, 6, 458, 459, 460, 461] (by decide +kernel)
set_option maxRecDepth 20000 in
theorem ld_i_wsL_law0_r15 : ∀ w ∈ wsL_law0_r15, w ∈ lw_tbl := ld_inp _ [462, 463, 465, 7, 466, 467, 468, 469, 470, 471, 165, 166, 472, 473, 474, 475, 667, 668, 669, 670, 476, 477, 478, 479] (by decide +kernel)
set_option maxRecDepth 20000 in
theorem ld_i_wsL_law0_r16 : ∀ w ∈ wsL_law0_r16, w ∈ lw_tbl := ld_inp _ [480, 481, 482, 483, 484, 485, 486, 487, 488, 490, 8, 491, 492, 493, 494, 495, 84, 496, 153, 154, 155, 497, 499, 9] (by decide +kernel)
set_option maxRecDepth 20000 in
theorem ld_i_wsL_law0_r17 : ∀ w ∈ wsL_law0_r17, w ∈ lw_tbl := ld_inp _ [500, 501, 502, 503, 504, 505, 506, 507, 508, 726, 727, 728, 729, 730, 732, 15, 733, 605, 734, 736, 16, 737, 738, 740] (by decide +kernel)
set_option maxRecDepth 20000 in
theorem ld_i_wsL_law0_r18 : ∀ w ∈ wsL_law0_r18, w ∈ lw_tbl := ld_inp _ [17, 741, 509, 510, 511, 512, 513, 514, 515, 517, 519, 10, 520, 521, 522, 523, 524, 525, 742, 743, 744, 745, 526, 527] (by decide +kernel)
set_option maxRecDepth 20000 in
theorem ld_i_wsL_law0_r19 : ∀ w ∈ wsL_law0_r19, w ∈ lw_tbl := ld_inp _ [528, 529, 530, 531, 532, 533, 534, 535, 536, 746, 747, 748, 749, 537, 538, 539, 540, 541, 542, 543, 152, 750, 751, 752] (by decide +kernel)
set_option maxRecDepth 20000 in
theorem ld_i_wsL_law0_r20 : ∀ w ∈ wsL_law0_r20, w ∈ lw_tbl := ld_inp _ [753, 544, 545, 546, 547, 548, 549, 550, 148, 150, 0, 151, 164, 754, 755, 756, 757, 758, 760, 18, 761, 551, 552, 553] (by decide +kernel)
set_option maxRecDepth 20000 in
theorem ld_i_wsL_law0_r21 : ∀ w ∈ wsL_law0_r21, w ∈ lw_tbl := ld_inp _ [554, 555, 556, 557, 167, 168, 169, 170, 171, 182, 183, 184, 185, 186, 190, 194, 195, 196, 762, 763, 764, 765, 766, 768] (by decide +kernel)
set_option maxRecDepth 20000 in
theorem ld_i_wsL_law0_r22 : ∀ w ∈ wsL_law0_r22, w ∈ lw_tbl := ld_inp _ [19, 769, 770, 771, 772, 144, 145, 146, 147, 773, 774, 775, 776, 558, 559, 560, 561, 562, 563, 564, 565, 566, 567, 568] (by decide +kernel)
set_option maxRecDepth 20000 in
theorem ld_i_wsL_law0_r23 : ∀ w ∈ wsL_law0_r23, w ∈ lw_tbl := ld_inp _ [569, 777, 778, 779, 780, 781, 783, 20, 784, 570, 571, 572, 573, 574, 575, 576, 577, 579, 11, 580, 581, 582, 583, 584] (by decide +kernel)
set_option maxRecDepth 20000 in
theorem ld_i_wsL_law0_r24 : ∀ w ∈ wsL_law0_r24, w ∈ lw_tbl := ld_inp _ [585, 586, 785, 786, 787, 788] (by decide +kernel)
set_option maxRecDepth 20000 in
theorem ld_i_wsX00 : ∀ w ∈ wsX00, w ∈ lw_tbl := ld_inp _ [85, 87, 89, 91, 93, 95, 97, 99, 101] (by decide +kernel)
set_option maxRecDepth 20000 in
theorem ld_i_wsX10 : ∀ w ∈ wsX10, w ∈ lw_tbl := ld_inp _ [115, 117, 119] (by decide +kernel)
set_option maxRecDepth 20000 in
theorem ld_i_wsX20 : ∀ w ∈ wsX20, w ∈ lw_tbl := ld_inp _ [58, 60, 62, 64] (by decide +kernel)
set_option maxRecDepth 20000 in
theorem ld_i_wsX30 : ∀ w ∈ wsX30, w ∈ lw_tbl := ld_inp _ [129, 131, 133, 135, 137, 139, 141] (by decide +kernel)
set_option maxRecDepth 20000 in
theorem ld_i_wsX40 : ∀ w ∈ wsX40, w ∈ lw_tbl := ld_inp _ [616, 618, 620, 622, 624, 626, 628, 630, 632, 634, 636, 638, 640, 642, 644, 646, 648, 650, 652, 654, 656, 658, 660] (by decide +kernel)
theorem wsL_law_in0 : ∀ w ∈ wsL_law0, w ∈ lw_tbl := (List.forall_mem_append.mpr ⟨(List.forall_mem_append.mpr ⟨(List.forall_mem_append.mpr ⟨(List.forall_mem_append.mpr ⟨(List.forall_mem_append.mpr ⟨(List.forall_mem_append.mpr ⟨(List.forall_mem_append.mpr ⟨ld_i_wsL_law0_r1, (List.forall_mem_append.mpr ⟨ld_i_wsL_law0_r2, (List.forall_mem_append.mpr ⟨ld_i_wsL_law0_r3, (List.forall_mem_append.mpr ⟨ld_i_wsL_law0_r4, (List.forall_mem_append.mpr ⟨ld_i_wsL_law0_r5, (List.forall_mem_append.mpr ⟨ld_i_wsL_law0_r6, (List.forall_mem_append.mpr ⟨ld_i_wsL_law0_r7, (List.forall_mem_append.mpr ⟨ld_i_wsL_law0_r8, (List.forall_mem_append.mpr ⟨ld_i_wsL_law0_r9, (List.forall_mem_append.mpr ⟨ld_i_wsL_law0_r10, (List.forall_mem_append.mpr ⟨ld_i_wsL_law0_r11, (List.forall_mem_append.mpr ⟨ld_i_wsL_law0_r12, (List.forall_mem_append.mpr ⟨ld_i_wsL_law0_r13, (List.forall_mem_append.mpr ⟨ld_i_wsL_law0_r14, (List.forall_mem_append.mpr ⟨ld_i_wsL_law0_r15, (List.forall_mem_append.mpr ⟨ld_i_wsL_law0_r16, (List.forall_mem_append.mpr ⟨ld_i_wsL_law0_r17, (List.forall_mem_append.mpr ⟨ld_i_wsL_law0_r18, (List.forall_mem_append.mpr ⟨ld_i_wsL_law0_r19, (List.forall_mem_append.mpr ⟨ld_i_wsL_law0_r20, (List.forall_mem_append.mpr ⟨ld_i_wsL_law0_r21, (List.forall_mem_append.mpr ⟨ld_i_wsL_law0_r22, (List.forall_mem_append.mpr ⟨ld_i_wsL_law0_r23, ld_i_wsL_law0_r24⟩)⟩)⟩)⟩)⟩)⟩)⟩)⟩)⟩)⟩)⟩)⟩)⟩)⟩)⟩)⟩)⟩)⟩)⟩)⟩)⟩)⟩)⟩), ld_i_wsX30⟩), ld_i_wsX40⟩), ld_i_wsX20⟩), ld_i_wsX00⟩), ld_i_wsX10⟩), (fun _ h => absurd h List.not_mem_nil)⟩)
theorem wsL_law_x0 : ∀ w ∈ (vx_atS RX3 53 "java/lang/IllegalStateException" ["java/lang/RuntimeException", "java/lang/Exception"]).filter goodWord, w ∈ lw_tbl := by decide +kernel
theorem wsL_law_x1 : ∀ w ∈ (vx_atS RX3 151 "java/lang/IllegalArgumentException" ["java/lang/RuntimeException", "java/lang/Exception"]).filter goodWord, w ∈ lw_tbl := by decide +kernel
theorem wsL_law_x2 : ∀ w ∈ (vx_atS RX3 216 "java/lang/IndexOutOfBoundsException" ["java/lang/RuntimeException", "java/lang/Exception"]).filter goodWord, w ∈ lw_tbl := by decide +kernel
theorem wsL_law_in : ∀ w ∈ wsL_law, w ∈ lw_tbl := fun w h => (List.mem_append.mp h).elim (fun h => (List.mem_append.mp h).elim (fun h => (List.mem_append.mp h).elim (fun h => wsL_law_in0 w h) (fun h => wsL_law_x0 w h)) (fun h => wsL_law_x1 w h)) (fun h => wsL_law_x2 w h)
theorem inlX0 : ∀ w ∈ wsX00, w ∈ wsL_law := fun _ h => List.mem_append_left _ (List.mem_append_left _ (List.mem_append_left _ (List.mem_append_left _ (List.mem_append_left _ (List.mem_append_right _ h)))))
theorem inX0 : ∀ w ∈ wsX00, w ∈ lw_tbl := fun w h => wsL_law_in w (inlX0 w h)
theorem inlX1 : ∀ w ∈ wsX10, w ∈ wsL_law := fun _ h => List.mem_append_left _ (List.mem_append_left _ (List.mem_append_left _ (List.mem_append_left _ (List.mem_append_right _ h))))
theorem inX1 : ∀ w ∈ wsX10, w ∈ lw_tbl := fun w h => wsL_law_in w (inlX1 w h)
theorem inlX2 : ∀ w ∈ wsX20, w ∈ wsL_law := fun _ h => List.mem_append_left _ (List.mem_append_left _ (List.mem_append_left _ (List.mem_append_left _ (List.mem_append_left _ (List.mem_append_left _ (List.mem_append_right _ h))))))
theorem inX2 : ∀ w ∈ wsX20, w ∈ lw_tbl := fun w h => wsL_law_in w (inlX2 w h)
theorem inlX3 : ∀ w ∈ wsX30, w ∈ wsL_law := fun _ h => List.mem_append_left _ (List.mem_append_left _ (List.mem_append_left _ (List.mem_append_left _ (List.mem_append_left _ (List.mem_append_left _ (List.mem_append_left _ (List.mem_append_left _ (List.mem_append_right _ h))))))))
theorem inX3 : ∀ w ∈ wsX30, w ∈ lw_tbl := fun w h => wsL_law_in w (inlX3 w h)
theorem inlX4 : ∀ w ∈ wsX40, w ∈ wsL_law := fun _ h => List.mem_append_left _ (List.mem_append_left _ (List.mem_append_left _ (List.mem_append_left _ (List.mem_append_left _ (List.mem_append_left _ (List.mem_append_left _ (List.mem_append_right _ h)))))))
theorem inX4 : ∀ w ∈ wsX40, w ∈ lw_tbl := fun w h => wsL_law_in w (inlX4 w h)
theorem inJx145de : ∀ w ∈ wsJx145de0, w ∈ lw_tbl := by decide +kernel
theorem inJ9 : ∀ w ∈ wsJ90, w ∈ lw_tbl := by decide +kernel
theorem inJ0 : ∀ w ∈ wsJ00, w ∈ lw_tbl := by decide +kernel
theorem inJ7 : ∀ w ∈ wsJ70, w ∈ lw_tbl := by decide +kernel
abbrev vwCl : List vw_C := [(RX0, TX0, 9), (RX1, TX1, 3), (RX2, TX2, 4), (RX3, TX3, 7), (RX4, TX4, 23)]
end
section
set_option maxRecDepth 20000 in
theorem ggX0_init_J7_fill_53178 : GoodIn wsX0_init wsJ7_fill_53178 := goodIn_r _ [17] (by decide +kernel) (by decide +kernel)
set_option maxRecDepth 20000 in
theorem gX0_init_J7_fill_53178 : GoodIn wsX0_init (va_wsS RX0 37 yJ7_fill_53178 wsJ7_fill_53178) := goodIn_app (goodIn_of _ (by decide +kernel)) ggX0_init_J7_fill_53178
theorem dX0_init_0 : decode cX0_init 0 = .ok (.aload_n 0, 1) := by decide +kernel
theorem dX0_init_1 : decode cX0_init 1 = .ok (.invokespecial 3, 3) := by decide +kernel
theorem dX0_init_4 : decode cX0_init 4 = .ok (.aload_n 0, 1) := by decide +kernel
theorem dX0_init_5 : decode cX0_init 5 = .ok (.bipush 10, 2) := by decide +kernel
theorem dX0_init_7 : decode cX0_init 7 = .ok (.newarray .int, 2) := by decide +kernel
theorem dX0_init_9 : decode cX0_init 9 = .ok (.putfield 9, 3) := by decide +kernel
theorem dX0_init_12 : decode cX0_init 12 = .ok (.aload_n 0, 1) := by decide +kernel
theorem dX0_init_13 : decode cX0_init 13 = .ok (.bipush 10, 2) := by decide +kernel
theorem dX0_init_15 : decode cX0_init 15 = .ok (.newarray .int, 2) := by decide +kernel
theorem dX0_init_17 : decode cX0_init 17 = .ok (.putfield 15, 3) := by decide +kernel
theorem dX0_init_20 : decode cX0_init 20 = .ok (.aload_n 0, 1) := by decide +kernel
theorem dX0_init_21 : decode cX0_init 21 = .ok (.bipush 10, 2) := by decide +kernel
theorem dX0_init_23 : decode cX0_init 23 = .ok (.newarray .boolean, 2) := by decide +kernel
theorem dX0_init_25 : decode cX0_init 25 = .ok (.putfield 18, 3) := by decide +kernel
theorem dX0_init_28 : decode cX0_init 28 = .ok (.aload_n 0, 1) := by decide +kernel
theorem dX0_init_29 : decode cX0_init 29 = .ok (.bipush 10, 2) := by decide +kernel
theorem dX0_init_31 : decode cX0_init 31 = .ok (.bipush 12, 2) := by decide +kernel
theorem dX0_init_33 : decode cX0_init 33 = .ok (.multianewarray 22 2, 4) := by decide +kernel
theorem dX0_init_37 : decode cX0_init 37 = .ok (.putfield 24, 3) := by decide +kernel
theorem dX0_init_40 : decode cX0_init 40 = .ok (.aload_n 0, 1) := by decide +kernel
theorem dX0_init_41 : decode cX0_init 41 = .ok (.bipush 12, 2) := by decide +kernel
theorem dX0_init_43 : decode cX0_init 43 = .ok (.newarray .int, 2) := by decide +kernel
theorem dX0_init_45 : decode cX0_init 45 = .ok (.putfield 27, 3) := by decide +kernel
theorem dX0_init_48 : decode cX0_init 48 = .ok (.aload_n 0, 1) := by decide +kernel
theorem dX0_init_49 : decode cX0_init 49 = .ok (.bipush 12, 2) := by decide +kernel
theorem dX0_init_51 : decode cX0_init 51 = .ok (.newarray .int, 2) := by decide +kernel
theorem dX0_init_53 : decode cX0_init 53 = .ok (.putfield 30, 3) := by decide +kernel
theorem dX0_init_56 : decode cX0_init 56 = .ok (.aload_n 0, 1) := by decide +kernel
theorem dX0_init_57 : decode cX0_init 57 = .ok (.iconst (-1), 1) := by decide +kernel
theorem dX0_init_58 : decode cX0_init 58 = .ok (.putfield 33, 3) := by decide +kernel
theorem dX0_init_61 : decode cX0_init 61 = .ok (.iconst 0, 1) := by decide +kernel
theorem dX0_init_62 : decode cX0_init 62 = .ok (.istore_n 1, 1) := by decide +kernel
theorem dX0_init_63 : decode cX0_init 63 = .ok (.iload_n 1, 1) := by decide +kernel
theorem dX0_init_64 : decode cX0_init 64 = .ok (.bipush 10, 2) := by decide +kernel
theorem dX0_init_66 : decode cX0_init 66 = .ok (.if_icmp .ge 19, 3) := by decide +kernel
theorem dX0_init_69 : decode cX0_init 69 = .ok (.aload_n 0, 1) := by decide +kernel
theorem dX0_init_70 : decode cX0_init 70 = .ok (.getfield 24, 3) := by decide +kernel
theorem dX0_init_73 : decode cX0_init 73 = .ok (.iload_n 1, 1) := by decide +kernel
theorem dX0_init_74 : decode cX0_init 74 = .ok (.aaload, 1) := by decide +kernel
theorem dX0_init_75 : decode cX0_init 75 = .ok (.iconst (-1), 1) := by decide +kernel
theorem dX0_init_76 : decode cX0_init 76 = .ok (.invokestatic 37, 3) := by decide +kernel
theorem dX0_init_79 : decode cX0_init 79 = .ok (.iinc 1 1, 3) := by decide +kernel
theorem dX0_init_82 : decode cX0_init 82 = .ok (.goto (-19), 3) := by decide +kernel
theorem dX0_init_85 : decode cX0_init 85 = .ok (.return_, 1) := by decide +kernel
theorem dX0_size_0 : decode cX0_size 0 = .ok (.aload_n 0, 1) := by decide +kernel
theorem dX0_size_1 : decode cX0_size 1 = .ok (.getfield 43, 3) := by decide +kernel
theorem dX0_size_4 : decode cX0_size 4 = .ok (.ireturn, 1) := by decide +kernel
theorem dX0_isFull_0 : decode cX0_isFull 0 = .ok (.aload_n 0, 1) := by decide +kernel
theorem dX0_isFull_1 : decode cX0_isFull 1 = .ok (.getfield 43, 3) := by decide +kernel
theorem dX0_isFull_4 : decode cX0_isFull 4 = .ok (.bipush 10, 2) := by decide +kernel
theorem dX0_isFull_6 : decode cX0_isFull 6 = .ok (.if_icmp .lt 7, 3) := by decide +kernel
theorem dX0_isFull_9 : decode cX0_isFull 9 = .ok (.iconst 1, 1) := by decide +kernel
theorem dX0_isFull_10 : decode cX0_isFull 10 = .ok (.goto 4, 3) := by decide +kernel
theorem dX0_isFull_13 : decode cX0_isFull 13 = .ok (.iconst 0, 1) := by decide +kernel
theorem dX0_isFull_14 : decode cX0_isFull 14 = .ok (.ireturn, 1) := by decide +kernel
theorem dX0_has_0 : decode cX0_has 0 = .ok (.iload_n 1, 1) := by decide +kernel
theorem dX0_has_1 : decode cX0_has 1 = .ok (.ifCond .lt 15, 3) := by decide +kernel
theorem dX0_has_4 : decode cX0_has 4 = .ok (.iload_n 1, 1) := by decide +kernel
theorem dX0_has_5 : decode cX0_has 5 = .ok (.aload_n 0, 1) := by decide +kernel
theorem dX0_has_6 : decode cX0_has 6 = .ok (.getfield 43, 3) := by decide +kernel
theorem dX0_has_9 : decode cX0_has 9 = .ok (.if_icmp .ge 7, 3) := by decide +kernel
theorem dX0_has_12 : decode cX0_has 12 = .ok (.iconst 1, 1) := by decide +kernel
theorem dX0_has_13 : decode cX0_has 13 = .ok (.goto 4, 3) := by decide +kernel
theorem dX0_has_16 : decode cX0_has 16 = .ok (.iconst 0, 1) := by decide +kernel
theorem dX0_has_17 : decode cX0_has 17 = .ok (.ireturn, 1) := by decide +kernel
theorem dX0_add_0 : decode cX0_add 0 = .ok (.aload_n 0, 1) := by decide +kernel
theorem dX0_add_1 : decode cX0_add 1 = .ok (.getfield 43, 3) := by decide +kernel
theorem dX0_add_4 : decode cX0_add 4 = .ok (.istore 4, 2) := by decide +kernel
theorem dX0_add_6 : decode cX0_add 6 = .ok (.iload 4, 2) := by decide +kernel
theorem dX0_add_8 : decode cX0_add 8 = .ok (.ifCond .lt 10, 3) := by decide +kernel
theorem dX0_add_11 : decode cX0_add 11 = .ok (.iload 4, 2) := by decide +kernel
theorem dX0_add_13 : decode cX0_add 13 = .ok (.bipush 10, 2) := by decide +kernel
theorem dX0_add_15 : decode cX0_add 15 = .ok (.if_icmp .lt 5, 3) := by decide +kernel
theorem dX0_add_18 : decode cX0_add 18 = .ok (.iconst (-1), 1) := by decide +kernel
theorem dX0_add_19 : decode cX0_add 19 = .ok (.ireturn, 1) := by decide +kernel
theorem dX0_add_20 : decode cX0_add 20 = .ok (.aload_n 0, 1) := by decide +kernel
theorem dX0_add_21 : decode cX0_add 21 = .ok (.dup, 1) := by decide +kernel
theorem dX0_add_22 : decode cX0_add 22 = .ok (.getfield 43, 3) := by decide +kernel
theorem dX0_add_25 : decode cX0_add 25 = .ok (.iconst 1, 1) := by decide +kernel
theorem dX0_add_26 : decode cX0_add 26 = .ok (.iadd, 1) := by decide +kernel
theorem dX0_add_27 : decode cX0_add 27 = .ok (.putfield 43, 3) := by decide +kernel
theorem dX0_add_30 : decode cX0_add 30 = .ok (.aload_n 0, 1) := by decide +kernel
theorem dX0_add_31 : decode cX0_add 31 = .ok (.getfield 9, 3) := by decide +kernel
theorem dX0_add_34 : decode cX0_add 34 = .ok (.iload 4, 2) := by decide +kernel
theorem dX0_add_36 : decode cX0_add 36 = .ok (.iload_n 1, 1) := by decide +kernel
theorem dX0_add_37 : decode cX0_add 37 = .ok (.iastore, 1) := by decide +kernel
theorem dX0_add_38 : decode cX0_add 38 = .ok (.aload_n 0, 1) := by decide +kernel
theorem dX0_add_39 : decode cX0_add 39 = .ok (.getfield 15, 3) := by decide +kernel
theorem dX0_add_42 : decode cX0_add 42 = .ok (.iload 4, 2) := by decide +kernel
theorem dX0_add_44 : decode cX0_add 44 = .ok (.iload_n 2, 1) := by decide +kernel
theorem dX0_add_45 : decode cX0_add 45 = .ok (.iastore, 1) := by decide +kernel
theorem dX0_add_46 : decode cX0_add 46 = .ok (.aload_n 0, 1) := by decide +kernel
theorem dX0_add_47 : decode cX0_add 47 = .ok (.getfield 18, 3) := by decide +kernel
theorem dX0_add_50 : decode cX0_add 50 = .ok (.iload 4, 2) := by decide +kernel
theorem dX0_add_52 : decode cX0_add 52 = .ok (.iload_n 3, 1) := by decide +kernel
theorem dX0_add_53 : decode cX0_add 53 = .ok (.bastore, 1) := by decide +kernel
theorem dX0_add_54 : decode cX0_add 54 = .ok (.iload 4, 2) := by decide +kernel
theorem dX0_add_56 : decode cX0_add 56 = .ok (.ireturn, 1) := by decide +kernel
set_option maxRecDepth 20000 in
theorem ggX0_told_X0_has : GoodIn wsX0_told wsX0_has := goodIn_r _ [6, 7, 11, 12, 13, 14, 15, 16, 17, 18, 19] (by decide +kernel) (by decide +kernel)
set_option maxRecDepth 20000 in
theorem gX0_told_X0_has : GoodIn wsX0_told (wsV RX0 46 RX0 yX0_has wsX0_has) := goodIn_app (goodIn_of _ (by decide +kernel)) ggX0_told_X0_has
set_option maxRecDepth 20000 in
theorem ggX0_told_X3_isChannel : GoodIn wsX0_told wsX3_isChannel := goodIn_r _ [10] (by decide +kernel) (by decide +kernel)
set_option maxRecDepth 20000 in
theorem gX0_told_X3_isChannel_n50 : GoodIn wsX0_told (wsX3_isChannel) := ggX0_told_X3_isChannel
theorem dX0_told_0 : decode cX0_told 0 = .ok (.aload_n 0, 1) := by decide +kernel
theorem dX0_told_1 : decode cX0_told 1 = .ok (.iload_n 1, 1) := by decide +kernel
theorem dX0_told_2 : decode cX0_told 2 = .ok (.invokevirtual 46, 3) := by decide +kernel
theorem dX0_told_5 : decode cX0_told 5 = .ok (.ifCond .eq 21, 3) := by decide +kernel
theorem dX0_told_8 : decode cX0_told 8 = .ok (.iload_n 2, 1) := by decide +kernel
theorem dX0_told_9 : decode cX0_told 9 = .ok (.invokestatic 50, 3) := by decide +kernel
theorem dX0_told_12 : decode cX0_told 12 = .ok (.ifCond .eq 14, 3) := by decide +kernel
theorem dX0_told_15 : decode cX0_told 15 = .ok (.aload_n 0, 1) := by decide +kernel
theorem dX0_told_16 : decode cX0_told 16 = .ok (.getfield 24, 3) := by decide +kernel
theorem dX0_told_19 : decode cX0_told 19 = .ok (.iload_n 1, 1) := by decide +kernel
theorem dX0_told_20 : decode cX0_told 20 = .ok (.aaload, 1) := by decide +kernel
theorem dX0_told_21 : decode cX0_told 21 = .ok (.iload_n 2, 1) := by decide +kernel
theorem dX0_told_22 : decode cX0_told 22 = .ok (.iaload, 1) := by decide +kernel
theorem dX0_told_23 : decode cX0_told 23 = .ok (.goto 4, 3) := by decide +kernel
theorem dX0_told_26 : decode cX0_told 26 = .ok (.iconst (-1), 1) := by decide +kernel
theorem dX0_told_27 : decode cX0_told 27 = .ok (.ireturn, 1) := by decide +kernel
set_option maxRecDepth 20000 in
theorem ggX0_toldOrZero_X0_told : GoodIn wsX0_toldOrZero wsX0_told := goodIn_r _ [9, 10, 11, 12, 13, 8, 14, 15, 16, 17, 18, 19, 20, 21, 22, 23, 24, 25, 26, 27] (by decide +kernel) (by decide +kernel)
set_option maxRecDepth 20000 in
theorem gX0_toldOrZero_X0_told : GoodIn wsX0_toldOrZero (wsV RX0 53 RX0 yX0_told wsX0_told) := goodIn_app (goodIn_of _ (by decide +kernel)) ggX0_toldOrZero_X0_told
theorem dX0_toldOrZero_0 : decode cX0_toldOrZero 0 = .ok (.iconst 0, 1) := by decide +kernel
theorem dX0_toldOrZero_1 : decode cX0_toldOrZero 1 = .ok (.aload_n 0, 1) := by decide +kernel
theorem dX0_toldOrZero_2 : decode cX0_toldOrZero 2 = .ok (.iload_n 1, 1) := by decide +kernel
theorem dX0_toldOrZero_3 : decode cX0_toldOrZero 3 = .ok (.iload_n 2, 1) := by decide +kernel
theorem dX0_toldOrZero_4 : decode cX0_toldOrZero 4 = .ok (.invokevirtual 53, 3) := by decide +kernel
theorem dX0_toldOrZero_7 : decode cX0_toldOrZero 7 = .ok (.invokestatic 57, 3) := by decide +kernel
theorem dX0_toldOrZero_10 : decode cX0_toldOrZero 10 = .ok (.ireturn, 1) := by decide +kernel
set_option maxRecDepth 20000 in
theorem ggX0_tell_X0_has : GoodIn wsX0_tell wsX0_has := goodIn_r _ [6, 7, 11, 12, 13, 14, 15, 16, 17, 18, 19] (by decide +kernel) (by decide +kernel)
set_option maxRecDepth 20000 in
theorem gX0_tell_X0_has : GoodIn wsX0_tell (wsV RX0 46 RX0 yX0_has wsX0_has) := goodIn_app (goodIn_of _ (by decide +kernel)) ggX0_tell_X0_has
set_option maxRecDepth 20000 in
theorem ggX0_tell_X3_isChannel : GoodIn wsX0_tell wsX3_isChannel := goodIn_r _ [10] (by decide +kernel) (by decide +kernel)
set_option maxRecDepth 20000 in
theorem gX0_tell_X3_isChannel_n50 : GoodIn wsX0_tell (wsX3_isChannel) := ggX0_tell_X3_isChannel
theorem dX0_tell_0 : decode cX0_tell 0 = .ok (.aload_n 0, 1) := by decide +kernel
theorem dX0_tell_1 : decode cX0_tell 1 = .ok (.iload_n 1, 1) := by decide +kernel
theorem dX0_tell_2 : decode cX0_tell 2 = .ok (.invokevirtual 46, 3) := by decide +kernel
theorem dX0_tell_5 : decode cX0_tell 5 = .ok (.ifCond .eq 19, 3) := by decide +kernel
theorem dX0_tell_8 : decode cX0_tell 8 = .ok (.iload_n 2, 1) := by decide +kernel
theorem dX0_tell_9 : decode cX0_tell 9 = .ok (.invokestatic 50, 3) := by decide +kernel
theorem dX0_tell_12 : decode cX0_tell 12 = .ok (.ifCond .eq 12, 3) := by decide +kernel
theorem dX0_tell_15 : decode cX0_tell 15 = .ok (.aload_n 0, 1) := by decide +kernel
theorem dX0_tell_16 : decode cX0_tell 16 = .ok (.getfield 24, 3) := by decide +kernel
theorem dX0_tell_19 : decode cX0_tell 19 = .ok (.iload_n 1, 1) := by decide +kernel
theorem dX0_tell_20 : decode cX0_tell 20 = .ok (.aaload, 1) := by decide +kernel
theorem dX0_tell_21 : decode cX0_tell 21 = .ok (.iload_n 2, 1) := by decide +kernel
theorem dX0_tell_22 : decode cX0_tell 22 = .ok (.iload_n 3, 1) := by decide +kernel
theorem dX0_tell_23 : decode cX0_tell 23 = .ok (.iastore, 1) := by decide +kernel
theorem dX0_tell_24 : decode cX0_tell 24 = .ok (.return_, 1) := by decide +kernel
set_option maxRecDepth 20000 in
theorem ggX0_countTold_X0_told : GoodIn wsX0_countTold wsX0_told := goodIn_r _ [5, 6, 7, 8, 9, 4, 10, 11, 12, 13, 14, 15, 16, 17, 18, 19, 20, 21, 22, 23] (by decide +kernel) (by decide +kernel)
set_option maxRecDepth 20000 in
theorem gX0_countTold_X0_told : GoodIn wsX0_countTold (wsV RX0 53 RX0 yX0_told wsX0_told) := goodIn_app (goodIn_of _ (by decide +kernel)) ggX0_countTold_X0_told
theorem dX0_countTold_0 : decode cX0_countTold 0 = .ok (.iconst 0, 1) := by decide +kernel
theorem dX0_countTold_1 : decode cX0_countTold 1 = .ok (.istore_n 2, 1) := by decide +kernel
theorem dX0_countTold_2 : decode cX0_countTold 2 = .ok (.iconst 0, 1) := by decide +kernel
theorem dX0_countTold_3 : decode cX0_countTold 3 = .ok (.istore_n 3, 1) := by decide +kernel
theorem dX0_countTold_4 : decode cX0_countTold 4 = .ok (.iload_n 3, 1) := by decide +kernel
theorem dX0_countTold_5 : decode cX0_countTold 5 = .ok (.bipush 12, 2) := by decide +kernel
theorem dX0_countTold_7 : decode cX0_countTold 7 = .ok (.if_icmp .ge 22, 3) := by decide +kernel
theorem dX0_countTold_10 : decode cX0_countTold 10 = .ok (.aload_n 0, 1) := by decide +kernel
theorem dX0_countTold_11 : decode cX0_countTold 11 = .ok (.iload_n 1, 1) := by decide +kernel
theorem dX0_countTold_12 : decode cX0_countTold 12 = .ok (.iload_n 3, 1) := by decide +kernel
theorem dX0_countTold_13 : decode cX0_countTold 13 = .ok (.invokevirtual 53, 3) := by decide +kernel
theorem dX0_countTold_16 : decode cX0_countTold 16 = .ok (.iconst (-1), 1) := by decide +kernel
theorem dX0_countTold_17 : decode cX0_countTold 17 = .ok (.if_icmp .eq 6, 3) := by decide +kernel
theorem dX0_countTold_20 : decode cX0_countTold 20 = .ok (.iinc 2 1, 3) := by decide +kernel
theorem dX0_countTold_23 : decode cX0_countTold 23 = .ok (.iinc 3 1, 3) := by decide +kernel
theorem dX0_countTold_26 : decode cX0_countTold 26 = .ok (.goto (-22), 3) := by decide +kernel
theorem dX0_countTold_29 : decode cX0_countTold 29 = .ok (.iload_n 2, 1) := by decide +kernel
theorem dX0_countTold_30 : decode cX0_countTold 30 = .ok (.ireturn, 1) := by decide +kernel
theorem dX0_begunLast_0 : decode cX0_begunLast 0 = .ok (.aload_n 0, 1) := by decide +kernel
theorem dX0_begunLast_1 : decode cX0_begunLast 1 = .ok (.getfield 33, 3) := by decide +kernel
theorem dX0_begunLast_4 : decode cX0_begunLast 4 = .ok (.ireturn, 1) := by decide +kernel
set_option maxRecDepth 20000 in
theorem ggX0_begin_X0_levelNow : GoodIn wsX0_begin wsX0_levelNow := goodIn_r _ [9, 3, 10, 4, 11, 1, 2, 12, 13, 14, 8, 15, 16, 17, 18, 19, 25, 26, 27, 28, 29, 30, 31, 32, 33] (by decide +kernel) (by decide +kernel)
set_option maxRecDepth 20000 in
theorem gX0_begin_X0_levelNow : GoodIn wsX0_begin (wsV RX0 62 RX0 yX0_levelNow wsX0_levelNow) := goodIn_app (goodIn_of _ (by decide +kernel)) ggX0_begin_X0_levelNow
set_option maxRecDepth 20000 in
theorem ggX0_begin_X0_told : GoodIn wsX0_begin wsX0_told := goodIn_r _ [23, 24, 12, 13, 14, 8, 15, 16, 17, 18, 19, 25, 26, 27, 28, 29, 30, 31, 32, 33] (by decide +kernel) (by decide +kernel)
set_option maxRecDepth 20000 in
theorem gX0_begin_X0_told : GoodIn wsX0_begin (wsV RX0 53 RX0 yX0_told wsX0_told) := goodIn_app (goodIn_of _ (by decide +kernel)) ggX0_begin_X0_told
theorem dX0_begin_0 : decode cX0_begin 0 = .ok (.iconst 0, 1) := by decide +kernel
theorem dX0_begin_1 : decode cX0_begin 1 = .ok (.istore_n 2, 1) := by decide +kernel
theorem dX0_begin_2 : decode cX0_begin 2 = .ok (.iload_n 2, 1) := by decide +kernel
theorem dX0_begin_3 : decode cX0_begin 3 = .ok (.bipush 12, 2) := by decide +kernel
theorem dX0_begin_5 : decode cX0_begin 5 = .ok (.if_icmp .ge 48, 3) := by decide +kernel
theorem dX0_begin_8 : decode cX0_begin 8 = .ok (.aload_n 0, 1) := by decide +kernel
theorem dX0_begin_9 : decode cX0_begin 9 = .ok (.iload_n 2, 1) := by decide +kernel
theorem dX0_begin_10 : decode cX0_begin 10 = .ok (.invokevirtual 62, 3) := by decide +kernel
theorem dX0_begin_13 : decode cX0_begin 13 = .ok (.istore_n 3, 1) := by decide +kernel
theorem dX0_begin_14 : decode cX0_begin 14 = .ok (.aload_n 0, 1) := by decide +kernel
theorem dX0_begin_15 : decode cX0_begin 15 = .ok (.iload_n 1, 1) := by decide +kernel
theorem dX0_begin_16 : decode cX0_begin 16 = .ok (.iload_n 2, 1) := by decide +kernel
theorem dX0_begin_17 : decode cX0_begin 17 = .ok (.invokevirtual 53, 3) := by decide +kernel
theorem dX0_begin_20 : decode cX0_begin 20 = .ok (.istore 4, 2) := by decide +kernel
theorem dX0_begin_22 : decode cX0_begin 22 = .ok (.aload_n 0, 1) := by decide +kernel
theorem dX0_begin_23 : decode cX0_begin 23 = .ok (.getfield 27, 3) := by decide +kernel
theorem dX0_begin_26 : decode cX0_begin 26 = .ok (.iload_n 2, 1) := by decide +kernel
theorem dX0_begin_27 : decode cX0_begin 27 = .ok (.iload_n 3, 1) := by decide +kernel
theorem dX0_begin_28 : decode cX0_begin 28 = .ok (.iastore, 1) := by decide +kernel
theorem dX0_begin_29 : decode cX0_begin 29 = .ok (.aload_n 0, 1) := by decide +kernel
theorem dX0_begin_30 : decode cX0_begin 30 = .ok (.getfield 30, 3) := by decide +kernel
theorem dX0_begin_33 : decode cX0_begin 33 = .ok (.iload_n 2, 1) := by decide +kernel
theorem dX0_begin_34 : decode cX0_begin 34 = .ok (.iload 4, 2) := by decide +kernel
theorem dX0_begin_36 : decode cX0_begin 36 = .ok (.iconst (-1), 1) := by decide +kernel
theorem dX0_begin_37 : decode cX0_begin 37 = .ok (.if_icmp .ne 7, 3) := by decide +kernel
theorem dX0_begin_40 : decode cX0_begin 40 = .ok (.iload_n 3, 1) := by decide +kernel
theorem dX0_begin_41 : decode cX0_begin 41 = .ok (.goto 5, 3) := by decide +kernel
theorem dX0_begin_44 : decode cX0_begin 44 = .ok (.iload 4, 2) := by decide +kernel
theorem dX0_begin_46 : decode cX0_begin 46 = .ok (.iastore, 1) := by decide +kernel
theorem dX0_begin_47 : decode cX0_begin 47 = .ok (.iinc 2 1, 3) := by decide +kernel
theorem dX0_begin_50 : decode cX0_begin 50 = .ok (.goto (-48), 3) := by decide +kernel
theorem dX0_begin_53 : decode cX0_begin 53 = .ok (.aload_n 0, 1) := by decide +kernel
theorem dX0_begin_54 : decode cX0_begin 54 = .ok (.iload_n 1, 1) := by decide +kernel
theorem dX0_begin_55 : decode cX0_begin 55 = .ok (.putfield 33, 3) := by decide +kernel
theorem dX0_begin_58 : decode cX0_begin 58 = .ok (.aload_n 0, 1) := by decide +kernel
theorem dX0_begin_59 : decode cX0_begin 59 = .ok (.iconst 0, 1) := by decide +kernel
theorem dX0_begin_60 : decode cX0_begin 60 = .ok (.putfield 66, 3) := by decide +kernel
theorem dX0_begin_63 : decode cX0_begin 63 = .ok (.return_, 1) := by decide +kernel
set_option maxRecDepth 20000 in
theorem ggX0_levelNow_X0_has : GoodIn wsX0_levelNow wsX0_has := goodIn_r _ [11, 12, 16, 17, 18, 19, 20, 21, 22, 23, 24] (by decide +kernel) (by decide +kernel)
set_option maxRecDepth 20000 in
theorem gX0_levelNow_X0_has : GoodIn wsX0_levelNow (wsV RX0 46 RX0 yX0_has wsX0_has) := goodIn_app (goodIn_of _ (by decide +kernel)) ggX0_levelNow_X0_has
set_option maxRecDepth 20000 in
theorem ggX0_levelNow_X3_isChannel : GoodIn wsX0_levelNow wsX3_isChannel := goodIn_r _ [15] (by decide +kernel) (by decide +kernel)
set_option maxRecDepth 20000 in
theorem gX0_levelNow_X3_isChannel_n50 : GoodIn wsX0_levelNow (wsX3_isChannel) := ggX0_levelNow_X3_isChannel
theorem dX0_levelNow_0 : decode cX0_levelNow 0 = .ok (.aload_n 0, 1) := by decide +kernel
theorem dX0_levelNow_1 : decode cX0_levelNow 1 = .ok (.aload_n 0, 1) := by decide +kernel
theorem dX0_levelNow_2 : decode cX0_levelNow 2 = .ok (.getfield 33, 3) := by decide +kernel
theorem dX0_levelNow_5 : decode cX0_levelNow 5 = .ok (.invokevirtual 46, 3) := by decide +kernel
theorem dX0_levelNow_8 : decode cX0_levelNow 8 = .ok (.ifCond .eq 10, 3) := by decide +kernel
theorem dX0_levelNow_11 : decode cX0_levelNow 11 = .ok (.iload_n 1, 1) := by decide +kernel
theorem dX0_levelNow_12 : decode cX0_levelNow 12 = .ok (.invokestatic 50, 3) := by decide +kernel
theorem dX0_levelNow_15 : decode cX0_levelNow 15 = .ok (.ifCond .ne 5, 3) := by decide +kernel
theorem dX0_levelNow_18 : decode cX0_levelNow 18 = .ok (.iconst 0, 1) := by decide +kernel
theorem dX0_levelNow_19 : decode cX0_levelNow 19 = .ok (.ireturn, 1) := by decide +kernel
theorem dX0_levelNow_20 : decode cX0_levelNow 20 = .ok (.aload_n 0, 1) := by decide +kernel
theorem dX0_levelNow_21 : decode cX0_levelNow 21 = .ok (.getfield 15, 3) := by decide +kernel
theorem dX0_levelNow_24 : decode cX0_levelNow 24 = .ok (.aload_n 0, 1) := by decide +kernel
theorem dX0_levelNow_25 : decode cX0_levelNow 25 = .ok (.getfield 33, 3) := by decide +kernel
theorem dX0_levelNow_28 : decode cX0_levelNow 28 = .ok (.iaload, 1) := by decide +kernel
theorem dX0_levelNow_29 : decode cX0_levelNow 29 = .ok (.istore_n 2, 1) := by decide +kernel
theorem dX0_levelNow_30 : decode cX0_levelNow 30 = .ok (.aload_n 0, 1) := by decide +kernel
theorem dX0_levelNow_31 : decode cX0_levelNow 31 = .ok (.getfield 66, 3) := by decide +kernel
theorem dX0_levelNow_34 : decode cX0_levelNow 34 = .ok (.aload_n 0, 1) := by decide +kernel
theorem dX0_levelNow_35 : decode cX0_levelNow 35 = .ok (.getfield 9, 3) := by decide +kernel
theorem dX0_levelNow_38 : decode cX0_levelNow 38 = .ok (.aload_n 0, 1) := by decide +kernel
theorem dX0_levelNow_39 : decode cX0_levelNow 39 = .ok (.getfield 33, 3) := by decide +kernel
theorem dX0_levelNow_42 : decode cX0_levelNow 42 = .ok (.iaload, 1) := by decide +kernel
theorem dX0_levelNow_43 : decode cX0_levelNow 43 = .ok (.isub, 1) := by decide +kernel
theorem dX0_levelNow_44 : decode cX0_levelNow 44 = .ok (.istore_n 3, 1) := by decide +kernel
theorem dX0_levelNow_45 : decode cX0_levelNow 45 = .ok (.iload_n 3, 1) := by decide +kernel
theorem dX0_levelNow_46 : decode cX0_levelNow 46 = .ok (.ifCond .ge 10, 3) := by decide +kernel
theorem dX0_levelNow_49 : decode cX0_levelNow 49 = .ok (.aload_n 0, 1) := by decide +kernel
theorem dX0_levelNow_50 : decode cX0_levelNow 50 = .ok (.getfield 27, 3) := by decide +kernel
theorem dX0_levelNow_53 : decode cX0_levelNow 53 = .ok (.iload_n 1, 1) := by decide +kernel
theorem dX0_levelNow_54 : decode cX0_levelNow 54 = .ok (.iaload, 1) := by decide +kernel
theorem dX0_levelNow_55 : decode cX0_levelNow 55 = .ok (.ireturn, 1) := by decide +kernel
theorem dX0_levelNow_56 : decode cX0_levelNow 56 = .ok (.iload_n 2, 1) := by decide +kernel
theorem dX0_levelNow_57 : decode cX0_levelNow 57 = .ok (.ifCond .le 8, 3) := by decide +kernel
theorem dX0_levelNow_60 : decode cX0_levelNow 60 = .ok (.iload_n 3, 1) := by decide +kernel
theorem dX0_levelNow_61 : decode cX0_levelNow 61 = .ok (.iload_n 2, 1) := by decide +kernel
theorem dX0_levelNow_62 : decode cX0_levelNow 62 = .ok (.if_icmp .lt 10, 3) := by decide +kernel
theorem dX0_levelNow_65 : decode cX0_levelNow 65 = .ok (.aload_n 0, 1) := by decide +kernel
theorem dX0_levelNow_66 : decode cX0_levelNow 66 = .ok (.getfield 30, 3) := by decide +kernel
theorem dX0_levelNow_69 : decode cX0_levelNow 69 = .ok (.iload_n 1, 1) := by decide +kernel
theorem dX0_levelNow_70 : decode cX0_levelNow 70 = .ok (.iaload, 1) := by decide +kernel
theorem dX0_levelNow_71 : decode cX0_levelNow 71 = .ok (.ireturn, 1) := by decide +kernel
theorem dX0_levelNow_72 : decode cX0_levelNow 72 = .ok (.aload_n 0, 1) := by decide +kernel
theorem dX0_levelNow_73 : decode cX0_levelNow 73 = .ok (.getfield 27, 3) := by decide +kernel
theorem dX0_levelNow_76 : decode cX0_levelNow 76 = .ok (.iload_n 1, 1) := by decide +kernel
theorem dX0_levelNow_77 : decode cX0_levelNow 77 = .ok (.iaload, 1) := by decide +kernel
theorem dX0_levelNow_78 : decode cX0_levelNow 78 = .ok (.aload_n 0, 1) := by decide +kernel
theorem dX0_levelNow_79 : decode cX0_levelNow 79 = .ok (.getfield 30, 3) := by decide +kernel
theorem dX0_levelNow_82 : decode cX0_levelNow 82 = .ok (.iload_n 1, 1) := by decide +kernel
theorem dX0_levelNow_83 : decode cX0_levelNow 83 = .ok (.iaload, 1) := by decide +kernel
theorem dX0_levelNow_84 : decode cX0_levelNow 84 = .ok (.aload_n 0, 1) := by decide +kernel
theorem dX0_levelNow_85 : decode cX0_levelNow 85 = .ok (.getfield 27, 3) := by decide +kernel
theorem dX0_levelNow_88 : decode cX0_levelNow 88 = .ok (.iload_n 1, 1) := by decide +kernel
theorem dX0_levelNow_89 : decode cX0_levelNow 89 = .ok (.iaload, 1) := by decide +kernel
theorem dX0_levelNow_90 : decode cX0_levelNow 90 = .ok (.isub, 1) := by decide +kernel
theorem dX0_levelNow_91 : decode cX0_levelNow 91 = .ok (.iload_n 3, 1) := by decide +kernel
theorem dX0_levelNow_92 : decode cX0_levelNow 92 = .ok (.imul, 1) := by decide +kernel
theorem dX0_levelNow_93 : decode cX0_levelNow 93 = .ok (.iload_n 2, 1) := by decide +kernel
theorem dX0_levelNow_94 : decode cX0_levelNow 94 = .ok (.idiv, 1) := by decide +kernel
theorem dX0_levelNow_95 : decode cX0_levelNow 95 = .ok (.iadd, 1) := by decide +kernel
theorem dX0_levelNow_96 : decode cX0_levelNow 96 = .ok (.ireturn, 1) := by decide +kernel
set_option maxRecDepth 20000 in
theorem ggX0_isOver_X0_has : GoodIn wsX0_isOver wsX0_has := goodIn_r _ [9, 10, 11, 12, 13, 14, 15, 16, 17, 18, 19] (by decide +kernel) (by decide +kernel)
set_option maxRecDepth 20000 in
theorem gX0_isOver_X0_has : GoodIn wsX0_isOver (wsV RX0 46 RX0 yX0_has wsX0_has) := goodIn_app (goodIn_of _ (by decide +kernel)) ggX0_isOver_X0_has
theorem dX0_isOver_0 : decode cX0_isOver 0 = .ok (.aload_n 0, 1) := by decide +kernel
theorem dX0_isOver_1 : decode cX0_isOver 1 = .ok (.aload_n 0, 1) := by decide +kernel
theorem dX0_isOver_2 : decode cX0_isOver 2 = .ok (.getfield 33, 3) := by decide +kernel
theorem dX0_isOver_5 : decode cX0_isOver 5 = .ok (.invokevirtual 46, 3) := by decide +kernel
theorem dX0_isOver_8 : decode cX0_isOver 8 = .ok (.ifCond .eq 29, 3) := by decide +kernel
theorem dX0_isOver_11 : decode cX0_isOver 11 = .ok (.aload_n 0, 1) := by decide +kernel
theorem dX0_isOver_12 : decode cX0_isOver 12 = .ok (.getfield 66, 3) := by decide +kernel
theorem dX0_isOver_15 : decode cX0_isOver 15 = .ok (.aload_n 0, 1) := by decide +kernel
theorem dX0_isOver_16 : decode cX0_isOver 16 = .ok (.getfield 9, 3) := by decide +kernel
theorem dX0_isOver_19 : decode cX0_isOver 19 = .ok (.aload_n 0, 1) := by decide +kernel
theorem dX0_isOver_20 : decode cX0_isOver 20 = .ok (.getfield 33, 3) := by decide +kernel
theorem dX0_isOver_23 : decode cX0_isOver 23 = .ok (.iaload, 1) := by decide +kernel
theorem dX0_isOver_24 : decode cX0_isOver 24 = .ok (.aload_n 0, 1) := by decide +kernel
theorem dX0_isOver_25 : decode cX0_isOver 25 = .ok (.getfield 15, 3) := by decide +kernel
theorem dX0_isOver_28 : decode cX0_isOver 28 = .ok (.aload_n 0, 1) := by decide +kernel
theorem dX0_isOver_29 : decode cX0_isOver 29 = .ok (.getfield 33, 3) := by decide +kernel
theorem dX0_isOver_32 : decode cX0_isOver 32 = .ok (.iaload, 1) := by decide +kernel
theorem dX0_isOver_33 : decode cX0_isOver 33 = .ok (.iadd, 1) := by decide +kernel
theorem dX0_isOver_34 : decode cX0_isOver 34 = .ok (.if_icmp .lt 7, 3) := by decide +kernel
theorem dX0_isOver_37 : decode cX0_isOver 37 = .ok (.iconst 1, 1) := by decide +kernel
theorem dX0_isOver_38 : decode cX0_isOver 38 = .ok (.goto 4, 3) := by decide +kernel
theorem dX0_isOver_41 : decode cX0_isOver 41 = .ok (.iconst 0, 1) := by decide +kernel
theorem dX0_isOver_42 : decode cX0_isOver 42 = .ok (.ireturn, 1) := by decide +kernel
set_option maxRecDepth 20000 in
theorem ggX0_endsInNextTenth_X0_isOver : GoodIn wsX0_endsInNextTenth wsX0_isOver := goodIn_r _ [6, 7, 1, 8, 9, 10, 11, 12, 5, 13, 14, 15, 16, 17, 18, 19, 20, 21, 22, 23] (by decide +kernel) (by decide +kernel)
set_option maxRecDepth 20000 in
theorem gX0_endsInNextTenth_X0_isOver : GoodIn wsX0_endsInNextTenth (wsV RX0 69 RX0 yX0_isOver wsX0_isOver) := goodIn_app (goodIn_of _ (by decide +kernel)) ggX0_endsInNextTenth_X0_isOver
theorem dX0_endsInNextTenth_0 : decode cX0_endsInNextTenth 0 = .ok (.aload_n 0, 1) := by decide +kernel
theorem dX0_endsInNextTenth_1 : decode cX0_endsInNextTenth 1 = .ok (.invokevirtual 69, 3) := by decide +kernel
theorem dX0_endsInNextTenth_4 : decode cX0_endsInNextTenth 4 = .ok (.ifCond .eq 5, 3) := by decide +kernel
theorem dX0_endsInNextTenth_7 : decode cX0_endsInNextTenth 7 = .ok (.iconst 0, 1) := by decide +kernel
theorem dX0_endsInNextTenth_8 : decode cX0_endsInNextTenth 8 = .ok (.ireturn, 1) := by decide +kernel
theorem dX0_endsInNextTenth_9 : decode cX0_endsInNextTenth 9 = .ok (.aload_n 0, 1) := by decide +kernel
theorem dX0_endsInNextTenth_10 : decode cX0_endsInNextTenth 10 = .ok (.dup, 1) := by decide +kernel
theorem dX0_endsInNextTenth_11 : decode cX0_endsInNextTenth 11 = .ok (.getfield 66, 3) := by decide +kernel
theorem dX0_endsInNextTenth_14 : decode cX0_endsInNextTenth 14 = .ok (.iconst 1, 1) := by decide +kernel
theorem dX0_endsInNextTenth_15 : decode cX0_endsInNextTenth 15 = .ok (.iadd, 1) := by decide +kernel
theorem dX0_endsInNextTenth_16 : decode cX0_endsInNextTenth 16 = .ok (.putfield 66, 3) := by decide +kernel
theorem dX0_endsInNextTenth_19 : decode cX0_endsInNextTenth 19 = .ok (.aload_n 0, 1) := by decide +kernel
theorem dX0_endsInNextTenth_20 : decode cX0_endsInNextTenth 20 = .ok (.invokevirtual 69, 3) := by decide +kernel
theorem dX0_endsInNextTenth_23 : decode cX0_endsInNextTenth 23 = .ok (.ireturn, 1) := by decide +kernel
set_option maxRecDepth 20000 in
theorem ggX0_follower_X0_has : GoodIn wsX0_follower wsX0_has := goodIn_r _ [7, 8, 9, 10, 11, 12, 13, 14, 15, 16, 17] (by decide +kernel) (by decide +kernel)
set_option maxRecDepth 20000 in
theorem gX0_follower_X0_has : GoodIn wsX0_follower (wsV RX0 46 RX0 yX0_has wsX0_has) := goodIn_app (goodIn_of _ (by decide +kernel)) ggX0_follower_X0_has
theorem dX0_follower_0 : decode cX0_follower 0 = .ok (.aload_n 0, 1) := by decide +kernel
theorem dX0_follower_1 : decode cX0_follower 1 = .ok (.getfield 33, 3) := by decide +kernel
theorem dX0_follower_4 : decode cX0_follower 4 = .ok (.iconst 1, 1) := by decide +kernel
theorem dX0_follower_5 : decode cX0_follower 5 = .ok (.iadd, 1) := by decide +kernel
theorem dX0_follower_6 : decode cX0_follower 6 = .ok (.istore_n 1, 1) := by decide +kernel
theorem dX0_follower_7 : decode cX0_follower 7 = .ok (.aload_n 0, 1) := by decide +kernel
theorem dX0_follower_8 : decode cX0_follower 8 = .ok (.aload_n 0, 1) := by decide +kernel
theorem dX0_follower_9 : decode cX0_follower 9 = .ok (.getfield 33, 3) := by decide +kernel
theorem dX0_follower_12 : decode cX0_follower 12 = .ok (.invokevirtual 46, 3) := by decide +kernel
theorem dX0_follower_15 : decode cX0_follower 15 = .ok (.ifCond .eq 24, 3) := by decide +kernel
theorem dX0_follower_18 : decode cX0_follower 18 = .ok (.aload_n 0, 1) := by decide +kernel
theorem dX0_follower_19 : decode cX0_follower 19 = .ok (.iload_n 1, 1) := by decide +kernel
theorem dX0_follower_20 : decode cX0_follower 20 = .ok (.invokevirtual 46, 3) := by decide +kernel
theorem dX0_follower_23 : decode cX0_follower 23 = .ok (.ifCond .eq 16, 3) := by decide +kernel
theorem dX0_follower_26 : decode cX0_follower 26 = .ok (.aload_n 0, 1) := by decide +kernel
theorem dX0_follower_27 : decode cX0_follower 27 = .ok (.getfield 18, 3) := by decide +kernel
theorem dX0_follower_30 : decode cX0_follower 30 = .ok (.iload_n 1, 1) := by decide +kernel
theorem dX0_follower_31 : decode cX0_follower 31 = .ok (.baload, 1) := by decide +kernel
theorem dX0_follower_32 : decode cX0_follower 32 = .ok (.ifCond .eq 7, 3) := by decide +kernel
theorem dX0_follower_35 : decode cX0_follower 35 = .ok (.iload_n 1, 1) := by decide +kernel
theorem dX0_follower_36 : decode cX0_follower 36 = .ok (.goto 4, 3) := by decide +kernel
theorem dX0_follower_39 : decode cX0_follower 39 = .ok (.iconst (-1), 1) := by decide +kernel
theorem dX0_follower_40 : decode cX0_follower 40 = .ok (.ireturn, 1) := by decide +kernel
theorem dX1_init_0 : decode cX1_init 0 = .ok (.aload_n 0, 1) := by decide +kernel
theorem dX1_init_1 : decode cX1_init 1 = .ok (.invokespecial 3, 3) := by decide +kernel
theorem dX1_init_4 : decode cX1_init 4 = .ok (.aload_n 0, 1) := by decide +kernel
theorem dX1_init_5 : decode cX1_init 5 = .ok (.bipush 20, 2) := by decide +kernel
theorem dX1_init_7 : decode cX1_init 7 = .ok (.iconst 5, 1) := by decide +kernel
theorem dX1_init_8 : decode cX1_init 8 = .ok (.multianewarray 11 2, 4) := by decide +kernel
theorem dX1_init_12 : decode cX1_init 12 = .ok (.putfield 13, 3) := by decide +kernel
theorem dX1_init_15 : decode cX1_init 15 = .ok (.return_, 1) := by decide +kernel
theorem dX1_isEmpty_0 : decode cX1_isEmpty 0 = .ok (.aload_n 0, 1) := by decide +kernel
theorem dX1_isEmpty_1 : decode cX1_isEmpty 1 = .ok (.getfield 16, 3) := by decide +kernel
theorem dX1_isEmpty_4 : decode cX1_isEmpty 4 = .ok (.ifCond .gt 7, 3) := by decide +kernel
theorem dX1_isEmpty_7 : decode cX1_isEmpty 7 = .ok (.iconst 1, 1) := by decide +kernel
theorem dX1_isEmpty_8 : decode cX1_isEmpty 8 = .ok (.goto 4, 3) := by decide +kernel
theorem dX1_isEmpty_11 : decode cX1_isEmpty 11 = .ok (.iconst 0, 1) := by decide +kernel
theorem dX1_isEmpty_12 : decode cX1_isEmpty 12 = .ok (.ireturn, 1) := by decide +kernel
theorem dX1_size_0 : decode cX1_size 0 = .ok (.aload_n 0, 1) := by decide +kernel
theorem dX1_size_1 : decode cX1_size 1 = .ok (.getfield 16, 3) := by decide +kernel
theorem dX1_size_4 : decode cX1_size 4 = .ok (.ireturn, 1) := by decide +kernel
set_option maxRecDepth 20000 in
theorem ggX1_note_X1_put : GoodIn wsX1_note wsX1_put := goodIn_r _ [11, 1, 12, 13, 14, 10, 15, 16, 17, 18] (by decide +kernel) (by decide +kernel)
set_option maxRecDepth 20000 in
theorem gX1_note_X1_put : GoodIn wsX1_note (wsV RX1 20 RX1 yX1_put wsX1_put) := goodIn_app (goodIn_of _ (by decide +kernel)) ggX1_note_X1_put
theorem dX1_note_0 : decode cX1_note 0 = .ok (.aload_n 0, 1) := by decide +kernel
theorem dX1_note_1 : decode cX1_note 1 = .ok (.iconst 0, 1) := by decide +kernel
theorem dX1_note_2 : decode cX1_note 2 = .ok (.iload_n 1, 1) := by decide +kernel
theorem dX1_note_3 : decode cX1_note 3 = .ok (.invokevirtual 20, 3) := by decide +kernel
theorem dX1_note_6 : decode cX1_note 6 = .ok (.aload_n 0, 1) := by decide +kernel
theorem dX1_note_7 : decode cX1_note 7 = .ok (.iconst 1, 1) := by decide +kernel
theorem dX1_note_8 : decode cX1_note 8 = .ok (.iload_n 2, 1) := by decide +kernel
theorem dX1_note_9 : decode cX1_note 9 = .ok (.invokevirtual 20, 3) := by decide +kernel
theorem dX1_note_12 : decode cX1_note 12 = .ok (.aload_n 0, 1) := by decide +kernel
theorem dX1_note_13 : decode cX1_note 13 = .ok (.iconst 2, 1) := by decide +kernel
theorem dX1_note_14 : decode cX1_note 14 = .ok (.iload_n 3, 1) := by decide +kernel
theorem dX1_note_15 : decode cX1_note 15 = .ok (.invokevirtual 20, 3) := by decide +kernel
theorem dX1_note_18 : decode cX1_note 18 = .ok (.aload_n 0, 1) := by decide +kernel
theorem dX1_note_19 : decode cX1_note 19 = .ok (.iconst 3, 1) := by decide +kernel
theorem dX1_note_20 : decode cX1_note 20 = .ok (.iload 4, 2) := by decide +kernel
theorem dX1_note_22 : decode cX1_note 22 = .ok (.invokevirtual 20, 3) := by decide +kernel
theorem dX1_note_25 : decode cX1_note 25 = .ok (.aload_n 0, 1) := by decide +kernel
theorem dX1_note_26 : decode cX1_note 26 = .ok (.iconst 4, 1) := by decide +kernel
theorem dX1_note_27 : decode cX1_note 27 = .ok (.iload 5, 2) := by decide +kernel
theorem dX1_note_29 : decode cX1_note 29 = .ok (.invokevirtual 20, 3) := by decide +kernel
theorem dX1_note_32 : decode cX1_note 32 = .ok (.aload_n 0, 1) := by decide +kernel
theorem dX1_note_33 : decode cX1_note 33 = .ok (.aload_n 0, 1) := by decide +kernel
theorem dX1_note_34 : decode cX1_note 34 = .ok (.getfield 24, 3) := by decide +kernel
theorem dX1_note_37 : decode cX1_note 37 = .ok (.iconst 1, 1) := by decide +kernel
theorem dX1_note_38 : decode cX1_note 38 = .ok (.iadd, 1) := by decide +kernel
theorem dX1_note_39 : decode cX1_note 39 = .ok (.bipush 20, 2) := by decide +kernel
theorem dX1_note_41 : decode cX1_note 41 = .ok (.if_icmp .ge 12, 3) := by decide +kernel
theorem dX1_note_44 : decode cX1_note 44 = .ok (.aload_n 0, 1) := by decide +kernel
theorem dX1_note_45 : decode cX1_note 45 = .ok (.getfield 24, 3) := by decide +kernel
theorem dX1_note_48 : decode cX1_note 48 = .ok (.iconst 1, 1) := by decide +kernel
theorem dX1_note_49 : decode cX1_note 49 = .ok (.iadd, 1) := by decide +kernel
theorem dX1_note_50 : decode cX1_note 50 = .ok (.goto 4, 3) := by decide +kernel
theorem dX1_note_53 : decode cX1_note 53 = .ok (.iconst 0, 1) := by decide +kernel
theorem dX1_note_54 : decode cX1_note 54 = .ok (.putfield 24, 3) := by decide +kernel
theorem dX1_note_57 : decode cX1_note 57 = .ok (.aload_n 0, 1) := by decide +kernel
theorem dX1_note_58 : decode cX1_note 58 = .ok (.aload_n 0, 1) := by decide +kernel
theorem dX1_note_59 : decode cX1_note 59 = .ok (.getfield 16, 3) := by decide +kernel
theorem dX1_note_62 : decode cX1_note 62 = .ok (.iconst 1, 1) := by decide +kernel
theorem dX1_note_63 : decode cX1_note 63 = .ok (.iadd, 1) := by decide +kernel
theorem dX1_note_64 : decode cX1_note 64 = .ok (.bipush 20, 2) := by decide +kernel
theorem dX1_note_66 : decode cX1_note 66 = .ok (.invokestatic 27, 3) := by decide +kernel
theorem dX1_note_69 : decode cX1_note 69 = .ok (.putfield 16, 3) := by decide +kernel
theorem dX1_note_72 : decode cX1_note 72 = .ok (.return_, 1) := by decide +kernel
set_option maxRecDepth 20000 in
theorem ggX1_lastPart_X1_lastRow : GoodIn wsX1_lastPart wsX1_lastRow := goodIn_r _ [6, 7, 11, 12, 13] (by decide +kernel) (by decide +kernel)
set_option maxRecDepth 20000 in
theorem gX1_lastPart_X1_lastRow : GoodIn wsX1_lastPart (wsV RX1 33 RX1 yX1_lastRow wsX1_lastRow) := goodIn_app (goodIn_of _ (by decide +kernel)) ggX1_lastPart_X1_lastRow
set_option maxRecDepth 20000 in
theorem ggX1_lastPart_X1_isPlace : GoodIn wsX1_lastPart wsX1_isPlace := goodIn_r _ [10] (by decide +kernel) (by decide +kernel)
set_option maxRecDepth 20000 in
theorem gX1_lastPart_X1_isPlace : GoodIn wsX1_lastPart (va_wsS RX1 37 yX1_isPlace wsX1_isPlace) := goodIn_app (goodIn_of _ (by decide +kernel)) ggX1_lastPart_X1_isPlace
theorem dX1_lastPart_0 : decode cX1_lastPart 0 = .ok (.aload_n 0, 1) := by decide +kernel
theorem dX1_lastPart_1 : decode cX1_lastPart 1 = .ok (.invokevirtual 33, 3) := by decide +kernel
theorem dX1_lastPart_4 : decode cX1_lastPart 4 = .ok (.istore_n 2, 1) := by decide +kernel
theorem dX1_lastPart_5 : decode cX1_lastPart 5 = .ok (.iload_n 2, 1) := by decide +kernel
theorem dX1_lastPart_6 : decode cX1_lastPart 6 = .ok (.iload_n 1, 1) := by decide +kernel
theorem dX1_lastPart_7 : decode cX1_lastPart 7 = .ok (.invokestatic 37, 3) := by decide +kernel
theorem dX1_lastPart_10 : decode cX1_lastPart 10 = .ok (.ifCond .eq 14, 3) := by decide +kernel
theorem dX1_lastPart_13 : decode cX1_lastPart 13 = .ok (.aload_n 0, 1) := by decide +kernel
theorem dX1_lastPart_14 : decode cX1_lastPart 14 = .ok (.getfield 13, 3) := by decide +kernel
theorem dX1_lastPart_17 : decode cX1_lastPart 17 = .ok (.iload_n 2, 1) := by decide +kernel
theorem dX1_lastPart_18 : decode cX1_lastPart 18 = .ok (.aaload, 1) := by decide +kernel
theorem dX1_lastPart_19 : decode cX1_lastPart 19 = .ok (.iload_n 1, 1) := by decide +kernel
theorem dX1_lastPart_20 : decode cX1_lastPart 20 = .ok (.iaload, 1) := by decide +kernel
theorem dX1_lastPart_21 : decode cX1_lastPart 21 = .ok (.goto 4, 3) := by decide +kernel
theorem dX1_lastPart_24 : decode cX1_lastPart 24 = .ok (.iconst (-1), 1) := by decide +kernel
theorem dX1_lastPart_25 : decode cX1_lastPart 25 = .ok (.ireturn, 1) := by decide +kernel
set_option maxRecDepth 20000 in
theorem ggX1_dropLast_X1_lastRow : GoodIn wsX1_dropLast wsX1_lastRow := goodIn_r _ [11, 1, 12, 13, 14] (by decide +kernel) (by decide +kernel)
set_option maxRecDepth 20000 in
theorem gX1_dropLast_X1_lastRow : GoodIn wsX1_dropLast (wsV RX1 33 RX1 yX1_lastRow wsX1_lastRow) := goodIn_app (goodIn_of _ (by decide +kernel)) ggX1_dropLast_X1_lastRow
theorem dX1_dropLast_0 : decode cX1_dropLast 0 = .ok (.aload_n 0, 1) := by decide +kernel
theorem dX1_dropLast_1 : decode cX1_dropLast 1 = .ok (.aload_n 0, 1) := by decide +kernel
theorem dX1_dropLast_2 : decode cX1_dropLast 2 = .ok (.invokevirtual 33, 3) := by decide +kernel
theorem dX1_dropLast_5 : decode cX1_dropLast 5 = .ok (.putfield 24, 3) := by decide +kernel
theorem dX1_dropLast_8 : decode cX1_dropLast 8 = .ok (.aload_n 0, 1) := by decide +kernel
theorem dX1_dropLast_9 : decode cX1_dropLast 9 = .ok (.aload_n 0, 1) := by decide +kernel
theorem dX1_dropLast_10 : decode cX1_dropLast 10 = .ok (.getfield 16, 3) := by decide +kernel
theorem dX1_dropLast_13 : decode cX1_dropLast 13 = .ok (.iconst 1, 1) := by decide +kernel
theorem dX1_dropLast_14 : decode cX1_dropLast 14 = .ok (.isub, 1) := by decide +kernel
theorem dX1_dropLast_15 : decode cX1_dropLast 15 = .ok (.iconst 0, 1) := by decide +kernel
theorem dX1_dropLast_16 : decode cX1_dropLast 16 = .ok (.invokestatic 41, 3) := by decide +kernel
theorem dX1_dropLast_19 : decode cX1_dropLast 19 = .ok (.putfield 16, 3) := by decide +kernel
theorem dX1_dropLast_22 : decode cX1_dropLast 22 = .ok (.return_, 1) := by decide +kernel
theorem dX1_lastRow_0 : decode cX1_lastRow 0 = .ok (.aload_n 0, 1) := by decide +kernel
theorem dX1_lastRow_1 : decode cX1_lastRow 1 = .ok (.getfield 24, 3) := by decide +kernel
theorem dX1_lastRow_4 : decode cX1_lastRow 4 = .ok (.ifCond .le 12, 3) := by decide +kernel
theorem dX1_lastRow_7 : decode cX1_lastRow 7 = .ok (.aload_n 0, 1) := by decide +kernel
theorem dX1_lastRow_8 : decode cX1_lastRow 8 = .ok (.getfield 24, 3) := by decide +kernel
theorem dX1_lastRow_11 : decode cX1_lastRow 11 = .ok (.iconst 1, 1) := by decide +kernel
theorem dX1_lastRow_12 : decode cX1_lastRow 12 = .ok (.isub, 1) := by decide +kernel
theorem dX1_lastRow_13 : decode cX1_lastRow 13 = .ok (.goto 5, 3) := by decide +kernel
theorem dX1_lastRow_16 : decode cX1_lastRow 16 = .ok (.bipush 19, 2) := by decide +kernel
theorem dX1_lastRow_18 : decode cX1_lastRow 18 = .ok (.ireturn, 1) := by decide +kernel
set_option maxRecDepth 20000 in
theorem ggX1_put_X1_isPlace : GoodIn wsX1_put wsX1_isPlace := goodIn_r _ [6] (by decide +kernel) (by decide +kernel)
set_option maxRecDepth 20000 in
theorem gX1_put_X1_isPlace : GoodIn wsX1_put (va_wsS RX1 37 yX1_isPlace wsX1_isPlace) := goodIn_app (goodIn_of _ (by decide +kernel)) ggX1_put_X1_isPlace
theorem dX1_put_0 : decode cX1_put 0 = .ok (.aload_n 0, 1) := by decide +kernel
theorem dX1_put_1 : decode cX1_put 1 = .ok (.getfield 24, 3) := by decide +kernel
theorem dX1_put_4 : decode cX1_put 4 = .ok (.iload_n 1, 1) := by decide +kernel
theorem dX1_put_5 : decode cX1_put 5 = .ok (.invokestatic 37, 3) := by decide +kernel
theorem dX1_put_8 : decode cX1_put 8 = .ok (.ifCond .eq 15, 3) := by decide +kernel
theorem dX1_put_11 : decode cX1_put 11 = .ok (.aload_n 0, 1) := by decide +kernel
theorem dX1_put_12 : decode cX1_put 12 = .ok (.getfield 13, 3) := by decide +kernel
theorem dX1_put_15 : decode cX1_put 15 = .ok (.aload_n 0, 1) := by decide +kernel
theorem dX1_put_16 : decode cX1_put 16 = .ok (.getfield 24, 3) := by decide +kernel
theorem dX1_put_19 : decode cX1_put 19 = .ok (.aaload, 1) := by decide +kernel
theorem dX1_put_20 : decode cX1_put 20 = .ok (.iload_n 1, 1) := by decide +kernel
theorem dX1_put_21 : decode cX1_put 21 = .ok (.iload_n 2, 1) := by decide +kernel
theorem dX1_put_22 : decode cX1_put 22 = .ok (.iastore, 1) := by decide +kernel
theorem dX1_put_23 : decode cX1_put 23 = .ok (.return_, 1) := by decide +kernel
theorem dX1_isPlace_0 : decode cX1_isPlace 0 = .ok (.iload_n 0, 1) := by decide +kernel
theorem dX1_isPlace_1 : decode cX1_isPlace 1 = .ok (.ifCond .lt 22, 3) := by decide +kernel
theorem dX1_isPlace_4 : decode cX1_isPlace 4 = .ok (.iload_n 0, 1) := by decide +kernel
theorem dX1_isPlace_5 : decode cX1_isPlace 5 = .ok (.bipush 20, 2) := by decide +kernel
theorem dX1_isPlace_7 : decode cX1_isPlace 7 = .ok (.if_icmp .ge 16, 3) := by decide +kernel
theorem dX1_isPlace_10 : decode cX1_isPlace 10 = .ok (.iload_n 1, 1) := by decide +kernel
theorem dX1_isPlace_11 : decode cX1_isPlace 11 = .ok (.ifCond .lt 12, 3) := by decide +kernel
theorem dX1_isPlace_14 : decode cX1_isPlace 14 = .ok (.iload_n 1, 1) := by decide +kernel
theorem dX1_isPlace_15 : decode cX1_isPlace 15 = .ok (.iconst 5, 1) := by decide +kernel
theorem dX1_isPlace_16 : decode cX1_isPlace 16 = .ok (.if_icmp .ge 7, 3) := by decide +kernel
theorem dX1_isPlace_19 : decode cX1_isPlace 19 = .ok (.iconst 1, 1) := by decide +kernel
theorem dX1_isPlace_20 : decode cX1_isPlace 20 = .ok (.goto 4, 3) := by decide +kernel
theorem dX1_isPlace_23 : decode cX1_isPlace 23 = .ok (.iconst 0, 1) := by decide +kernel
theorem dX1_isPlace_24 : decode cX1_isPlace 24 = .ok (.ireturn, 1) := by decide +kernel
set_option maxRecDepth 20000 in
theorem ggX2_init_J7_fill_53178 : GoodIn wsX2_init wsJ7_fill_53178 := goodIn_r _ [12] (by decide +kernel) (by decide +kernel)
set_option maxRecDepth 20000 in
theorem gX2_init_J7_fill_53178 : GoodIn wsX2_init (va_wsS RX2 23 yJ7_fill_53178 wsJ7_fill_53178) := goodIn_app (goodIn_of _ (by decide +kernel)) ggX2_init_J7_fill_53178
theorem dX2_init_0 : decode cX2_init 0 = .ok (.aload_n 0, 1) := by decide +kernel
theorem dX2_init_1 : decode cX2_init 1 = .ok (.invokespecial 3, 3) := by decide +kernel
theorem dX2_init_4 : decode cX2_init 4 = .ok (.aload_n 0, 1) := by decide +kernel
theorem dX2_init_5 : decode cX2_init 5 = .ok (.bipush 20, 2) := by decide +kernel
theorem dX2_init_7 : decode cX2_init 7 = .ok (.newarray .int, 2) := by decide +kernel
theorem dX2_init_9 : decode cX2_init 9 = .ok (.putfield 9, 3) := by decide +kernel
theorem dX2_init_12 : decode cX2_init 12 = .ok (.aload_n 0, 1) := by decide +kernel
theorem dX2_init_13 : decode cX2_init 13 = .ok (.bipush 20, 2) := by decide +kernel
theorem dX2_init_15 : decode cX2_init 15 = .ok (.newarray .int, 2) := by decide +kernel
theorem dX2_init_17 : decode cX2_init 17 = .ok (.putfield 15, 3) := by decide +kernel
theorem dX2_init_20 : decode cX2_init 20 = .ok (.aload_n 0, 1) := by decide +kernel
theorem dX2_init_21 : decode cX2_init 21 = .ok (.iconst 4, 1) := by decide +kernel
theorem dX2_init_22 : decode cX2_init 22 = .ok (.bipush 20, 2) := by decide +kernel
theorem dX2_init_24 : decode cX2_init 24 = .ok (.multianewarray 18 2, 4) := by decide +kernel
theorem dX2_init_28 : decode cX2_init 28 = .ok (.putfield 20, 3) := by decide +kernel
theorem dX2_init_31 : decode cX2_init 31 = .ok (.iconst 0, 1) := by decide +kernel
theorem dX2_init_32 : decode cX2_init 32 = .ok (.istore_n 1, 1) := by decide +kernel
theorem dX2_init_33 : decode cX2_init 33 = .ok (.iload_n 1, 1) := by decide +kernel
theorem dX2_init_34 : decode cX2_init 34 = .ok (.iconst 4, 1) := by decide +kernel
theorem dX2_init_35 : decode cX2_init 35 = .ok (.if_icmp .ge 19, 3) := by decide +kernel
theorem dX2_init_38 : decode cX2_init 38 = .ok (.aload_n 0, 1) := by decide +kernel
theorem dX2_init_39 : decode cX2_init 39 = .ok (.getfield 20, 3) := by decide +kernel
theorem dX2_init_42 : decode cX2_init 42 = .ok (.iload_n 1, 1) := by decide +kernel
theorem dX2_init_43 : decode cX2_init 43 = .ok (.aaload, 1) := by decide +kernel
theorem dX2_init_44 : decode cX2_init 44 = .ok (.iconst (-1), 1) := by decide +kernel
theorem dX2_init_45 : decode cX2_init 45 = .ok (.invokestatic 23, 3) := by decide +kernel
theorem dX2_init_48 : decode cX2_init 48 = .ok (.iinc 1 1, 3) := by decide +kernel
theorem dX2_init_51 : decode cX2_init 51 = .ok (.goto (-18), 3) := by decide +kernel
theorem dX2_init_54 : decode cX2_init 54 = .ok (.return_, 1) := by decide +kernel
theorem dX2_isFull_0 : decode cX2_isFull 0 = .ok (.aload_n 0, 1) := by decide +kernel
theorem dX2_isFull_1 : decode cX2_isFull 1 = .ok (.getfield 29, 3) := by decide +kernel
theorem dX2_isFull_4 : decode cX2_isFull 4 = .ok (.bipush 20, 2) := by decide +kernel
theorem dX2_isFull_6 : decode cX2_isFull 6 = .ok (.if_icmp .lt 7, 3) := by decide +kernel
theorem dX2_isFull_9 : decode cX2_isFull 9 = .ok (.iconst 1, 1) := by decide +kernel
theorem dX2_isFull_10 : decode cX2_isFull 10 = .ok (.goto 4, 3) := by decide +kernel
theorem dX2_isFull_13 : decode cX2_isFull 13 = .ok (.iconst 0, 1) := by decide +kernel
theorem dX2_isFull_14 : decode cX2_isFull 14 = .ok (.ireturn, 1) := by decide +kernel
theorem dX2_has_0 : decode cX2_has 0 = .ok (.iload_n 1, 1) := by decide +kernel
theorem dX2_has_1 : decode cX2_has 1 = .ok (.ifCond .lt 15, 3) := by decide +kernel
theorem dX2_has_4 : decode cX2_has 4 = .ok (.iload_n 1, 1) := by decide +kernel
theorem dX2_has_5 : decode cX2_has 5 = .ok (.aload_n 0, 1) := by decide +kernel
theorem dX2_has_6 : decode cX2_has 6 = .ok (.getfield 29, 3) := by decide +kernel
theorem dX2_has_9 : decode cX2_has 9 = .ok (.if_icmp .ge 7, 3) := by decide +kernel
theorem dX2_has_12 : decode cX2_has 12 = .ok (.iconst 1, 1) := by decide +kernel
theorem dX2_has_13 : decode cX2_has 13 = .ok (.goto 4, 3) := by decide +kernel
theorem dX2_has_16 : decode cX2_has 16 = .ok (.iconst 0, 1) := by decide +kernel
theorem dX2_has_17 : decode cX2_has 17 = .ok (.ireturn, 1) := by decide +kernel
set_option maxRecDepth 20000 in
theorem ggX2_add_X2_setKind : GoodIn wsX2_add wsX2_setKind := goodIn_r _ [6, 7, 8, 9, 10, 11, 5, 12, 1, 13, 14, 15, 16] (by decide +kernel) (by decide +kernel)
set_option maxRecDepth 20000 in
theorem gX2_add_X2_setKind : GoodIn wsX2_add (wsV RX2 33 RX2 yX2_setKind wsX2_setKind) := goodIn_app (goodIn_of _ (by decide +kernel)) ggX2_add_X2_setKind
theorem dX2_add_0 : decode cX2_add 0 = .ok (.aload_n 0, 1) := by decide +kernel
theorem dX2_add_1 : decode cX2_add 1 = .ok (.getfield 29, 3) := by decide +kernel
theorem dX2_add_4 : decode cX2_add 4 = .ok (.istore_n 3, 1) := by decide +kernel
theorem dX2_add_5 : decode cX2_add 5 = .ok (.iload_n 3, 1) := by decide +kernel
theorem dX2_add_6 : decode cX2_add 6 = .ok (.ifCond .lt 9, 3) := by decide +kernel
theorem dX2_add_9 : decode cX2_add 9 = .ok (.iload_n 3, 1) := by decide +kernel
theorem dX2_add_10 : decode cX2_add 10 = .ok (.bipush 20, 2) := by decide +kernel
theorem dX2_add_12 : decode cX2_add 12 = .ok (.if_icmp .lt 5, 3) := by decide +kernel
theorem dX2_add_15 : decode cX2_add 15 = .ok (.iconst (-1), 1) := by decide +kernel
theorem dX2_add_16 : decode cX2_add 16 = .ok (.ireturn, 1) := by decide +kernel
theorem dX2_add_17 : decode cX2_add 17 = .ok (.aload_n 0, 1) := by decide +kernel
theorem dX2_add_18 : decode cX2_add 18 = .ok (.dup, 1) := by decide +kernel
theorem dX2_add_19 : decode cX2_add 19 = .ok (.getfield 29, 3) := by decide +kernel
theorem dX2_add_22 : decode cX2_add 22 = .ok (.iconst 1, 1) := by decide +kernel
theorem dX2_add_23 : decode cX2_add 23 = .ok (.iadd, 1) := by decide +kernel
theorem dX2_add_24 : decode cX2_add 24 = .ok (.putfield 29, 3) := by decide +kernel
theorem dX2_add_27 : decode cX2_add 27 = .ok (.aload_n 0, 1) := by decide +kernel
theorem dX2_add_28 : decode cX2_add 28 = .ok (.iload_n 3, 1) := by decide +kernel
theorem dX2_add_29 : decode cX2_add 29 = .ok (.iload_n 1, 1) := by decide +kernel
theorem dX2_add_30 : decode cX2_add 30 = .ok (.iload_n 2, 1) := by decide +kernel
theorem dX2_add_31 : decode cX2_add 31 = .ok (.invokevirtual 33, 3) := by decide +kernel
theorem dX2_add_34 : decode cX2_add 34 = .ok (.iload_n 3, 1) := by decide +kernel
theorem dX2_add_35 : decode cX2_add 35 = .ok (.ireturn, 1) := by decide +kernel
set_option maxRecDepth 20000 in
theorem ggX2_powerOf_X2_has : GoodIn wsX2_powerOf wsX2_has := goodIn_r _ [6, 7, 8, 9, 10, 11] (by decide +kernel) (by decide +kernel)
set_option maxRecDepth 20000 in
theorem gX2_powerOf_X2_has : GoodIn wsX2_powerOf (wsV RX2 37 RX2 yX2_has wsX2_has) := goodIn_app (goodIn_of _ (by decide +kernel)) ggX2_powerOf_X2_has
theorem dX2_powerOf_0 : decode cX2_powerOf 0 = .ok (.aload_n 0, 1) := by decide +kernel
theorem dX2_powerOf_1 : decode cX2_powerOf 1 = .ok (.iload_n 1, 1) := by decide +kernel
theorem dX2_powerOf_2 : decode cX2_powerOf 2 = .ok (.invokevirtual 37, 3) := by decide +kernel
theorem dX2_powerOf_5 : decode cX2_powerOf 5 = .ok (.ifCond .eq 12, 3) := by decide +kernel
theorem dX2_powerOf_8 : decode cX2_powerOf 8 = .ok (.aload_n 0, 1) := by decide +kernel
theorem dX2_powerOf_9 : decode cX2_powerOf 9 = .ok (.getfield 9, 3) := by decide +kernel
theorem dX2_powerOf_12 : decode cX2_powerOf 12 = .ok (.iload_n 1, 1) := by decide +kernel
theorem dX2_powerOf_13 : decode cX2_powerOf 13 = .ok (.iaload, 1) := by decide +kernel
theorem dX2_powerOf_14 : decode cX2_powerOf 14 = .ok (.goto 4, 3) := by decide +kernel
theorem dX2_powerOf_17 : decode cX2_powerOf 17 = .ok (.iconst 0, 1) := by decide +kernel
theorem dX2_powerOf_18 : decode cX2_powerOf 18 = .ok (.ireturn, 1) := by decide +kernel
set_option maxRecDepth 20000 in
theorem ggX2_gelOf_X2_has : GoodIn wsX2_gelOf wsX2_has := goodIn_r _ [6, 7, 8, 9, 10, 11] (by decide +kernel) (by decide +kernel)
set_option maxRecDepth 20000 in
theorem gX2_gelOf_X2_has : GoodIn wsX2_gelOf (wsV RX2 37 RX2 yX2_has wsX2_has) := goodIn_app (goodIn_of _ (by decide +kernel)) ggX2_gelOf_X2_has
theorem dX2_gelOf_0 : decode cX2_gelOf 0 = .ok (.aload_n 0, 1) := by decide +kernel
theorem dX2_gelOf_1 : decode cX2_gelOf 1 = .ok (.iload_n 1, 1) := by decide +kernel
theorem dX2_gelOf_2 : decode cX2_gelOf 2 = .ok (.invokevirtual 37, 3) := by decide +kernel
theorem dX2_gelOf_5 : decode cX2_gelOf 5 = .ok (.ifCond .eq 12, 3) := by decide +kernel
theorem dX2_gelOf_8 : decode cX2_gelOf 8 = .ok (.aload_n 0, 1) := by decide +kernel
theorem dX2_gelOf_9 : decode cX2_gelOf 9 = .ok (.getfield 15, 3) := by decide +kernel
theorem dX2_gelOf_12 : decode cX2_gelOf 12 = .ok (.iload_n 1, 1) := by decide +kernel
theorem dX2_gelOf_13 : decode cX2_gelOf 13 = .ok (.iaload, 1) := by decide +kernel
theorem dX2_gelOf_14 : decode cX2_gelOf 14 = .ok (.goto 4, 3) := by decide +kernel
theorem dX2_gelOf_17 : decode cX2_gelOf 17 = .ok (.iconst 0, 1) := by decide +kernel
theorem dX2_gelOf_18 : decode cX2_gelOf 18 = .ok (.ireturn, 1) := by decide +kernel
set_option maxRecDepth 20000 in
theorem ggX2_setKind_X2_has : GoodIn wsX2_setKind wsX2_has := goodIn_r _ [7, 8, 9, 10, 11, 12] (by decide +kernel) (by decide +kernel)
set_option maxRecDepth 20000 in
theorem gX2_setKind_X2_has : GoodIn wsX2_setKind (wsV RX2 37 RX2 yX2_has wsX2_has) := goodIn_app (goodIn_of _ (by decide +kernel)) ggX2_setKind_X2_has
theorem dX2_setKind_0 : decode cX2_setKind 0 = .ok (.aload_n 0, 1) := by decide +kernel
theorem dX2_setKind_1 : decode cX2_setKind 1 = .ok (.iload_n 1, 1) := by decide +kernel
theorem dX2_setKind_2 : decode cX2_setKind 2 = .ok (.invokevirtual 37, 3) := by decide +kernel
theorem dX2_setKind_5 : decode cX2_setKind 5 = .ok (.ifCond .eq 17, 3) := by decide +kernel
theorem dX2_setKind_8 : decode cX2_setKind 8 = .ok (.aload_n 0, 1) := by decide +kernel
theorem dX2_setKind_9 : decode cX2_setKind 9 = .ok (.getfield 9, 3) := by decide +kernel
theorem dX2_setKind_12 : decode cX2_setKind 12 = .ok (.iload_n 1, 1) := by decide +kernel
theorem dX2_setKind_13 : decode cX2_setKind 13 = .ok (.iload_n 2, 1) := by decide +kernel
theorem dX2_setKind_14 : decode cX2_setKind 14 = .ok (.iastore, 1) := by decide +kernel
theorem dX2_setKind_15 : decode cX2_setKind 15 = .ok (.aload_n 0, 1) := by decide +kernel
theorem dX2_setKind_16 : decode cX2_setKind 16 = .ok (.getfield 15, 3) := by decide +kernel
theorem dX2_setKind_19 : decode cX2_setKind 19 = .ok (.iload_n 1, 1) := by decide +kernel
theorem dX2_setKind_20 : decode cX2_setKind 20 = .ok (.iload_n 3, 1) := by decide +kernel
theorem dX2_setKind_21 : decode cX2_setKind 21 = .ok (.iastore, 1) := by decide +kernel
theorem dX2_setKind_22 : decode cX2_setKind 22 = .ok (.return_, 1) := by decide +kernel
set_option maxRecDepth 20000 in
theorem ggX2_channelOf_X3_isNight : GoodIn wsX2_channelOf wsX3_isNight := goodIn_r _ [4] (by decide +kernel) (by decide +kernel)
set_option maxRecDepth 20000 in
theorem gX2_channelOf_X3_isNight_n41 : GoodIn wsX2_channelOf (wsX3_isNight) := ggX2_channelOf_X3_isNight
set_option maxRecDepth 20000 in
theorem ggX2_channelOf_X2_has : GoodIn wsX2_channelOf wsX2_has := goodIn_r _ [9, 10, 11, 12, 13, 14] (by decide +kernel) (by decide +kernel)
set_option maxRecDepth 20000 in
theorem gX2_channelOf_X2_has : GoodIn wsX2_channelOf (wsV RX2 37 RX2 yX2_has wsX2_has) := goodIn_app (goodIn_of _ (by decide +kernel)) ggX2_channelOf_X2_has
theorem dX2_channelOf_0 : decode cX2_channelOf 0 = .ok (.iload_n 1, 1) := by decide +kernel
theorem dX2_channelOf_1 : decode cX2_channelOf 1 = .ok (.invokestatic 41, 3) := by decide +kernel
theorem dX2_channelOf_4 : decode cX2_channelOf 4 = .ok (.ifCond .eq 22, 3) := by decide +kernel
theorem dX2_channelOf_7 : decode cX2_channelOf 7 = .ok (.aload_n 0, 1) := by decide +kernel
theorem dX2_channelOf_8 : decode cX2_channelOf 8 = .ok (.iload_n 2, 1) := by decide +kernel
theorem dX2_channelOf_9 : decode cX2_channelOf 9 = .ok (.invokevirtual 37, 3) := by decide +kernel
theorem dX2_channelOf_12 : decode cX2_channelOf 12 = .ok (.ifCond .eq 14, 3) := by decide +kernel
theorem dX2_channelOf_15 : decode cX2_channelOf 15 = .ok (.aload_n 0, 1) := by decide +kernel
theorem dX2_channelOf_16 : decode cX2_channelOf 16 = .ok (.getfield 20, 3) := by decide +kernel
theorem dX2_channelOf_19 : decode cX2_channelOf 19 = .ok (.iload_n 1, 1) := by decide +kernel
theorem dX2_channelOf_20 : decode cX2_channelOf 20 = .ok (.aaload, 1) := by decide +kernel
theorem dX2_channelOf_21 : decode cX2_channelOf 21 = .ok (.iload_n 2, 1) := by decide +kernel
theorem dX2_channelOf_22 : decode cX2_channelOf 22 = .ok (.iaload, 1) := by decide +kernel
theorem dX2_channelOf_23 : decode cX2_channelOf 23 = .ok (.goto 4, 3) := by decide +kernel
theorem dX2_channelOf_26 : decode cX2_channelOf 26 = .ok (.iconst (-1), 1) := by decide +kernel
theorem dX2_channelOf_27 : decode cX2_channelOf 27 = .ok (.ireturn, 1) := by decide +kernel
set_option maxRecDepth 20000 in
theorem ggX2_setChannel_X3_isNight : GoodIn wsX2_setChannel wsX3_isNight := goodIn_r _ [4] (by decide +kernel) (by decide +kernel)
set_option maxRecDepth 20000 in
theorem gX2_setChannel_X3_isNight_n41 : GoodIn wsX2_setChannel (wsX3_isNight) := ggX2_setChannel_X3_isNight
set_option maxRecDepth 20000 in
theorem ggX2_setChannel_X2_has : GoodIn wsX2_setChannel wsX2_has := goodIn_r _ [9, 10, 11, 12, 13, 14] (by decide +kernel) (by decide +kernel)
set_option maxRecDepth 20000 in
theorem gX2_setChannel_X2_has : GoodIn wsX2_setChannel (wsV RX2 37 RX2 yX2_has wsX2_has) := goodIn_app (goodIn_of _ (by decide +kernel)) ggX2_setChannel_X2_has
theorem dX2_setChannel_0 : decode cX2_setChannel 0 = .ok (.iload_n 1, 1) := by decide +kernel
theorem dX2_setChannel_1 : decode cX2_setChannel 1 = .ok (.invokestatic 41, 3) := by decide +kernel
theorem dX2_setChannel_4 : decode cX2_setChannel 4 = .ok (.ifCond .eq 20, 3) := by decide +kernel
theorem dX2_setChannel_7 : decode cX2_setChannel 7 = .ok (.aload_n 0, 1) := by decide +kernel
theorem dX2_setChannel_8 : decode cX2_setChannel 8 = .ok (.iload_n 2, 1) := by decide +kernel
theorem dX2_setChannel_9 : decode cX2_setChannel 9 = .ok (.invokevirtual 37, 3) := by decide +kernel
theorem dX2_setChannel_12 : decode cX2_setChannel 12 = .ok (.ifCond .eq 12, 3) := by decide +kernel
theorem dX2_setChannel_15 : decode cX2_setChannel 15 = .ok (.aload_n 0, 1) := by decide +kernel
theorem dX2_setChannel_16 : decode cX2_setChannel 16 = .ok (.getfield 20, 3) := by decide +kernel
theorem dX2_setChannel_19 : decode cX2_setChannel 19 = .ok (.iload_n 1, 1) := by decide +kernel
theorem dX2_setChannel_20 : decode cX2_setChannel 20 = .ok (.aaload, 1) := by decide +kernel
theorem dX2_setChannel_21 : decode cX2_setChannel 21 = .ok (.iload_n 2, 1) := by decide +kernel
theorem dX2_setChannel_22 : decode cX2_setChannel 22 = .ok (.iload_n 3, 1) := by decide +kernel
theorem dX2_setChannel_23 : decode cX2_setChannel 23 = .ok (.iastore, 1) := by decide +kernel
theorem dX2_setChannel_24 : decode cX2_setChannel 24 = .ok (.return_, 1) := by decide +kernel
set_option maxRecDepth 20000 in
theorem ggX2_shineOn_X2_channelOf : GoodIn wsX2_shineOn wsX2_channelOf := goodIn_r _ [6, 7, 8, 9, 10, 11, 12, 13, 5, 14, 1, 32, 33, 34, 35] (by decide +kernel) (by decide +kernel)
set_option maxRecDepth 20000 in
theorem gX2_shineOn_X2_channelOf : GoodIn wsX2_shineOn (wsV RX2 44 RX2 yX2_channelOf wsX2_channelOf) := goodIn_app (goodIn_of _ (by decide +kernel)) ggX2_shineOn_X2_channelOf
set_option maxRecDepth 20000 in
theorem ggX2_shineOn_X2_shine : GoodIn wsX2_shineOn wsX2_shine := goodIn_r _ [18, 19, 20, 21, 5, 22, 23, 11, 12, 13, 14, 1, 24, 25, 26, 27, 28, 29, 30, 31, 32, 33, 34, 35] (by decide +kernel) (by decide +kernel)
set_option maxRecDepth 20000 in
theorem gX2_shineOn_X2_shine : GoodIn wsX2_shineOn (wsV RX2 48 RX2 yX2_shine wsX2_shine) := goodIn_app (goodIn_of _ (by decide +kernel)) ggX2_shineOn_X2_shine
theorem dX2_shineOn_0 : decode cX2_shineOn 0 = .ok (.iconst 0, 1) := by decide +kernel
theorem dX2_shineOn_1 : decode cX2_shineOn 1 = .ok (.istore 4, 2) := by decide +kernel
theorem dX2_shineOn_3 : decode cX2_shineOn 3 = .ok (.iconst 0, 1) := by decide +kernel
theorem dX2_shineOn_4 : decode cX2_shineOn 4 = .ok (.istore 5, 2) := by decide +kernel
theorem dX2_shineOn_6 : decode cX2_shineOn 6 = .ok (.iload 5, 2) := by decide +kernel
theorem dX2_shineOn_8 : decode cX2_shineOn 8 = .ok (.aload_n 0, 1) := by decide +kernel
theorem dX2_shineOn_9 : decode cX2_shineOn 9 = .ok (.getfield 29, 3) := by decide +kernel
theorem dX2_shineOn_12 : decode cX2_shineOn 12 = .ok (.if_icmp .ge 32, 3) := by decide +kernel
theorem dX2_shineOn_15 : decode cX2_shineOn 15 = .ok (.aload_n 0, 1) := by decide +kernel
theorem dX2_shineOn_16 : decode cX2_shineOn 16 = .ok (.iload_n 1, 1) := by decide +kernel
theorem dX2_shineOn_17 : decode cX2_shineOn 17 = .ok (.iload 5, 2) := by decide +kernel
theorem dX2_shineOn_19 : decode cX2_shineOn 19 = .ok (.invokevirtual 44, 3) := by decide +kernel
theorem dX2_shineOn_22 : decode cX2_shineOn 22 = .ok (.iload_n 2, 1) := by decide +kernel
theorem dX2_shineOn_23 : decode cX2_shineOn 23 = .ok (.if_icmp .ne 15, 3) := by decide +kernel
theorem dX2_shineOn_26 : decode cX2_shineOn 26 = .ok (.iload 4, 2) := by decide +kernel
theorem dX2_shineOn_28 : decode cX2_shineOn 28 = .ok (.aload_n 0, 1) := by decide +kernel
theorem dX2_shineOn_29 : decode cX2_shineOn 29 = .ok (.iload 5, 2) := by decide +kernel
theorem dX2_shineOn_31 : decode cX2_shineOn 31 = .ok (.iload_n 3, 1) := by decide +kernel
theorem dX2_shineOn_32 : decode cX2_shineOn 32 = .ok (.invokevirtual 48, 3) := by decide +kernel
theorem dX2_shineOn_35 : decode cX2_shineOn 35 = .ok (.iadd, 1) := by decide +kernel
theorem dX2_shineOn_36 : decode cX2_shineOn 36 = .ok (.istore 4, 2) := by decide +kernel
theorem dX2_shineOn_38 : decode cX2_shineOn 38 = .ok (.iinc 5 1, 3) := by decide +kernel
theorem dX2_shineOn_41 : decode cX2_shineOn 41 = .ok (.goto (-35), 3) := by decide +kernel
theorem dX2_shineOn_44 : decode cX2_shineOn 44 = .ok (.iload 4, 2) := by decide +kernel
theorem dX2_shineOn_46 : decode cX2_shineOn 46 = .ok (.ireturn, 1) := by decide +kernel
set_option maxRecDepth 20000 in
theorem ggX2_shine_X2_powerOf : GoodIn wsX2_shine wsX2_powerOf := goodIn_r _ [5, 6, 7, 8, 9, 4, 10, 11, 20, 21, 22, 23] (by decide +kernel) (by decide +kernel)
set_option maxRecDepth 20000 in
theorem gX2_shine_X2_powerOf : GoodIn wsX2_shine (wsV RX2 51 RX2 yX2_powerOf wsX2_powerOf) := goodIn_app (goodIn_of _ (by decide +kernel)) ggX2_shine_X2_powerOf
set_option maxRecDepth 20000 in
theorem ggX2_shine_X2_gelOf : GoodIn wsX2_shine wsX2_gelOf := goodIn_r _ [15, 16, 7, 8, 9, 4, 10, 11, 20, 21, 22, 23] (by decide +kernel) (by decide +kernel)
set_option maxRecDepth 20000 in
theorem gX2_shine_X2_gelOf : GoodIn wsX2_shine (wsV RX2 55 RX2 yX2_gelOf wsX2_gelOf) := goodIn_app (goodIn_of _ (by decide +kernel)) ggX2_shine_X2_gelOf
set_option maxRecDepth 20000 in
theorem ggX2_shine_X2_shineOfKind : GoodIn wsX2_shine wsX2_shineOfKind := goodIn_r _ [19] (by decide +kernel) (by decide +kernel)
set_option maxRecDepth 20000 in
theorem gX2_shine_X2_shineOfKind : GoodIn wsX2_shine (va_wsS RX2 58 yX2_shineOfKind wsX2_shineOfKind) := goodIn_app (goodIn_of _ (by decide +kernel)) ggX2_shine_X2_shineOfKind
theorem dX2_shine_0 : decode cX2_shine 0 = .ok (.aload_n 0, 1) := by decide +kernel
theorem dX2_shine_1 : decode cX2_shine 1 = .ok (.iload_n 1, 1) := by decide +kernel
theorem dX2_shine_2 : decode cX2_shine 2 = .ok (.invokevirtual 51, 3) := by decide +kernel
theorem dX2_shine_5 : decode cX2_shine 5 = .ok (.aload_n 0, 1) := by decide +kernel
theorem dX2_shine_6 : decode cX2_shine 6 = .ok (.iload_n 1, 1) := by decide +kernel
theorem dX2_shine_7 : decode cX2_shine 7 = .ok (.invokevirtual 55, 3) := by decide +kernel
theorem dX2_shine_10 : decode cX2_shine 10 = .ok (.iload_n 2, 1) := by decide +kernel
theorem dX2_shine_11 : decode cX2_shine 11 = .ok (.invokestatic 58, 3) := by decide +kernel
theorem dX2_shine_14 : decode cX2_shine 14 = .ok (.ireturn, 1) := by decide +kernel
theorem dX2_shineOfKind_0 : decode cX2_shineOfKind 0 = .ok (.iload_n 0, 1) := by decide +kernel
theorem dX2_shineOfKind_1 : decode cX2_shineOfKind 1 = .ok (.iload_n 2, 1) := by decide +kernel
theorem dX2_shineOfKind_2 : decode cX2_shineOfKind 2 = .ok (.imul, 1) := by decide +kernel
theorem dX2_shineOfKind_3 : decode cX2_shineOfKind 3 = .ok (.bipush 100, 2) := by decide +kernel
theorem dX2_shineOfKind_5 : decode cX2_shineOfKind 5 = .ok (.iconst 5, 1) := by decide +kernel
theorem dX2_shineOfKind_6 : decode cX2_shineOfKind 6 = .ok (.iload_n 1, 1) := by decide +kernel
theorem dX2_shineOfKind_7 : decode cX2_shineOfKind 7 = .ok (.imul, 1) := by decide +kernel
theorem dX2_shineOfKind_8 : decode cX2_shineOfKind 8 = .ok (.isub, 1) := by decide +kernel
theorem dX2_shineOfKind_9 : decode cX2_shineOfKind 9 = .ok (.imul, 1) := by decide +kernel
theorem dX2_shineOfKind_10 : decode cX2_shineOfKind 10 = .ok (.bipush 100, 2) := by decide +kernel
theorem dX2_shineOfKind_12 : decode cX2_shineOfKind 12 = .ok (.idiv, 1) := by decide +kernel
theorem dX2_shineOfKind_13 : decode cX2_shineOfKind 13 = .ok (.ireturn, 1) := by decide +kernel
set_option maxRecDepth 20000 in
theorem ggX3_init_X2_init : GoodIn wsX3_init wsX2_init := goodIn_r _ [23, 24, 2, 3, 19, 25, 26, 27, 28, 29, 30, 31, 32, 51, 52, 53, 54] (by decide +kernel) (by decide +kernel)
set_option maxRecDepth 20000 in
theorem gX3_init_X2_init : GoodIn wsX3_init (wsX2_init) := ggX3_init_X2_init
set_option maxRecDepth 20000 in
theorem ggX3_init_X0_init : GoodIn wsX3_init wsX0_init := goodIn_r _ [35, 36, 2, 3, 19, 37, 38, 17, 39, 40, 41, 42, 43, 44, 45, 30, 31, 32, 62, 63, 64, 65, 66, 67, 68, 69, 70] (by decide +kernel) (by decide +kernel)
set_option maxRecDepth 20000 in
theorem gX3_init_X0_init : GoodIn wsX3_init (wsX0_init) := ggX3_init_X0_init
set_option maxRecDepth 20000 in
theorem ggX3_init_X1_init : GoodIn wsX3_init wsX1_init := goodIn_r _ [47, 48, 2, 3, 49, 19, 50, 71, 72, 73] (by decide +kernel) (by decide +kernel)
set_option maxRecDepth 20000 in
theorem gX3_init_X1_init_n28 : GoodIn wsX3_init (wsX1_init) := ggX3_init_X1_init
theorem dX3_init_0 : decode cX3_init 0 = .ok (.aload_n 0, 1) := by decide +kernel
theorem dX3_init_1 : decode cX3_init 1 = .ok (.invokespecial 1, 3) := by decide +kernel
theorem dX3_init_4 : decode cX3_init 4 = .ok (.aload_n 0, 1) := by decide +kernel
theorem dX3_init_5 : decode cX3_init 5 = .ok (.new 7, 3) := by decide +kernel
theorem dX3_init_8 : decode cX3_init 8 = .ok (.dup, 1) := by decide +kernel
theorem dX3_init_9 : decode cX3_init 9 = .ok (.invokespecial 9, 3) := by decide +kernel
theorem dX3_init_12 : decode cX3_init 12 = .ok (.putfield 10, 3) := by decide +kernel
theorem dX3_init_15 : decode cX3_init 15 = .ok (.aload_n 0, 1) := by decide +kernel
theorem dX3_init_16 : decode cX3_init 16 = .ok (.new 16, 3) := by decide +kernel
theorem dX3_init_19 : decode cX3_init 19 = .ok (.dup, 1) := by decide +kernel
theorem dX3_init_20 : decode cX3_init 20 = .ok (.invokespecial 18, 3) := by decide +kernel
theorem dX3_init_23 : decode cX3_init 23 = .ok (.putfield 19, 3) := by decide +kernel
theorem dX3_init_26 : decode cX3_init 26 = .ok (.aload_n 0, 1) := by decide +kernel
theorem dX3_init_27 : decode cX3_init 27 = .ok (.new 16, 3) := by decide +kernel
theorem dX3_init_30 : decode cX3_init 30 = .ok (.dup, 1) := by decide +kernel
theorem dX3_init_31 : decode cX3_init 31 = .ok (.invokespecial 18, 3) := by decide +kernel
theorem dX3_init_34 : decode cX3_init 34 = .ok (.putfield 23, 3) := by decide +kernel
theorem dX3_init_37 : decode cX3_init 37 = .ok (.aload_n 0, 1) := by decide +kernel
theorem dX3_init_38 : decode cX3_init 38 = .ok (.new 26, 3) := by decide +kernel
theorem dX3_init_41 : decode cX3_init 41 = .ok (.dup, 1) := by decide +kernel
theorem dX3_init_42 : decode cX3_init 42 = .ok (.invokespecial 28, 3) := by decide +kernel
theorem dX3_init_45 : decode cX3_init 45 = .ok (.putfield 29, 3) := by decide +kernel
theorem dX3_init_48 : decode cX3_init 48 = .ok (.aload_n 0, 1) := by decide +kernel
theorem dX3_init_49 : decode cX3_init 49 = .ok (.bipush 12, 2) := by decide +kernel
theorem dX3_init_51 : decode cX3_init 51 = .ok (.newarray .boolean, 2) := by decide +kernel
theorem dX3_init_53 : decode cX3_init 53 = .ok (.putfield 33, 3) := by decide +kernel
theorem dX3_init_56 : decode cX3_init 56 = .ok (.aload_n 0, 1) := by decide +kernel
theorem dX3_init_57 : decode cX3_init 57 = .ok (.bipush 12, 2) := by decide +kernel
theorem dX3_init_59 : decode cX3_init 59 = .ok (.newarray .int, 2) := by decide +kernel
theorem dX3_init_61 : decode cX3_init 61 = .ok (.putfield 37, 3) := by decide +kernel
theorem dX3_init_64 : decode cX3_init 64 = .ok (.return_, 1) := by decide +kernel
set_option maxRecDepth 20000 in
theorem ggX3_addLamp_X3_needLampKind : GoodIn wsX3_addLamp wsX3_needLampKind := goodIn_ca (goodIn_r _ [7, 8, 9] (by decide +kernel) (by decide +kernel)) (goodIn_sub (fun _ h => List.mem_cons_of_mem _ (List.mem_append_right _ h)) (by decide +kernel))
set_option maxRecDepth 20000 in
theorem gX3_addLamp_X3_needLampKind : GoodIn wsX3_addLamp (va_wsS RX3 41 yX3_needLampKind wsX3_needLampKind) := goodIn_app (goodIn_of _ (by decide +kernel)) ggX3_addLamp_X3_needLampKind
set_option maxRecDepth 20000 in
theorem ggX3_addLamp_X2_isFull : GoodIn wsX3_addLamp wsX2_isFull := goodIn_r _ [14, 15, 37, 38, 39, 40] (by decide +kernel) (by decide +kernel)
set_option maxRecDepth 20000 in
theorem gX3_addLamp_X2_isFull : GoodIn wsX3_addLamp (wsV RX3 45 RX2 yX2_isFull wsX2_isFull) := goodIn_app (goodIn_of _ (by decide +kernel)) ggX3_addLamp_X2_isFull
set_option maxRecDepth 20000 in
theorem ggX3_addLamp_X2_add : GoodIn wsX3_addLamp wsX2_add := goodIn_r _ [19, 15, 20, 21, 22, 13, 23, 24, 25, 26, 27, 28, 29, 37, 38, 39, 40] (by decide +kernel) (by decide +kernel)
set_option maxRecDepth 20000 in
theorem gX3_addLamp_X2_add : GoodIn wsX3_addLamp (wsV RX3 56 RX2 yX2_add wsX2_add) := goodIn_app (goodIn_of _ (by decide +kernel)) ggX3_addLamp_X2_add
theorem dX3_addLamp_0 : decode cX3_addLamp 0 = .ok (.iload_n 1, 1) := by decide +kernel
theorem dX3_addLamp_1 : decode cX3_addLamp 1 = .ok (.iload_n 2, 1) := by decide +kernel
theorem dX3_addLamp_2 : decode cX3_addLamp 2 = .ok (.invokestatic 41, 3) := by decide +kernel
theorem dX3_addLamp_5 : decode cX3_addLamp 5 = .ok (.aload_n 0, 1) := by decide +kernel
theorem dX3_addLamp_6 : decode cX3_addLamp 6 = .ok (.getfield 10, 3) := by decide +kernel
theorem dX3_addLamp_9 : decode cX3_addLamp 9 = .ok (.invokevirtual 45, 3) := by decide +kernel
theorem dX3_addLamp_12 : decode cX3_addLamp 12 = .ok (.ifCond .eq 13, 3) := by decide +kernel
theorem dX3_addLamp_15 : decode cX3_addLamp 15 = .ok (.new 49, 3) := by decide +kernel
theorem dX3_addLamp_18 : decode cX3_addLamp 18 = .ok (.dup, 1) := by decide +kernel
theorem dX3_addLamp_19 : decode cX3_addLamp 19 = .ok (.ldc 51, 2) := by decide +kernel
theorem dX3_addLamp_21 : decode cX3_addLamp 21 = .ok (.invokespecial 53, 3) := by decide +kernel
theorem dX3_addLamp_24 : decode cX3_addLamp 24 = .ok (.athrow, 1) := by decide +kernel
theorem dX3_addLamp_25 : decode cX3_addLamp 25 = .ok (.aload_n 0, 1) := by decide +kernel
theorem dX3_addLamp_26 : decode cX3_addLamp 26 = .ok (.getfield 10, 3) := by decide +kernel
theorem dX3_addLamp_29 : decode cX3_addLamp 29 = .ok (.iload_n 1, 1) := by decide +kernel
theorem dX3_addLamp_30 : decode cX3_addLamp 30 = .ok (.iload_n 2, 1) := by decide +kernel
theorem dX3_addLamp_31 : decode cX3_addLamp 31 = .ok (.invokevirtual 56, 3) := by decide +kernel
theorem dX3_addLamp_34 : decode cX3_addLamp 34 = .ok (.ireturn, 1) := by decide +kernel
set_option maxRecDepth 20000 in
theorem ggX3_swap_X3_needLamp : GoodIn wsX3_swap wsX3_needLamp := goodIn_ca (goodIn_r _ [7, 8, 9, 2, 10, 11, 12, 13, 14, 15, 55, 56, 57, 58, 59, 60, 61, 62, 63, 64, 65] (by decide +kernel) (by decide +kernel)) (goodIn_sub (fun _ h => List.mem_cons_of_mem _ (List.mem_append_left _ (List.mem_append_right _ h))) (by decide +kernel))
set_option maxRecDepth 20000 in
theorem gX3_swap_X3_needLamp : GoodIn wsX3_swap (wsV RX3 60 RX3 yX3_needLamp wsX3_needLamp) := goodIn_app (goodIn_of _ (by decide +kernel)) ggX3_swap_X3_needLamp
set_option maxRecDepth 20000 in
theorem ggX3_swap_X3_needLampKind : GoodIn wsX3_swap wsX3_needLampKind := goodIn_ca (goodIn_r _ [18, 19, 20] (by decide +kernel) (by decide +kernel)) (goodIn_sub (fun _ h => List.mem_cons_of_mem _ (List.mem_append_right _ h)) (by decide +kernel))
set_option maxRecDepth 20000 in
theorem gX3_swap_X3_needLampKind : GoodIn wsX3_swap (va_wsS RX3 41 yX3_needLampKind wsX3_needLampKind) := goodIn_app (goodIn_of _ (by decide +kernel)) ggX3_swap_X3_needLampKind
set_option maxRecDepth 20000 in
theorem ggX3_swap_X2_powerOf : GoodIn wsX3_swap wsX2_powerOf := goodIn_r _ [24, 25, 26, 11, 12, 13, 14, 15, 62, 63, 64, 65] (by decide +kernel) (by decide +kernel)
set_option maxRecDepth 20000 in
theorem gX3_swap_X2_powerOf : GoodIn wsX3_swap (wsV RX3 64 RX2 yX2_powerOf wsX2_powerOf) := goodIn_app (goodIn_of _ (by decide +kernel)) ggX3_swap_X2_powerOf
set_option maxRecDepth 20000 in
theorem ggX3_swap_X2_gelOf : GoodIn wsX3_swap wsX2_gelOf := goodIn_r _ [30, 31, 26, 11, 12, 13, 14, 15, 62, 63, 64, 65] (by decide +kernel) (by decide +kernel)
set_option maxRecDepth 20000 in
theorem gX3_swap_X2_gelOf : GoodIn wsX3_swap (wsV RX3 68 RX2 yX2_gelOf wsX2_gelOf) := goodIn_app (goodIn_of _ (by decide +kernel)) ggX3_swap_X2_gelOf
set_option maxRecDepth 20000 in
theorem ggX3_swap_X1_note : GoodIn wsX3_swap wsX1_note := goodIn_r _ [36, 37, 38, 39, 40, 41, 42, 43, 44, 45, 35, 46, 47, 48, 49, 50, 66, 67, 68] (by decide +kernel) (by decide +kernel)
set_option maxRecDepth 20000 in
theorem gX3_swap_X1_note : GoodIn wsX3_swap (wsV RX3 71 RX1 yX1_note wsX1_note) := goodIn_app (goodIn_of _ (by decide +kernel)) ggX3_swap_X1_note
set_option maxRecDepth 20000 in
theorem ggX3_swap_X2_setKind : GoodIn wsX3_swap wsX2_setKind := goodIn_r _ [54, 25, 31, 26, 11, 12, 13, 14, 15, 62, 63, 64, 65] (by decide +kernel) (by decide +kernel)
set_option maxRecDepth 20000 in
theorem gX3_swap_X2_setKind : GoodIn wsX3_swap (wsV RX3 75 RX2 yX2_setKind wsX2_setKind) := goodIn_app (goodIn_of _ (by decide +kernel)) ggX3_swap_X2_setKind
theorem dX3_swap_0 : decode cX3_swap 0 = .ok (.aload_n 0, 1) := by decide +kernel
theorem dX3_swap_1 : decode cX3_swap 1 = .ok (.iload_n 1, 1) := by decide +kernel
theorem dX3_swap_2 : decode cX3_swap 2 = .ok (.invokevirtual 60, 3) := by decide +kernel
theorem dX3_swap_5 : decode cX3_swap 5 = .ok (.iload_n 2, 1) := by decide +kernel
theorem dX3_swap_6 : decode cX3_swap 6 = .ok (.iload_n 3, 1) := by decide +kernel
theorem dX3_swap_7 : decode cX3_swap 7 = .ok (.invokestatic 41, 3) := by decide +kernel
theorem dX3_swap_10 : decode cX3_swap 10 = .ok (.aload_n 0, 1) := by decide +kernel
theorem dX3_swap_11 : decode cX3_swap 11 = .ok (.getfield 29, 3) := by decide +kernel
theorem dX3_swap_14 : decode cX3_swap 14 = .ok (.iconst 0, 1) := by decide +kernel
theorem dX3_swap_15 : decode cX3_swap 15 = .ok (.iload_n 1, 1) := by decide +kernel
theorem dX3_swap_16 : decode cX3_swap 16 = .ok (.aload_n 0, 1) := by decide +kernel
theorem dX3_swap_17 : decode cX3_swap 17 = .ok (.getfield 10, 3) := by decide +kernel
theorem dX3_swap_20 : decode cX3_swap 20 = .ok (.iload_n 1, 1) := by decide +kernel
theorem dX3_swap_21 : decode cX3_swap 21 = .ok (.invokevirtual 64, 3) := by decide +kernel
theorem dX3_swap_24 : decode cX3_swap 24 = .ok (.aload_n 0, 1) := by decide +kernel
theorem dX3_swap_25 : decode cX3_swap 25 = .ok (.getfield 10, 3) := by decide +kernel
theorem dX3_swap_28 : decode cX3_swap 28 = .ok (.iload_n 1, 1) := by decide +kernel
theorem dX3_swap_29 : decode cX3_swap 29 = .ok (.invokevirtual 68, 3) := by decide +kernel
theorem dX3_swap_32 : decode cX3_swap 32 = .ok (.iconst 0, 1) := by decide +kernel
theorem dX3_swap_33 : decode cX3_swap 33 = .ok (.invokevirtual 71, 3) := by decide +kernel
theorem dX3_swap_36 : decode cX3_swap 36 = .ok (.aload_n 0, 1) := by decide +kernel
theorem dX3_swap_37 : decode cX3_swap 37 = .ok (.getfield 10, 3) := by decide +kernel
theorem dX3_swap_40 : decode cX3_swap 40 = .ok (.iload_n 1, 1) := by decide +kernel
theorem dX3_swap_41 : decode cX3_swap 41 = .ok (.iload_n 2, 1) := by decide +kernel
theorem dX3_swap_42 : decode cX3_swap 42 = .ok (.iload_n 3, 1) := by decide +kernel
theorem dX3_swap_43 : decode cX3_swap 43 = .ok (.invokevirtual 75, 3) := by decide +kernel
theorem dX3_swap_46 : decode cX3_swap 46 = .ok (.return_, 1) := by decide +kernel
set_option maxRecDepth 20000 in
theorem ggX3_hang_X3_needLamp : GoodIn wsX3_hang wsX3_needLamp := goodIn_ca (goodIn_r _ [7, 8, 9, 1, 10, 11, 12, 13, 14, 15, 62, 63, 64, 65, 66, 67, 68, 69, 70, 71, 72] (by decide +kernel) (by decide +kernel)) (goodIn_sub (fun _ h => List.mem_cons_of_mem _ (List.mem_append_left _ (List.mem_append_right _ h))) (by decide +kernel))
set_option maxRecDepth 20000 in
theorem gX3_hang_X3_needLamp : GoodIn wsX3_hang (wsV RX3 60 RX3 yX3_needLamp wsX3_needLamp) := goodIn_app (goodIn_of _ (by decide +kernel)) ggX3_hang_X3_needLamp
set_option maxRecDepth 20000 in
theorem ggX3_hang_X3_needNight : GoodIn wsX3_hang wsX3_needNight := goodIn_ca (goodIn_r _ [18, 19, 20, 21, 22, 6, 23] (by decide +kernel) (by decide +kernel)) (goodIn_sub (fun _ h => List.mem_cons_of_mem _ (List.mem_append_right _ h)) (by decide +kernel))
set_option maxRecDepth 20000 in
theorem gX3_hang_X3_needNight : GoodIn wsX3_hang (va_wsS RX3 79 yX3_needNight wsX3_needNight) := goodIn_app (goodIn_of _ (by decide +kernel)) ggX3_hang_X3_needNight
set_option maxRecDepth 20000 in
theorem ggX3_hang_X3_needChannelOrNone : GoodIn wsX3_hang wsX3_needChannelOrNone := goodIn_ca (goodIn_r _ [26, 27, 28, 6, 29, 19, 20, 30, 31, 32] (by decide +kernel) (by decide +kernel)) (goodIn_sub (fun _ h => List.mem_cons_of_mem _ (List.mem_append_right _ h)) (by decide +kernel))
set_option maxRecDepth 20000 in
theorem gX3_hang_X3_needChannelOrNone : GoodIn wsX3_hang (va_wsS RX3 82 yX3_needChannelOrNone wsX3_needChannelOrNone) := goodIn_app (goodIn_of _ (by decide +kernel)) ggX3_hang_X3_needChannelOrNone
set_option maxRecDepth 20000 in
theorem ggX3_hang_X2_channelOf : GoodIn wsX3_hang wsX2_channelOf := goodIn_r _ [36, 37, 22, 6, 23, 38, 11, 12, 13, 14, 15, 69, 70, 71, 72] (by decide +kernel) (by decide +kernel)
set_option maxRecDepth 20000 in
theorem gX3_hang_X2_channelOf : GoodIn wsX3_hang (wsV RX3 85 RX2 yX2_channelOf wsX2_channelOf) := goodIn_app (goodIn_of _ (by decide +kernel)) ggX3_hang_X2_channelOf
set_option maxRecDepth 20000 in
theorem ggX3_hang_X1_note : GoodIn wsX3_hang wsX1_note := goodIn_r _ [43, 44, 45, 46, 47, 48, 49, 50, 51, 52, 42, 53, 54, 55, 56, 57, 73, 74, 75] (by decide +kernel) (by decide +kernel)
set_option maxRecDepth 20000 in
theorem gX3_hang_X1_note : GoodIn wsX3_hang (wsV RX3 71 RX1 yX1_note wsX1_note) := goodIn_app (goodIn_of _ (by decide +kernel)) ggX3_hang_X1_note
set_option maxRecDepth 20000 in
theorem ggX3_hang_X2_setChannel : GoodIn wsX3_hang wsX2_setChannel := goodIn_r _ [61, 37, 22, 6, 23, 38, 11, 12, 13, 14, 15, 69, 70, 71, 72] (by decide +kernel) (by decide +kernel)
set_option maxRecDepth 20000 in
theorem gX3_hang_X2_setChannel : GoodIn wsX3_hang (wsV RX3 88 RX2 yX2_setChannel wsX2_setChannel) := goodIn_app (goodIn_of _ (by decide +kernel)) ggX3_hang_X2_setChannel
theorem dX3_hang_0 : decode cX3_hang 0 = .ok (.aload_n 0, 1) := by decide +kernel
theorem dX3_hang_1 : decode cX3_hang 1 = .ok (.iload_n 2, 1) := by decide +kernel
theorem dX3_hang_2 : decode cX3_hang 2 = .ok (.invokevirtual 60, 3) := by decide +kernel
theorem dX3_hang_5 : decode cX3_hang 5 = .ok (.iload_n 1, 1) := by decide +kernel
theorem dX3_hang_6 : decode cX3_hang 6 = .ok (.invokestatic 79, 3) := by decide +kernel
theorem dX3_hang_9 : decode cX3_hang 9 = .ok (.iload_n 3, 1) := by decide +kernel
theorem dX3_hang_10 : decode cX3_hang 10 = .ok (.invokestatic 82, 3) := by decide +kernel
theorem dX3_hang_13 : decode cX3_hang 13 = .ok (.aload_n 0, 1) := by decide +kernel
theorem dX3_hang_14 : decode cX3_hang 14 = .ok (.getfield 10, 3) := by decide +kernel
theorem dX3_hang_17 : decode cX3_hang 17 = .ok (.iload_n 1, 1) := by decide +kernel
theorem dX3_hang_18 : decode cX3_hang 18 = .ok (.iload_n 2, 1) := by decide +kernel
theorem dX3_hang_19 : decode cX3_hang 19 = .ok (.invokevirtual 85, 3) := by decide +kernel
theorem dX3_hang_22 : decode cX3_hang 22 = .ok (.istore 4, 2) := by decide +kernel
theorem dX3_hang_24 : decode cX3_hang 24 = .ok (.aload_n 0, 1) := by decide +kernel
theorem dX3_hang_25 : decode cX3_hang 25 = .ok (.getfield 29, 3) := by decide +kernel
theorem dX3_hang_28 : decode cX3_hang 28 = .ok (.iconst 1, 1) := by decide +kernel
theorem dX3_hang_29 : decode cX3_hang 29 = .ok (.iload_n 1, 1) := by decide +kernel
theorem dX3_hang_30 : decode cX3_hang 30 = .ok (.iload_n 2, 1) := by decide +kernel
theorem dX3_hang_31 : decode cX3_hang 31 = .ok (.iload 4, 2) := by decide +kernel
theorem dX3_hang_33 : decode cX3_hang 33 = .ok (.iconst 0, 1) := by decide +kernel
theorem dX3_hang_34 : decode cX3_hang 34 = .ok (.invokevirtual 71, 3) := by decide +kernel
theorem dX3_hang_37 : decode cX3_hang 37 = .ok (.aload_n 0, 1) := by decide +kernel
theorem dX3_hang_38 : decode cX3_hang 38 = .ok (.getfield 10, 3) := by decide +kernel
theorem dX3_hang_41 : decode cX3_hang 41 = .ok (.iload_n 1, 1) := by decide +kernel
theorem dX3_hang_42 : decode cX3_hang 42 = .ok (.iload_n 2, 1) := by decide +kernel
theorem dX3_hang_43 : decode cX3_hang 43 = .ok (.iload_n 3, 1) := by decide +kernel
theorem dX3_hang_44 : decode cX3_hang 44 = .ok (.invokevirtual 88, 3) := by decide +kernel
theorem dX3_hang_47 : decode cX3_hang 47 = .ok (.iload 4, 2) := by decide +kernel
theorem dX3_hang_49 : decode cX3_hang 49 = .ok (.ireturn, 1) := by decide +kernel
set_option maxRecDepth 20000 in
theorem ggX3_setNight_X3_needNight : GoodIn wsX3_setNight wsX3_needNight := goodIn_ca (goodIn_r _ [5, 6, 7, 8, 9, 4, 10] (by decide +kernel) (by decide +kernel)) (goodIn_sub (fun _ h => List.mem_cons_of_mem _ (List.mem_append_right _ h)) (by decide +kernel))
set_option maxRecDepth 20000 in
theorem gX3_setNight_X3_needNight : GoodIn wsX3_setNight (va_wsS RX3 79 yX3_needNight wsX3_needNight) := goodIn_app (goodIn_of _ (by decide +kernel)) ggX3_setNight_X3_needNight
theorem dX3_setNight_0 : decode cX3_setNight 0 = .ok (.iload_n 1, 1) := by decide +kernel
theorem dX3_setNight_1 : decode cX3_setNight 1 = .ok (.invokestatic 79, 3) := by decide +kernel
theorem dX3_setNight_4 : decode cX3_setNight 4 = .ok (.aload_n 0, 1) := by decide +kernel
theorem dX3_setNight_5 : decode cX3_setNight 5 = .ok (.getfield 91, 3) := by decide +kernel
theorem dX3_setNight_8 : decode cX3_setNight 8 = .ok (.istore_n 2, 1) := by decide +kernel
theorem dX3_setNight_9 : decode cX3_setNight 9 = .ok (.aload_n 0, 1) := by decide +kernel
theorem dX3_setNight_10 : decode cX3_setNight 10 = .ok (.iload_n 1, 1) := by decide +kernel
theorem dX3_setNight_11 : decode cX3_setNight 11 = .ok (.putfield 91, 3) := by decide +kernel
theorem dX3_setNight_14 : decode cX3_setNight 14 = .ok (.iload_n 2, 1) := by decide +kernel
theorem dX3_setNight_15 : decode cX3_setNight 15 = .ok (.ireturn, 1) := by decide +kernel
set_option maxRecDepth 20000 in
theorem ggX3_setLatest_X3_needChannel : GoodIn wsX3_setLatest wsX3_needChannel := goodIn_ca (goodIn_r _ [5, 6, 7, 8, 9, 4, 10] (by decide +kernel) (by decide +kernel)) (goodIn_sub (fun _ h => List.mem_cons_of_mem _ (List.mem_append_right _ h)) (by decide +kernel))
set_option maxRecDepth 20000 in
theorem gX3_setLatest_X3_needChannel : GoodIn wsX3_setLatest (va_wsS RX3 95 yX3_needChannel wsX3_needChannel) := goodIn_app (goodIn_of _ (by decide +kernel)) ggX3_setLatest_X3_needChannel
theorem dX3_setLatest_0 : decode cX3_setLatest 0 = .ok (.iload_n 1, 1) := by decide +kernel
theorem dX3_setLatest_1 : decode cX3_setLatest 1 = .ok (.invokestatic 95, 3) := by decide +kernel
theorem dX3_setLatest_4 : decode cX3_setLatest 4 = .ok (.aload_n 0, 1) := by decide +kernel
theorem dX3_setLatest_5 : decode cX3_setLatest 5 = .ok (.getfield 33, 3) := by decide +kernel
theorem dX3_setLatest_8 : decode cX3_setLatest 8 = .ok (.iload_n 1, 1) := by decide +kernel
theorem dX3_setLatest_9 : decode cX3_setLatest 9 = .ok (.baload, 1) := by decide +kernel
theorem dX3_setLatest_10 : decode cX3_setLatest 10 = .ok (.istore_n 3, 1) := by decide +kernel
theorem dX3_setLatest_11 : decode cX3_setLatest 11 = .ok (.aload_n 0, 1) := by decide +kernel
theorem dX3_setLatest_12 : decode cX3_setLatest 12 = .ok (.getfield 33, 3) := by decide +kernel
theorem dX3_setLatest_15 : decode cX3_setLatest 15 = .ok (.iload_n 1, 1) := by decide +kernel
theorem dX3_setLatest_16 : decode cX3_setLatest 16 = .ok (.iload_n 2, 1) := by decide +kernel
theorem dX3_setLatest_17 : decode cX3_setLatest 17 = .ok (.bastore, 1) := by decide +kernel
theorem dX3_setLatest_18 : decode cX3_setLatest 18 = .ok (.iload_n 3, 1) := by decide +kernel
theorem dX3_setLatest_19 : decode cX3_setLatest 19 = .ok (.ireturn, 1) := by decide +kernel
set_option maxRecDepth 20000 in
theorem ggX3_addCue_X3_needList : GoodIn wsX3_addCue wsX3_needList := goodIn_ca (goodIn_r _ [6, 7, 8] (by decide +kernel) (by decide +kernel)) (goodIn_sub (fun _ h => List.mem_cons_of_mem _ (List.mem_append_right _ h)) (by decide +kernel))
set_option maxRecDepth 20000 in
theorem gX3_addCue_X3_needList : GoodIn wsX3_addCue (va_wsS RX3 98 yX3_needList wsX3_needList) := goodIn_app (goodIn_of _ (by decide +kernel)) ggX3_addCue_X3_needList
set_option maxRecDepth 20000 in
theorem ggX3_addCue_X3_needTenths : GoodIn wsX3_addCue wsX3_needTenths := goodIn_ca (goodIn_r _ [11, 7, 8] (by decide +kernel) (by decide +kernel)) (goodIn_sub (fun _ h => List.mem_cons_of_mem _ (List.mem_append_right _ h)) (by decide +kernel))
set_option maxRecDepth 20000 in
theorem gX3_addCue_X3_needTenths : GoodIn wsX3_addCue (va_wsS RX3 101 yX3_needTenths wsX3_needTenths) := goodIn_app (goodIn_of _ (by decide +kernel)) ggX3_addCue_X3_needTenths
set_option maxRecDepth 20000 in
theorem ggX3_addCue_X3_cuesOf : GoodIn wsX3_addCue wsX3_cuesOf := goodIn_r _ [15, 16, 17, 31, 32, 33, 34, 35, 36, 37] (by decide +kernel) (by decide +kernel)
set_option maxRecDepth 20000 in
theorem gX3_addCue_X3_cuesOf : GoodIn wsX3_addCue (wsV RX3 104 RX3 yX3_cuesOf wsX3_cuesOf) := goodIn_app (goodIn_of _ (by decide +kernel)) ggX3_addCue_X3_cuesOf
set_option maxRecDepth 20000 in
theorem ggX3_addCue_X0_isFull : GoodIn wsX3_addCue wsX0_isFull := goodIn_r _ [22, 23, 38, 39, 40, 41, 42, 43, 44, 45, 46] (by decide +kernel) (by decide +kernel)
set_option maxRecDepth 20000 in
theorem gX3_addCue_X0_isFull : GoodIn wsX3_addCue (wsV RX3 108 RX0 yX0_isFull wsX0_isFull) := goodIn_app (goodIn_of _ (by decide +kernel)) ggX3_addCue_X0_isFull
set_option maxRecDepth 20000 in
theorem ggX3_addCue_X0_add : GoodIn wsX3_addCue wsX0_add := goodIn_r _ [27, 23, 28, 29, 30, 38, 39, 40, 41, 42, 43, 44, 45, 46] (by decide +kernel) (by decide +kernel)
set_option maxRecDepth 20000 in
theorem gX3_addCue_X0_add : GoodIn wsX3_addCue (wsV RX3 111 RX0 yX0_add wsX0_add) := goodIn_app (goodIn_of _ (by decide +kernel)) ggX3_addCue_X0_add
theorem dX3_addCue_0 : decode cX3_addCue 0 = .ok (.iload_n 1, 1) := by decide +kernel
theorem dX3_addCue_1 : decode cX3_addCue 1 = .ok (.invokestatic 98, 3) := by decide +kernel
theorem dX3_addCue_4 : decode cX3_addCue 4 = .ok (.iload_n 2, 1) := by decide +kernel
theorem dX3_addCue_5 : decode cX3_addCue 5 = .ok (.invokestatic 101, 3) := by decide +kernel
theorem dX3_addCue_8 : decode cX3_addCue 8 = .ok (.iload_n 3, 1) := by decide +kernel
theorem dX3_addCue_9 : decode cX3_addCue 9 = .ok (.invokestatic 101, 3) := by decide +kernel
theorem dX3_addCue_12 : decode cX3_addCue 12 = .ok (.aload_n 0, 1) := by decide +kernel
theorem dX3_addCue_13 : decode cX3_addCue 13 = .ok (.iload_n 1, 1) := by decide +kernel
theorem dX3_addCue_14 : decode cX3_addCue 14 = .ok (.invokevirtual 104, 3) := by decide +kernel
theorem dX3_addCue_17 : decode cX3_addCue 17 = .ok (.astore 5, 2) := by decide +kernel
theorem dX3_addCue_19 : decode cX3_addCue 19 = .ok (.aload 5, 2) := by decide +kernel
theorem dX3_addCue_21 : decode cX3_addCue 21 = .ok (.invokevirtual 108, 3) := by decide +kernel
theorem dX3_addCue_24 : decode cX3_addCue 24 = .ok (.ifCond .eq 13, 3) := by decide +kernel
theorem dX3_addCue_27 : decode cX3_addCue 27 = .ok (.new 49, 3) := by decide +kernel
theorem dX3_addCue_30 : decode cX3_addCue 30 = .ok (.dup, 1) := by decide +kernel
theorem dX3_addCue_31 : decode cX3_addCue 31 = .ok (.ldc 109, 2) := by decide +kernel
theorem dX3_addCue_33 : decode cX3_addCue 33 = .ok (.invokespecial 53, 3) := by decide +kernel
theorem dX3_addCue_36 : decode cX3_addCue 36 = .ok (.athrow, 1) := by decide +kernel
theorem dX3_addCue_37 : decode cX3_addCue 37 = .ok (.aload 5, 2) := by decide +kernel
theorem dX3_addCue_39 : decode cX3_addCue 39 = .ok (.iload_n 2, 1) := by decide +kernel
theorem dX3_addCue_40 : decode cX3_addCue 40 = .ok (.iload_n 3, 1) := by decide +kernel
theorem dX3_addCue_41 : decode cX3_addCue 41 = .ok (.iload 4, 2) := by decide +kernel
theorem dX3_addCue_43 : decode cX3_addCue 43 = .ok (.invokevirtual 111, 3) := by decide +kernel
theorem dX3_addCue_46 : decode cX3_addCue 46 = .ok (.ireturn, 1) := by decide +kernel
set_option maxRecDepth 20000 in
theorem ggX3_setLevel_X3_needList : GoodIn wsX3_setLevel wsX3_needList := goodIn_ca (goodIn_r _ [5, 6, 7] (by decide +kernel) (by decide +kernel)) (goodIn_sub (fun _ h => List.mem_cons_of_mem _ (List.mem_append_left _ (List.mem_append_right _ h))) (by decide +kernel))
set_option maxRecDepth 20000 in
theorem gX3_setLevel_X3_needList : GoodIn wsX3_setLevel (va_wsS RX3 98 yX3_needList wsX3_needList) := goodIn_app (goodIn_of _ (by decide +kernel)) ggX3_setLevel_X3_needList
set_option maxRecDepth 20000 in
theorem ggX3_setLevel_X3_needChannel : GoodIn wsX3_setLevel wsX3_needChannel := goodIn_ca (goodIn_r _ [10, 6, 7, 11, 12, 4, 13] (by decide +kernel) (by decide +kernel)) (goodIn_sub (fun _ h => List.mem_cons_of_mem _ (List.mem_append_left _ (List.mem_append_right _ h))) (by decide +kernel))
set_option maxRecDepth 20000 in
theorem gX3_setLevel_X3_needChannel : GoodIn wsX3_setLevel (va_wsS RX3 95 yX3_needChannel wsX3_needChannel) := goodIn_app (goodIn_of _ (by decide +kernel)) ggX3_setLevel_X3_needChannel
set_option maxRecDepth 20000 in
theorem ggX3_setLevel_X3_needLevelOrNone : GoodIn wsX3_setLevel wsX3_needLevelOrNone := goodIn_ca (goodIn_r _ [16, 6, 7] (by decide +kernel) (by decide +kernel)) (goodIn_sub (fun _ h => List.mem_cons_of_mem _ (List.mem_append_left _ (List.mem_append_right _ h))) (by decide +kernel))
set_option maxRecDepth 20000 in
theorem gX3_setLevel_X3_needLevelOrNone : GoodIn wsX3_setLevel (va_wsS RX3 114 yX3_needLevelOrNone wsX3_needLevelOrNone) := goodIn_app (goodIn_of _ (by decide +kernel)) ggX3_setLevel_X3_needLevelOrNone
set_option maxRecDepth 20000 in
theorem ggX3_setLevel_X3_needCue : GoodIn wsX3_setLevel wsX3_needCue := goodIn_ca (goodIn_r _ [20, 21, 22, 23, 24, 25, 4, 26, 27, 28, 29, 30, 31, 32, 33, 34, 64, 65, 66, 67, 68, 69, 70, 71, 72, 73, 74, 75, 76, 77, 78, 79] (by decide +kernel) (by decide +kernel)) (goodIn_sub (fun _ h => List.mem_cons_of_mem _ (List.mem_append_right _ h)) (by decide +kernel))
set_option maxRecDepth 20000 in
theorem gX3_setLevel_X3_needCue : GoodIn wsX3_setLevel (wsV RX3 117 RX3 yX3_needCue wsX3_needCue) := goodIn_app (goodIn_of _ (by decide +kernel)) ggX3_setLevel_X3_needCue
set_option maxRecDepth 20000 in
theorem ggX3_setLevel_X3_cuesOf : GoodIn wsX3_setLevel wsX3_cuesOf := goodIn_r _ [26, 27, 28, 64, 65, 66, 67, 68, 69, 70] (by decide +kernel) (by decide +kernel)
set_option maxRecDepth 20000 in
theorem gX3_setLevel_X3_cuesOf : GoodIn wsX3_setLevel (wsV RX3 104 RX3 yX3_cuesOf wsX3_cuesOf) := goodIn_app (goodIn_of _ (by decide +kernel)) ggX3_setLevel_X3_cuesOf
set_option maxRecDepth 20000 in
theorem ggX3_setLevel_X0_told : GoodIn wsX3_setLevel wsX0_told := goodIn_r _ [38, 39, 40, 30, 31, 32, 33, 34, 12, 4, 13, 71, 72, 73, 74, 75, 76, 77, 78, 79] (by decide +kernel) (by decide +kernel)
set_option maxRecDepth 20000 in
theorem gX3_setLevel_X0_told : GoodIn wsX3_setLevel (wsV RX3 120 RX0 yX0_told wsX0_told) := goodIn_app (goodIn_of _ (by decide +kernel)) ggX3_setLevel_X0_told
set_option maxRecDepth 20000 in
theorem ggX3_setLevel_X1_note : GoodIn wsX3_setLevel wsX1_note := goodIn_r _ [45, 46, 47, 48, 49, 50, 51, 52, 53, 54, 44, 55, 56, 57, 58, 59, 80, 81, 82] (by decide +kernel) (by decide +kernel)
set_option maxRecDepth 20000 in
theorem gX3_setLevel_X1_note : GoodIn wsX3_setLevel (wsV RX3 71 RX1 yX1_note wsX1_note) := goodIn_app (goodIn_of _ (by decide +kernel)) ggX3_setLevel_X1_note
set_option maxRecDepth 20000 in
theorem ggX3_setLevel_X0_tell : GoodIn wsX3_setLevel wsX0_tell := goodIn_r _ [63, 39, 40, 30, 31, 32, 33, 34, 12, 4, 13, 71, 72, 73, 74, 75, 76, 77, 78, 79] (by decide +kernel) (by decide +kernel)
set_option maxRecDepth 20000 in
theorem gX3_setLevel_X0_tell : GoodIn wsX3_setLevel (wsV RX3 123 RX0 yX0_tell wsX0_tell) := goodIn_app (goodIn_of _ (by decide +kernel)) ggX3_setLevel_X0_tell
theorem dX3_setLevel_0 : decode cX3_setLevel 0 = .ok (.iload_n 1, 1) := by decide +kernel
theorem dX3_setLevel_1 : decode cX3_setLevel 1 = .ok (.invokestatic 98, 3) := by decide +kernel
theorem dX3_setLevel_4 : decode cX3_setLevel 4 = .ok (.iload_n 3, 1) := by decide +kernel
theorem dX3_setLevel_5 : decode cX3_setLevel 5 = .ok (.invokestatic 95, 3) := by decide +kernel
theorem dX3_setLevel_8 : decode cX3_setLevel 8 = .ok (.iload 4, 2) := by decide +kernel
theorem dX3_setLevel_10 : decode cX3_setLevel 10 = .ok (.invokestatic 114, 3) := by decide +kernel
theorem dX3_setLevel_13 : decode cX3_setLevel 13 = .ok (.aload_n 0, 1) := by decide +kernel
theorem dX3_setLevel_14 : decode cX3_setLevel 14 = .ok (.iload_n 1, 1) := by decide +kernel
theorem dX3_setLevel_15 : decode cX3_setLevel 15 = .ok (.iload_n 2, 1) := by decide +kernel
theorem dX3_setLevel_16 : decode cX3_setLevel 16 = .ok (.invokevirtual 117, 3) := by decide +kernel
theorem dX3_setLevel_19 : decode cX3_setLevel 19 = .ok (.aload_n 0, 1) := by decide +kernel
theorem dX3_setLevel_20 : decode cX3_setLevel 20 = .ok (.iload_n 1, 1) := by decide +kernel
theorem dX3_setLevel_21 : decode cX3_setLevel 21 = .ok (.invokevirtual 104, 3) := by decide +kernel
theorem dX3_setLevel_24 : decode cX3_setLevel 24 = .ok (.astore 5, 2) := by decide +kernel
theorem dX3_setLevel_26 : decode cX3_setLevel 26 = .ok (.aload 5, 2) := by decide +kernel
theorem dX3_setLevel_28 : decode cX3_setLevel 28 = .ok (.iload_n 2, 1) := by decide +kernel
theorem dX3_setLevel_29 : decode cX3_setLevel 29 = .ok (.iload_n 3, 1) := by decide +kernel
theorem dX3_setLevel_30 : decode cX3_setLevel 30 = .ok (.invokevirtual 120, 3) := by decide +kernel
theorem dX3_setLevel_33 : decode cX3_setLevel 33 = .ok (.istore 6, 2) := by decide +kernel
theorem dX3_setLevel_35 : decode cX3_setLevel 35 = .ok (.aload_n 0, 1) := by decide +kernel
theorem dX3_setLevel_36 : decode cX3_setLevel 36 = .ok (.getfield 29, 3) := by decide +kernel
theorem dX3_setLevel_39 : decode cX3_setLevel 39 = .ok (.iconst 2, 1) := by decide +kernel
theorem dX3_setLevel_40 : decode cX3_setLevel 40 = .ok (.iload_n 1, 1) := by decide +kernel
theorem dX3_setLevel_41 : decode cX3_setLevel 41 = .ok (.iload_n 2, 1) := by decide +kernel
theorem dX3_setLevel_42 : decode cX3_setLevel 42 = .ok (.iload_n 3, 1) := by decide +kernel
theorem dX3_setLevel_43 : decode cX3_setLevel 43 = .ok (.iload 6, 2) := by decide +kernel
theorem dX3_setLevel_45 : decode cX3_setLevel 45 = .ok (.invokevirtual 71, 3) := by decide +kernel
theorem dX3_setLevel_48 : decode cX3_setLevel 48 = .ok (.aload 5, 2) := by decide +kernel
theorem dX3_setLevel_50 : decode cX3_setLevel 50 = .ok (.iload_n 2, 1) := by decide +kernel
theorem dX3_setLevel_51 : decode cX3_setLevel 51 = .ok (.iload_n 3, 1) := by decide +kernel
theorem dX3_setLevel_52 : decode cX3_setLevel 52 = .ok (.iload 4, 2) := by decide +kernel
theorem dX3_setLevel_54 : decode cX3_setLevel 54 = .ok (.invokevirtual 123, 3) := by decide +kernel
theorem dX3_setLevel_57 : decode cX3_setLevel 57 = .ok (.iload 6, 2) := by decide +kernel
theorem dX3_setLevel_59 : decode cX3_setLevel 59 = .ok (.ireturn, 1) := by decide +kernel
set_option maxRecDepth 20000 in
theorem ggX3_undo_X1_isEmpty : GoodIn wsX3_undo wsX1_isEmpty := goodIn_r _ [8, 9, 86, 87, 88] (by decide +kernel) (by decide +kernel)
set_option maxRecDepth 20000 in
theorem gX3_undo_X1_isEmpty : GoodIn wsX3_undo (wsV RX3 126 RX1 yX1_isEmpty wsX1_isEmpty) := goodIn_app (goodIn_of _ (by decide +kernel)) ggX3_undo_X1_isEmpty
set_option maxRecDepth 20000 in
theorem ggX3_undo_X3_takeBackLast : GoodIn wsX3_undo wsX3_takeBackLast := goodIn_r _ [14, 3, 15, 16, 17, 18, 7, 19, 20, 21, 22, 23, 24, 25, 26, 27, 28, 29, 30, 31, 32, 33, 34, 35, 36, 37, 38, 39, 40, 41, 42, 43, 44, 45, 46, 13, 47, 48, 49, 50, 51, 52, 53, 54, 55, 56, 57, 58, 59, 60, 61, 62, 63, 64, 65, 66, 79, 80, 81, 82, 83, 84, 85, 86, 87, 88, 89, 90, 91, 92, 93, 94, 95, 96, 97, 98, 99, 100, 101] (by decide +kernel) (by decide +kernel)
set_option maxRecDepth 20000 in
theorem gX3_undo_X3_takeBackLast : GoodIn wsX3_undo (wsV RX3 131 RX3 yX3_takeBackLast wsX3_takeBackLast) := goodIn_app (goodIn_of _ (by decide +kernel)) ggX3_undo_X3_takeBackLast
set_option maxRecDepth 20000 in
theorem ggX3_undo_X1_dropLast : GoodIn wsX3_undo wsX1_dropLast := goodIn_r _ [70, 25, 9, 71, 72, 73, 74, 21, 22, 23, 7, 24, 86, 87, 88] (by decide +kernel) (by decide +kernel)
set_option maxRecDepth 20000 in
theorem gX3_undo_X1_dropLast : GoodIn wsX3_undo (wsV RX3 134 RX1 yX1_dropLast wsX1_dropLast) := goodIn_app (goodIn_of _ (by decide +kernel)) ggX3_undo_X1_dropLast
set_option maxRecDepth 20000 in
theorem ggX3_undo_X1_size : GoodIn wsX3_undo wsX1_size := goodIn_r _ [78, 9, 86, 87, 88] (by decide +kernel) (by decide +kernel)
set_option maxRecDepth 20000 in
theorem gX3_undo_X1_size : GoodIn wsX3_undo (wsV RX3 137 RX1 yX1_size wsX1_size) := goodIn_app (goodIn_of _ (by decide +kernel)) ggX3_undo_X1_size
theorem dX3_undo_0 : decode cX3_undo 0 = .ok (.aload_n 0, 1) := by decide +kernel
theorem dX3_undo_1 : decode cX3_undo 1 = .ok (.getfield 29, 3) := by decide +kernel
theorem dX3_undo_4 : decode cX3_undo 4 = .ok (.invokevirtual 126, 3) := by decide +kernel
theorem dX3_undo_7 : decode cX3_undo 7 = .ok (.ifCond .eq 13, 3) := by decide +kernel
theorem dX3_undo_10 : decode cX3_undo 10 = .ok (.new 49, 3) := by decide +kernel
theorem dX3_undo_13 : decode cX3_undo 13 = .ok (.dup, 1) := by decide +kernel
theorem dX3_undo_14 : decode cX3_undo 14 = .ok (.ldc 129, 2) := by decide +kernel
theorem dX3_undo_16 : decode cX3_undo 16 = .ok (.invokespecial 53, 3) := by decide +kernel
theorem dX3_undo_19 : decode cX3_undo 19 = .ok (.athrow, 1) := by decide +kernel
theorem dX3_undo_20 : decode cX3_undo 20 = .ok (.aload_n 0, 1) := by decide +kernel
theorem dX3_undo_21 : decode cX3_undo 21 = .ok (.invokevirtual 131, 3) := by decide +kernel
theorem dX3_undo_24 : decode cX3_undo 24 = .ok (.aload_n 0, 1) := by decide +kernel
theorem dX3_undo_25 : decode cX3_undo 25 = .ok (.getfield 29, 3) := by decide +kernel
theorem dX3_undo_28 : decode cX3_undo 28 = .ok (.invokevirtual 134, 3) := by decide +kernel
theorem dX3_undo_31 : decode cX3_undo 31 = .ok (.aload_n 0, 1) := by decide +kernel
theorem dX3_undo_32 : decode cX3_undo 32 = .ok (.getfield 29, 3) := by decide +kernel
theorem dX3_undo_35 : decode cX3_undo 35 = .ok (.invokevirtual 137, 3) := by decide +kernel
theorem dX3_undo_38 : decode cX3_undo 38 = .ok (.ireturn, 1) := by decide +kernel
set_option maxRecDepth 20000 in
theorem ggX3_go_X3_needList : GoodIn wsX3_go wsX3_needList := goodIn_ca (goodIn_r _ [4, 5, 6] (by decide +kernel) (by decide +kernel)) (goodIn_sub (fun _ h => List.mem_cons_of_mem _ (List.mem_append_left _ (List.mem_append_right _ h))) (by decide +kernel))
set_option maxRecDepth 20000 in
theorem gX3_go_X3_needList : GoodIn wsX3_go (va_wsS RX3 98 yX3_needList wsX3_needList) := goodIn_app (goodIn_of _ (by decide +kernel)) ggX3_go_X3_needList
set_option maxRecDepth 20000 in
theorem ggX3_go_X3_needCue : GoodIn wsX3_go wsX3_needCue := goodIn_ca (goodIn_r _ [10, 11, 12, 13, 14, 15, 3, 16, 17, 18, 19, 20, 21, 22, 23, 24, 70, 71, 72, 73, 74, 75, 76, 77, 78, 79, 80, 81, 82, 83, 84, 85] (by decide +kernel) (by decide +kernel)) (goodIn_sub (fun _ h => List.mem_cons_of_mem _ (List.mem_append_right _ h)) (by decide +kernel))
set_option maxRecDepth 20000 in
theorem gX3_go_X3_needCue : GoodIn wsX3_go (wsV RX3 117 RX3 yX3_needCue wsX3_needCue) := goodIn_app (goodIn_of _ (by decide +kernel)) ggX3_go_X3_needCue
set_option maxRecDepth 20000 in
theorem ggX3_go_X3_cuesOf : GoodIn wsX3_go wsX3_cuesOf := goodIn_r _ [16, 17, 18, 70, 71, 72, 73, 74, 75, 76] (by decide +kernel) (by decide +kernel)
set_option maxRecDepth 20000 in
theorem gX3_go_X3_cuesOf : GoodIn wsX3_go (wsV RX3 104 RX3 yX3_cuesOf wsX3_cuesOf) := goodIn_app (goodIn_of _ (by decide +kernel)) ggX3_go_X3_cuesOf
set_option maxRecDepth 20000 in
theorem ggX3_go_X0_countTold : GoodIn wsX3_go wsX0_countTold := goodIn_r _ [28, 29, 30, 31, 22, 32, 33, 34, 20, 21, 23, 24, 35, 3, 36, 77, 78, 79, 80, 81, 82, 83, 84, 85] (by decide +kernel) (by decide +kernel)
set_option maxRecDepth 20000 in
theorem gX3_go_X0_countTold : GoodIn wsX3_go (wsV RX3 141 RX0 yX0_countTold wsX0_countTold) := goodIn_app (goodIn_of _ (by decide +kernel)) ggX3_go_X0_countTold
set_option maxRecDepth 20000 in
theorem ggX3_go_X3_beginFrom : GoodIn wsX3_go wsX3_beginFrom := goodIn_r _ [40, 13, 14, 15, 3, 16, 17, 18, 41, 42, 43, 22, 44, 45, 46, 47, 48, 49, 50, 51, 52, 53, 54, 34, 20, 21, 23, 24, 35, 36, 29, 30, 31, 32, 33, 55, 56, 57, 58, 59, 60, 61, 62, 63, 64, 65, 66, 67, 68, 69, 70, 71, 72, 73, 74, 75, 76, 77, 78, 79, 80, 81, 82, 83, 84, 85] (by decide +kernel) (by decide +kernel)
set_option maxRecDepth 20000 in
theorem gX3_go_X3_beginFrom : GoodIn wsX3_go (wsV RX3 144 RX3 yX3_beginFrom wsX3_beginFrom) := goodIn_app (goodIn_of _ (by decide +kernel)) ggX3_go_X3_beginFrom
theorem dX3_go_0 : decode cX3_go 0 = .ok (.iload_n 1, 1) := by decide +kernel
theorem dX3_go_1 : decode cX3_go 1 = .ok (.invokestatic 98, 3) := by decide +kernel
theorem dX3_go_4 : decode cX3_go 4 = .ok (.aload_n 0, 1) := by decide +kernel
theorem dX3_go_5 : decode cX3_go 5 = .ok (.iload_n 1, 1) := by decide +kernel
theorem dX3_go_6 : decode cX3_go 6 = .ok (.iload_n 2, 1) := by decide +kernel
theorem dX3_go_7 : decode cX3_go 7 = .ok (.invokevirtual 117, 3) := by decide +kernel
theorem dX3_go_10 : decode cX3_go 10 = .ok (.aload_n 0, 1) := by decide +kernel
theorem dX3_go_11 : decode cX3_go 11 = .ok (.iload_n 1, 1) := by decide +kernel
theorem dX3_go_12 : decode cX3_go 12 = .ok (.invokevirtual 104, 3) := by decide +kernel
theorem dX3_go_15 : decode cX3_go 15 = .ok (.iload_n 2, 1) := by decide +kernel
theorem dX3_go_16 : decode cX3_go 16 = .ok (.invokevirtual 141, 3) := by decide +kernel
theorem dX3_go_19 : decode cX3_go 19 = .ok (.istore_n 3, 1) := by decide +kernel
theorem dX3_go_20 : decode cX3_go 20 = .ok (.aload_n 0, 1) := by decide +kernel
theorem dX3_go_21 : decode cX3_go 21 = .ok (.iload_n 1, 1) := by decide +kernel
theorem dX3_go_22 : decode cX3_go 22 = .ok (.iload_n 2, 1) := by decide +kernel
theorem dX3_go_23 : decode cX3_go 23 = .ok (.invokevirtual 144, 3) := by decide +kernel
theorem dX3_go_26 : decode cX3_go 26 = .ok (.pop, 1) := by decide +kernel
theorem dX3_go_27 : decode cX3_go 27 = .ok (.iload_n 3, 1) := by decide +kernel
theorem dX3_go_28 : decode cX3_go 28 = .ok (.ireturn, 1) := by decide +kernel
set_option maxRecDepth 20000 in
theorem ggX3_pass_X3_passTenth : GoodIn wsX3_pass wsX3_passTenth := goodIn_r _ [7, 8, 9, 10, 6, 11, 12, 13, 14, 15, 16, 17, 18, 19, 20, 21, 22, 23, 24, 25, 26, 27, 28, 29, 30, 31, 32, 33, 34, 35, 36, 37, 38, 39, 40, 41, 42, 43, 44, 45, 46, 47, 48, 49, 50, 51, 52, 53, 54, 55, 56, 57, 58, 59, 60, 61, 62, 63, 64, 65, 66, 67, 68, 69, 70, 71, 72, 73, 74, 75, 76, 77, 78, 79, 80] (by decide +kernel) (by decide +kernel)
set_option maxRecDepth 20000 in
theorem gX3_pass_X3_passTenth : GoodIn wsX3_pass (wsV RX3 152 RX3 yX3_passTenth wsX3_passTenth) := goodIn_app (goodIn_of _ (by decide +kernel)) ggX3_pass_X3_passTenth
theorem dX3_pass_0 : decode cX3_pass 0 = .ok (.iload_n 1, 1) := by decide +kernel
theorem dX3_pass_1 : decode cX3_pass 1 = .ok (.iconst 1, 1) := by decide +kernel
theorem dX3_pass_2 : decode cX3_pass 2 = .ok (.if_icmp .lt 10, 3) := by decide +kernel
theorem dX3_pass_5 : decode cX3_pass 5 = .ok (.iload_n 1, 1) := by decide +kernel
theorem dX3_pass_6 : decode cX3_pass 6 = .ok (.sipush 1000, 3) := by decide +kernel
theorem dX3_pass_9 : decode cX3_pass 9 = .ok (.if_icmp .le 13, 3) := by decide +kernel
theorem dX3_pass_12 : decode cX3_pass 12 = .ok (.new 147, 3) := by decide +kernel
theorem dX3_pass_15 : decode cX3_pass 15 = .ok (.dup, 1) := by decide +kernel
theorem dX3_pass_16 : decode cX3_pass 16 = .ok (.ldc 149, 2) := by decide +kernel
theorem dX3_pass_18 : decode cX3_pass 18 = .ok (.invokespecial 151, 3) := by decide +kernel
theorem dX3_pass_21 : decode cX3_pass 21 = .ok (.athrow, 1) := by decide +kernel
theorem dX3_pass_22 : decode cX3_pass 22 = .ok (.iconst 0, 1) := by decide +kernel
theorem dX3_pass_23 : decode cX3_pass 23 = .ok (.istore_n 2, 1) := by decide +kernel
theorem dX3_pass_24 : decode cX3_pass 24 = .ok (.iconst 0, 1) := by decide +kernel
theorem dX3_pass_25 : decode cX3_pass 25 = .ok (.istore_n 3, 1) := by decide +kernel
theorem dX3_pass_26 : decode cX3_pass 26 = .ok (.iload_n 3, 1) := by decide +kernel
theorem dX3_pass_27 : decode cX3_pass 27 = .ok (.iload_n 1, 1) := by decide +kernel
theorem dX3_pass_28 : decode cX3_pass 28 = .ok (.if_icmp .ge 25, 3) := by decide +kernel
theorem dX3_pass_31 : decode cX3_pass 31 = .ok (.iload_n 2, 1) := by decide +kernel
theorem dX3_pass_32 : decode cX3_pass 32 = .ok (.aload_n 0, 1) := by decide +kernel
theorem dX3_pass_33 : decode cX3_pass 33 = .ok (.iconst 0, 1) := by decide +kernel
theorem dX3_pass_34 : decode cX3_pass 34 = .ok (.invokevirtual 152, 3) := by decide +kernel
theorem dX3_pass_37 : decode cX3_pass 37 = .ok (.iadd, 1) := by decide +kernel
theorem dX3_pass_38 : decode cX3_pass 38 = .ok (.istore_n 2, 1) := by decide +kernel
theorem dX3_pass_39 : decode cX3_pass 39 = .ok (.iload_n 2, 1) := by decide +kernel
theorem dX3_pass_40 : decode cX3_pass 40 = .ok (.aload_n 0, 1) := by decide +kernel
theorem dX3_pass_41 : decode cX3_pass 41 = .ok (.iconst 1, 1) := by decide +kernel
theorem dX3_pass_42 : decode cX3_pass 42 = .ok (.invokevirtual 152, 3) := by decide +kernel
theorem dX3_pass_45 : decode cX3_pass 45 = .ok (.iadd, 1) := by decide +kernel
theorem dX3_pass_46 : decode cX3_pass 46 = .ok (.istore_n 2, 1) := by decide +kernel
theorem dX3_pass_47 : decode cX3_pass 47 = .ok (.iinc 3 1, 3) := by decide +kernel
theorem dX3_pass_50 : decode cX3_pass 50 = .ok (.goto (-24), 3) := by decide +kernel
theorem dX3_pass_53 : decode cX3_pass 53 = .ok (.iload_n 2, 1) := by decide +kernel
theorem dX3_pass_54 : decode cX3_pass 54 = .ok (.ireturn, 1) := by decide +kernel
set_option maxRecDepth 20000 in
theorem ggX3_running_X3_needList : GoodIn wsX3_running wsX3_needList := goodIn_ca (goodIn_r _ [4, 5, 6] (by decide +kernel) (by decide +kernel)) (goodIn_sub (fun _ h => List.mem_cons_of_mem _ (List.mem_append_right _ h)) (by decide +kernel))
set_option maxRecDepth 20000 in
theorem gX3_running_X3_needList : GoodIn wsX3_running (va_wsS RX3 98 yX3_needList wsX3_needList) := goodIn_app (goodIn_of _ (by decide +kernel)) ggX3_running_X3_needList
set_option maxRecDepth 20000 in
theorem ggX3_running_X3_cuesOf : GoodIn wsX3_running wsX3_cuesOf := goodIn_r _ [10, 11, 12, 19, 20, 21, 22, 23, 24, 25] (by decide +kernel) (by decide +kernel)
set_option maxRecDepth 20000 in
theorem gX3_running_X3_cuesOf : GoodIn wsX3_running (wsV RX3 104 RX3 yX3_cuesOf wsX3_cuesOf) := goodIn_app (goodIn_of _ (by decide +kernel)) ggX3_running_X3_cuesOf
set_option maxRecDepth 20000 in
theorem ggX3_running_X0_begunLast : GoodIn wsX3_running wsX0_begunLast := goodIn_r _ [17, 18, 26, 27, 28, 29, 30, 31, 32, 33, 34] (by decide +kernel) (by decide +kernel)
set_option maxRecDepth 20000 in
theorem gX3_running_X0_begunLast : GoodIn wsX3_running (wsV RX3 155 RX0 yX0_begunLast wsX0_begunLast) := goodIn_app (goodIn_of _ (by decide +kernel)) ggX3_running_X0_begunLast
theorem dX3_running_0 : decode cX3_running 0 = .ok (.iload_n 1, 1) := by decide +kernel
theorem dX3_running_1 : decode cX3_running 1 = .ok (.invokestatic 98, 3) := by decide +kernel
theorem dX3_running_4 : decode cX3_running 4 = .ok (.aload_n 0, 1) := by decide +kernel
theorem dX3_running_5 : decode cX3_running 5 = .ok (.iload_n 1, 1) := by decide +kernel
theorem dX3_running_6 : decode cX3_running 6 = .ok (.invokevirtual 104, 3) := by decide +kernel
theorem dX3_running_9 : decode cX3_running 9 = .ok (.invokevirtual 155, 3) := by decide +kernel
theorem dX3_running_12 : decode cX3_running 12 = .ok (.ireturn, 1) := by decide +kernel
set_option maxRecDepth 20000 in
theorem ggX3_level_X3_needList : GoodIn wsX3_level wsX3_needList := goodIn_ca (goodIn_r _ [4, 5, 6] (by decide +kernel) (by decide +kernel)) (goodIn_sub (fun _ h => List.mem_cons_of_mem _ (List.mem_append_right _ h)) (by decide +kernel))
set_option maxRecDepth 20000 in
theorem gX3_level_X3_needList : GoodIn wsX3_level (va_wsS RX3 98 yX3_needList wsX3_needList) := goodIn_app (goodIn_of _ (by decide +kernel)) ggX3_level_X3_needList
set_option maxRecDepth 20000 in
theorem ggX3_level_X3_needChannel : GoodIn wsX3_level wsX3_needChannel := goodIn_ca (goodIn_r _ [9, 5, 6, 10, 11, 3, 12] (by decide +kernel) (by decide +kernel)) (goodIn_sub (fun _ h => List.mem_cons_of_mem _ (List.mem_append_right _ h)) (by decide +kernel))
set_option maxRecDepth 20000 in
theorem gX3_level_X3_needChannel : GoodIn wsX3_level (va_wsS RX3 95 yX3_needChannel wsX3_needChannel) := goodIn_app (goodIn_of _ (by decide +kernel)) ggX3_level_X3_needChannel
set_option maxRecDepth 20000 in
theorem ggX3_level_X3_cuesOf : GoodIn wsX3_level wsX3_cuesOf := goodIn_r _ [16, 17, 18, 35, 36, 37, 38, 39, 40, 41] (by decide +kernel) (by decide +kernel)
set_option maxRecDepth 20000 in
theorem gX3_level_X3_cuesOf : GoodIn wsX3_level (wsV RX3 104 RX3 yX3_cuesOf wsX3_cuesOf) := goodIn_app (goodIn_of _ (by decide +kernel)) ggX3_level_X3_cuesOf
set_option maxRecDepth 20000 in
theorem ggX3_level_X0_levelNow : GoodIn wsX3_level wsX0_levelNow := goodIn_r _ [23, 24, 25, 26, 27, 28, 29, 30, 31, 32, 22, 33, 34, 11, 3, 12, 42, 43, 44, 45, 46, 47, 48, 49, 50] (by decide +kernel) (by decide +kernel)
set_option maxRecDepth 20000 in
theorem gX3_level_X0_levelNow : GoodIn wsX3_level (wsV RX3 158 RX0 yX0_levelNow wsX0_levelNow) := goodIn_app (goodIn_of _ (by decide +kernel)) ggX3_level_X0_levelNow
theorem dX3_level_0 : decode cX3_level 0 = .ok (.iload_n 1, 1) := by decide +kernel
theorem dX3_level_1 : decode cX3_level 1 = .ok (.invokestatic 98, 3) := by decide +kernel
theorem dX3_level_4 : decode cX3_level 4 = .ok (.iload_n 2, 1) := by decide +kernel
theorem dX3_level_5 : decode cX3_level 5 = .ok (.invokestatic 95, 3) := by decide +kernel
theorem dX3_level_8 : decode cX3_level 8 = .ok (.aload_n 0, 1) := by decide +kernel
theorem dX3_level_9 : decode cX3_level 9 = .ok (.iload_n 1, 1) := by decide +kernel
theorem dX3_level_10 : decode cX3_level 10 = .ok (.invokevirtual 104, 3) := by decide +kernel
theorem dX3_level_13 : decode cX3_level 13 = .ok (.iload_n 2, 1) := by decide +kernel
theorem dX3_level_14 : decode cX3_level 14 = .ok (.invokevirtual 158, 3) := by decide +kernel
theorem dX3_level_17 : decode cX3_level 17 = .ok (.ireturn, 1) := by decide +kernel
set_option maxRecDepth 20000 in
theorem ggX3_merged_X3_needChannel : GoodIn wsX3_merged wsX3_needChannel := goodIn_ca (goodIn_r _ [4, 5, 6, 7, 8, 3, 9] (by decide +kernel) (by decide +kernel)) (goodIn_sub (fun _ h => List.mem_cons_of_mem _ (List.mem_append_right _ h)) (by decide +kernel))
set_option maxRecDepth 20000 in
theorem gX3_merged_X3_needChannel : GoodIn wsX3_merged (va_wsS RX3 95 yX3_needChannel wsX3_needChannel) := goodIn_app (goodIn_of _ (by decide +kernel)) ggX3_merged_X3_needChannel
set_option maxRecDepth 20000 in
theorem ggX3_merged_X3_mergedNow : GoodIn wsX3_merged wsX3_mergedNow := goodIn_r _ [13, 14, 15, 16, 17, 18, 19, 20, 21, 22, 23, 24, 25, 26, 27, 28, 29, 30, 31, 32, 33, 34, 35, 36, 37, 8, 3, 9, 7, 38, 39, 40, 41, 42, 43, 44, 45, 46, 47, 48, 49, 50, 51, 52, 53] (by decide +kernel) (by decide +kernel)
set_option maxRecDepth 20000 in
theorem gX3_merged_X3_mergedNow : GoodIn wsX3_merged (wsV RX3 161 RX3 yX3_mergedNow wsX3_mergedNow) := goodIn_app (goodIn_of _ (by decide +kernel)) ggX3_merged_X3_mergedNow
theorem dX3_merged_0 : decode cX3_merged 0 = .ok (.iload_n 1, 1) := by decide +kernel
theorem dX3_merged_1 : decode cX3_merged 1 = .ok (.invokestatic 95, 3) := by decide +kernel
theorem dX3_merged_4 : decode cX3_merged 4 = .ok (.aload_n 0, 1) := by decide +kernel
theorem dX3_merged_5 : decode cX3_merged 5 = .ok (.iload_n 1, 1) := by decide +kernel
theorem dX3_merged_6 : decode cX3_merged 6 = .ok (.invokevirtual 161, 3) := by decide +kernel
theorem dX3_merged_9 : decode cX3_merged 9 = .ok (.ireturn, 1) := by decide +kernel
set_option maxRecDepth 20000 in
theorem ggX3_light_X3_needChannel : GoodIn wsX3_light wsX3_needChannel := goodIn_ca (goodIn_r _ [6, 7, 8, 9, 10, 5, 11] (by decide +kernel) (by decide +kernel)) (goodIn_sub (fun _ h => List.mem_cons_of_mem _ (List.mem_append_right _ h)) (by decide +kernel))
set_option maxRecDepth 20000 in
theorem gX3_light_X3_needChannel : GoodIn wsX3_light (va_wsS RX3 95 yX3_needChannel wsX3_needChannel) := goodIn_app (goodIn_of _ (by decide +kernel)) ggX3_light_X3_needChannel
set_option maxRecDepth 20000 in
theorem ggX3_light_X3_mergedNow : GoodIn wsX3_light wsX3_mergedNow := goodIn_r _ [15, 16, 17, 18, 19, 20, 21, 22, 23, 24, 25, 26, 27, 28, 29, 30, 31, 32, 33, 34, 35, 36, 37, 38, 39, 10, 5, 11, 9, 74, 75, 76, 77, 78, 79, 80, 81, 82, 83, 84, 85, 86, 87, 88, 89] (by decide +kernel) (by decide +kernel)
set_option maxRecDepth 20000 in
theorem gX3_light_X3_mergedNow : GoodIn wsX3_light (wsV RX3 161 RX3 yX3_mergedNow wsX3_mergedNow) := goodIn_app (goodIn_of _ (by decide +kernel)) ggX3_light_X3_mergedNow
set_option maxRecDepth 20000 in
theorem ggX3_light_X2_shineOn : GoodIn wsX3_light wsX2_shineOn := goodIn_r _ [44, 45, 46, 47, 48, 43, 49, 50, 51, 5, 52, 53, 54, 55, 56, 57, 58, 59, 60, 61, 62, 63, 64, 65, 66, 67, 68, 69, 70, 71, 72, 73, 90, 91, 92, 93] (by decide +kernel) (by decide +kernel)
set_option maxRecDepth 20000 in
theorem gX3_light_X2_shineOn : GoodIn wsX3_light (wsV RX3 164 RX2 yX2_shineOn wsX2_shineOn) := goodIn_app (goodIn_of _ (by decide +kernel)) ggX3_light_X2_shineOn
theorem dX3_light_0 : decode cX3_light 0 = .ok (.iload_n 1, 1) := by decide +kernel
theorem dX3_light_1 : decode cX3_light 1 = .ok (.invokestatic 95, 3) := by decide +kernel
theorem dX3_light_4 : decode cX3_light 4 = .ok (.aload_n 0, 1) := by decide +kernel
theorem dX3_light_5 : decode cX3_light 5 = .ok (.getfield 10, 3) := by decide +kernel
theorem dX3_light_8 : decode cX3_light 8 = .ok (.aload_n 0, 1) := by decide +kernel
theorem dX3_light_9 : decode cX3_light 9 = .ok (.getfield 91, 3) := by decide +kernel
theorem dX3_light_12 : decode cX3_light 12 = .ok (.iload_n 1, 1) := by decide +kernel
theorem dX3_light_13 : decode cX3_light 13 = .ok (.aload_n 0, 1) := by decide +kernel
theorem dX3_light_14 : decode cX3_light 14 = .ok (.iload_n 1, 1) := by decide +kernel
theorem dX3_light_15 : decode cX3_light 15 = .ok (.invokevirtual 161, 3) := by decide +kernel
theorem dX3_light_18 : decode cX3_light 18 = .ok (.invokevirtual 164, 3) := by decide +kernel
theorem dX3_light_21 : decode cX3_light 21 = .ok (.ireturn, 1) := by decide +kernel
set_option maxRecDepth 20000 in
theorem ggX3_allLight_X3_mergedNow : GoodIn wsX3_allLight wsX3_mergedNow := goodIn_r _ [7, 8, 9, 10, 11, 12, 13, 14, 15, 16, 17, 18, 19, 20, 21, 22, 23, 24, 25, 26, 27, 28, 29, 30, 31, 32, 6, 33, 34, 69, 70, 71, 72, 73, 74, 75, 76, 77, 78, 79, 80, 81, 82, 83, 84] (by decide +kernel) (by decide +kernel)
set_option maxRecDepth 20000 in
theorem gX3_allLight_X3_mergedNow : GoodIn wsX3_allLight (wsV RX3 161 RX3 yX3_mergedNow wsX3_mergedNow) := goodIn_app (goodIn_of _ (by decide +kernel)) ggX3_allLight_X3_mergedNow
set_option maxRecDepth 20000 in
theorem ggX3_allLight_X2_shineOn : GoodIn wsX3_allLight wsX2_shineOn := goodIn_r _ [39, 40, 41, 42, 43, 38, 44, 45, 46, 6, 47, 48, 49, 50, 51, 52, 53, 54, 55, 56, 57, 58, 59, 60, 61, 62, 63, 64, 65, 66, 67, 68, 85, 86, 87, 88] (by decide +kernel) (by decide +kernel)
set_option maxRecDepth 20000 in
theorem gX3_allLight_X2_shineOn : GoodIn wsX3_allLight (wsV RX3 164 RX2 yX2_shineOn wsX2_shineOn) := goodIn_app (goodIn_of _ (by decide +kernel)) ggX3_allLight_X2_shineOn
theorem dX3_allLight_0 : decode cX3_allLight 0 = .ok (.iconst 0, 1) := by decide +kernel
theorem dX3_allLight_1 : decode cX3_allLight 1 = .ok (.istore_n 1, 1) := by decide +kernel
theorem dX3_allLight_2 : decode cX3_allLight 2 = .ok (.iconst 0, 1) := by decide +kernel
theorem dX3_allLight_3 : decode cX3_allLight 3 = .ok (.istore_n 2, 1) := by decide +kernel
theorem dX3_allLight_4 : decode cX3_allLight 4 = .ok (.iload_n 2, 1) := by decide +kernel
theorem dX3_allLight_5 : decode cX3_allLight 5 = .ok (.bipush 12, 2) := by decide +kernel
theorem dX3_allLight_7 : decode cX3_allLight 7 = .ok (.if_icmp .ge 29, 3) := by decide +kernel
theorem dX3_allLight_10 : decode cX3_allLight 10 = .ok (.iload_n 1, 1) := by decide +kernel
theorem dX3_allLight_11 : decode cX3_allLight 11 = .ok (.aload_n 0, 1) := by decide +kernel
theorem dX3_allLight_12 : decode cX3_allLight 12 = .ok (.getfield 10, 3) := by decide +kernel
theorem dX3_allLight_15 : decode cX3_allLight 15 = .ok (.aload_n 0, 1) := by decide +kernel
theorem dX3_allLight_16 : decode cX3_allLight 16 = .ok (.getfield 91, 3) := by decide +kernel
theorem dX3_allLight_19 : decode cX3_allLight 19 = .ok (.iload_n 2, 1) := by decide +kernel
theorem dX3_allLight_20 : decode cX3_allLight 20 = .ok (.aload_n 0, 1) := by decide +kernel
theorem dX3_allLight_21 : decode cX3_allLight 21 = .ok (.iload_n 2, 1) := by decide +kernel
theorem dX3_allLight_22 : decode cX3_allLight 22 = .ok (.invokevirtual 161, 3) := by decide +kernel
theorem dX3_allLight_25 : decode cX3_allLight 25 = .ok (.invokevirtual 164, 3) := by decide +kernel
theorem dX3_allLight_28 : decode cX3_allLight 28 = .ok (.iadd, 1) := by decide +kernel
theorem dX3_allLight_29 : decode cX3_allLight 29 = .ok (.istore_n 1, 1) := by decide +kernel
theorem dX3_allLight_30 : decode cX3_allLight 30 = .ok (.iinc 2 1, 3) := by decide +kernel
theorem dX3_allLight_33 : decode cX3_allLight 33 = .ok (.goto (-29), 3) := by decide +kernel
theorem dX3_allLight_36 : decode cX3_allLight 36 = .ok (.iload_n 1, 1) := by decide +kernel
theorem dX3_allLight_37 : decode cX3_allLight 37 = .ok (.ireturn, 1) := by decide +kernel
set_option maxRecDepth 20000 in
theorem ggX3_preview_X3_needList : GoodIn wsX3_preview wsX3_needList := goodIn_ca (goodIn_r _ [5, 6, 7] (by decide +kernel) (by decide +kernel)) (goodIn_sub (fun _ h => List.mem_cons_of_mem _ (List.mem_append_left _ (List.mem_append_right _ h))) (by decide +kernel))
set_option maxRecDepth 20000 in
theorem gX3_preview_X3_needList : GoodIn wsX3_preview (va_wsS RX3 98 yX3_needList wsX3_needList) := goodIn_app (goodIn_of _ (by decide +kernel)) ggX3_preview_X3_needList
set_option maxRecDepth 20000 in
theorem ggX3_preview_X3_needNight : GoodIn wsX3_preview wsX3_needNight := goodIn_ca (goodIn_r _ [10, 6, 7, 11, 12, 4, 13] (by decide +kernel) (by decide +kernel)) (goodIn_sub (fun _ h => List.mem_cons_of_mem _ (List.mem_append_left _ (List.mem_append_right _ h))) (by decide +kernel))
set_option maxRecDepth 20000 in
theorem gX3_preview_X3_needNight : GoodIn wsX3_preview (va_wsS RX3 79 yX3_needNight wsX3_needNight) := goodIn_app (goodIn_of _ (by decide +kernel)) ggX3_preview_X3_needNight
set_option maxRecDepth 20000 in
theorem ggX3_preview_X3_needCue : GoodIn wsX3_preview wsX3_needCue := goodIn_ca (goodIn_r _ [17, 18, 19, 20, 21, 22, 4, 23, 24, 25, 26, 27, 28, 29, 30, 31, 80, 81, 82, 83, 84, 85, 86, 87, 88, 89, 90, 91, 92, 93, 94, 95] (by decide +kernel) (by decide +kernel)) (goodIn_sub (fun _ h => List.mem_cons_of_mem _ (List.mem_append_right _ h)) (by decide +kernel))
set_option maxRecDepth 20000 in
theorem gX3_preview_X3_needCue : GoodIn wsX3_preview (wsV RX3 117 RX3 yX3_needCue wsX3_needCue) := goodIn_app (goodIn_of _ (by decide +kernel)) ggX3_preview_X3_needCue
set_option maxRecDepth 20000 in
theorem ggX3_preview_X3_cuesOf : GoodIn wsX3_preview wsX3_cuesOf := goodIn_r _ [23, 24, 25, 80, 81, 82, 83, 84, 85, 86] (by decide +kernel) (by decide +kernel)
set_option maxRecDepth 20000 in
theorem gX3_preview_X3_cuesOf : GoodIn wsX3_preview (wsV RX3 104 RX3 yX3_cuesOf wsX3_cuesOf) := goodIn_app (goodIn_of _ (by decide +kernel)) ggX3_preview_X3_cuesOf
set_option maxRecDepth 20000 in
theorem ggX3_preview_X0_toldOrZero : GoodIn wsX3_preview wsX0_toldOrZero := goodIn_r _ [35, 36, 37, 38, 39, 40, 41, 42, 29, 43, 44, 45, 27, 28, 30, 31, 46, 4, 47, 87, 88, 89, 90, 91, 92, 93, 94, 95] (by decide +kernel) (by decide +kernel)
set_option maxRecDepth 20000 in
theorem gX3_preview_X0_toldOrZero : GoodIn wsX3_preview (wsV RX3 168 RX0 yX0_toldOrZero wsX0_toldOrZero) := goodIn_app (goodIn_of _ (by decide +kernel)) ggX3_preview_X0_toldOrZero
set_option maxRecDepth 20000 in
theorem ggX3_preview_X2_shineOn : GoodIn wsX3_preview wsX2_shineOn := goodIn_r _ [52, 53, 54, 55, 56, 51, 57, 58, 12, 4, 13, 59, 60, 61, 62, 63, 64, 65, 66, 67, 68, 69, 70, 71, 72, 73, 74, 75, 76, 77, 78, 79, 96, 97, 98, 99] (by decide +kernel) (by decide +kernel)
set_option maxRecDepth 20000 in
theorem gX3_preview_X2_shineOn : GoodIn wsX3_preview (wsV RX3 164 RX2 yX2_shineOn wsX2_shineOn) := goodIn_app (goodIn_of _ (by decide +kernel)) ggX3_preview_X2_shineOn
theorem dX3_preview_0 : decode cX3_preview 0 = .ok (.iload_n 1, 1) := by decide +kernel
theorem dX3_preview_1 : decode cX3_preview 1 = .ok (.invokestatic 98, 3) := by decide +kernel
theorem dX3_preview_4 : decode cX3_preview 4 = .ok (.iload_n 3, 1) := by decide +kernel
theorem dX3_preview_5 : decode cX3_preview 5 = .ok (.invokestatic 79, 3) := by decide +kernel
theorem dX3_preview_8 : decode cX3_preview 8 = .ok (.aload_n 0, 1) := by decide +kernel
theorem dX3_preview_9 : decode cX3_preview 9 = .ok (.iload_n 1, 1) := by decide +kernel
theorem dX3_preview_10 : decode cX3_preview 10 = .ok (.iload_n 2, 1) := by decide +kernel
theorem dX3_preview_11 : decode cX3_preview 11 = .ok (.invokevirtual 117, 3) := by decide +kernel
theorem dX3_preview_14 : decode cX3_preview 14 = .ok (.aload_n 0, 1) := by decide +kernel
theorem dX3_preview_15 : decode cX3_preview 15 = .ok (.iload_n 1, 1) := by decide +kernel
theorem dX3_preview_16 : decode cX3_preview 16 = .ok (.invokevirtual 104, 3) := by decide +kernel
theorem dX3_preview_19 : decode cX3_preview 19 = .ok (.astore 4, 2) := by decide +kernel
theorem dX3_preview_21 : decode cX3_preview 21 = .ok (.iconst 0, 1) := by decide +kernel
theorem dX3_preview_22 : decode cX3_preview 22 = .ok (.istore 5, 2) := by decide +kernel
theorem dX3_preview_24 : decode cX3_preview 24 = .ok (.iconst 0, 1) := by decide +kernel
theorem dX3_preview_25 : decode cX3_preview 25 = .ok (.istore 6, 2) := by decide +kernel
theorem dX3_preview_27 : decode cX3_preview 27 = .ok (.iload 6, 2) := by decide +kernel
theorem dX3_preview_29 : decode cX3_preview 29 = .ok (.bipush 12, 2) := by decide +kernel
theorem dX3_preview_31 : decode cX3_preview 31 = .ok (.if_icmp .ge 32, 3) := by decide +kernel
theorem dX3_preview_34 : decode cX3_preview 34 = .ok (.iload 5, 2) := by decide +kernel
theorem dX3_preview_36 : decode cX3_preview 36 = .ok (.aload_n 0, 1) := by decide +kernel
theorem dX3_preview_37 : decode cX3_preview 37 = .ok (.getfield 10, 3) := by decide +kernel
theorem dX3_preview_40 : decode cX3_preview 40 = .ok (.iload_n 3, 1) := by decide +kernel
theorem dX3_preview_41 : decode cX3_preview 41 = .ok (.iload 6, 2) := by decide +kernel
theorem dX3_preview_43 : decode cX3_preview 43 = .ok (.aload 4, 2) := by decide +kernel
theorem dX3_preview_45 : decode cX3_preview 45 = .ok (.iload_n 2, 1) := by decide +kernel
theorem dX3_preview_46 : decode cX3_preview 46 = .ok (.iload 6, 2) := by decide +kernel
theorem dX3_preview_48 : decode cX3_preview 48 = .ok (.invokevirtual 168, 3) := by decide +kernel
theorem dX3_preview_51 : decode cX3_preview 51 = .ok (.invokevirtual 164, 3) := by decide +kernel
theorem dX3_preview_54 : decode cX3_preview 54 = .ok (.iadd, 1) := by decide +kernel
theorem dX3_preview_55 : decode cX3_preview 55 = .ok (.istore 5, 2) := by decide +kernel
theorem dX3_preview_57 : decode cX3_preview 57 = .ok (.iinc 6 1, 3) := by decide +kernel
theorem dX3_preview_60 : decode cX3_preview 60 = .ok (.goto (-33), 3) := by decide +kernel
theorem dX3_preview_63 : decode cX3_preview 63 = .ok (.iload 5, 2) := by decide +kernel
theorem dX3_preview_65 : decode cX3_preview 65 = .ok (.ireturn, 1) := by decide +kernel
set_option maxRecDepth 20000 in
theorem ggX3_touched_X3_needLamp : GoodIn wsX3_touched wsX3_needLamp := goodIn_ca (goodIn_r _ [8, 9, 10, 1, 11, 12, 13, 14, 15, 16, 81, 82, 83, 84, 85, 86, 87, 88, 89, 90, 91] (by decide +kernel) (by decide +kernel)) (goodIn_sub (fun _ h => List.mem_cons_of_mem _ (List.mem_append_left _ (List.mem_append_right _ h))) (by decide +kernel))
set_option maxRecDepth 20000 in
theorem gX3_touched_X3_needLamp : GoodIn wsX3_touched (wsV RX3 60 RX3 yX3_needLamp wsX3_needLamp) := goodIn_app (goodIn_of _ (by decide +kernel)) ggX3_touched_X3_needLamp
set_option maxRecDepth 20000 in
theorem ggX3_touched_X3_needLampKind : GoodIn wsX3_touched wsX3_needLampKind := goodIn_ca (goodIn_r _ [19, 20, 21] (by decide +kernel) (by decide +kernel)) (goodIn_sub (fun _ h => List.mem_cons_of_mem _ (List.mem_append_right _ h)) (by decide +kernel))
set_option maxRecDepth 20000 in
theorem gX3_touched_X3_needLampKind : GoodIn wsX3_touched (va_wsS RX3 41 yX3_needLampKind wsX3_needLampKind) := goodIn_app (goodIn_of _ (by decide +kernel)) ggX3_touched_X3_needLampKind
set_option maxRecDepth 20000 in
theorem ggX3_touched_X3_needNight : GoodIn wsX3_touched wsX3_needNight := goodIn_ca (goodIn_r _ [24, 20, 21, 25, 26, 7, 27] (by decide +kernel) (by decide +kernel)) (goodIn_sub (fun _ h => List.mem_cons_of_mem _ (List.mem_append_right _ h)) (by decide +kernel))
set_option maxRecDepth 20000 in
theorem gX3_touched_X3_needNight : GoodIn wsX3_touched (va_wsS RX3 79 yX3_needNight wsX3_needNight) := goodIn_app (goodIn_of _ (by decide +kernel)) ggX3_touched_X3_needNight
set_option maxRecDepth 20000 in
theorem ggX3_touched_X2_channelOf : GoodIn wsX3_touched wsX2_channelOf := goodIn_r _ [31, 32, 26, 7, 27, 33, 12, 13, 14, 15, 16, 88, 89, 90, 91] (by decide +kernel) (by decide +kernel)
set_option maxRecDepth 20000 in
theorem gX3_touched_X2_channelOf : GoodIn wsX3_touched (wsV RX3 85 RX2 yX2_channelOf wsX2_channelOf) := goodIn_app (goodIn_of _ (by decide +kernel)) ggX3_touched_X2_channelOf
set_option maxRecDepth 20000 in
theorem ggX3_touched_X3_countTouched : GoodIn wsX3_touched wsX3_countTouched := goodIn_r _ [37, 1, 38, 39, 40, 41, 42, 43, 44, 45, 46, 47, 48, 49, 50, 51, 52, 53, 54, 55, 56, 57, 58, 59, 60, 61, 7, 62, 63, 64, 65, 14, 66, 67, 68, 69, 70, 71, 33, 12, 13, 15, 16, 72, 73, 74, 75, 76, 77, 78, 79, 80, 81, 82, 83, 84, 85, 86, 87, 92, 93, 94, 95, 96, 97, 98, 99, 100, 88, 89, 90, 91] (by decide +kernel) (by decide +kernel)
set_option maxRecDepth 20000 in
theorem gX3_touched_X3_countTouched : GoodIn wsX3_touched (wsV RX3 171 RX3 yX3_countTouched wsX3_countTouched) := goodIn_app (goodIn_of _ (by decide +kernel)) ggX3_touched_X3_countTouched
theorem dX3_touched_0 : decode cX3_touched 0 = .ok (.aload_n 0, 1) := by decide +kernel
theorem dX3_touched_1 : decode cX3_touched 1 = .ok (.iload_n 1, 1) := by decide +kernel
theorem dX3_touched_2 : decode cX3_touched 2 = .ok (.invokevirtual 60, 3) := by decide +kernel
theorem dX3_touched_5 : decode cX3_touched 5 = .ok (.iload_n 2, 1) := by decide +kernel
theorem dX3_touched_6 : decode cX3_touched 6 = .ok (.iload_n 3, 1) := by decide +kernel
theorem dX3_touched_7 : decode cX3_touched 7 = .ok (.invokestatic 41, 3) := by decide +kernel
theorem dX3_touched_10 : decode cX3_touched 10 = .ok (.iload 4, 2) := by decide +kernel
theorem dX3_touched_12 : decode cX3_touched 12 = .ok (.invokestatic 79, 3) := by decide +kernel
theorem dX3_touched_15 : decode cX3_touched 15 = .ok (.aload_n 0, 1) := by decide +kernel
theorem dX3_touched_16 : decode cX3_touched 16 = .ok (.getfield 10, 3) := by decide +kernel
theorem dX3_touched_19 : decode cX3_touched 19 = .ok (.iload 4, 2) := by decide +kernel
theorem dX3_touched_21 : decode cX3_touched 21 = .ok (.iload_n 1, 1) := by decide +kernel
theorem dX3_touched_22 : decode cX3_touched 22 = .ok (.invokevirtual 85, 3) := by decide +kernel
theorem dX3_touched_25 : decode cX3_touched 25 = .ok (.istore 5, 2) := by decide +kernel
theorem dX3_touched_27 : decode cX3_touched 27 = .ok (.iload 5, 2) := by decide +kernel
theorem dX3_touched_29 : decode cX3_touched 29 = .ok (.iconst (-1), 1) := by decide +kernel
theorem dX3_touched_30 : decode cX3_touched 30 = .ok (.if_icmp .ne 5, 3) := by decide +kernel
theorem dX3_touched_33 : decode cX3_touched 33 = .ok (.iconst 0, 1) := by decide +kernel
theorem dX3_touched_34 : decode cX3_touched 34 = .ok (.ireturn, 1) := by decide +kernel
theorem dX3_touched_35 : decode cX3_touched 35 = .ok (.aload_n 0, 1) := by decide +kernel
theorem dX3_touched_36 : decode cX3_touched 36 = .ok (.aload_n 0, 1) := by decide +kernel
theorem dX3_touched_37 : decode cX3_touched 37 = .ok (.getfield 19, 3) := by decide +kernel
theorem dX3_touched_40 : decode cX3_touched 40 = .ok (.iload_n 1, 1) := by decide +kernel
theorem dX3_touched_41 : decode cX3_touched 41 = .ok (.iload_n 2, 1) := by decide +kernel
theorem dX3_touched_42 : decode cX3_touched 42 = .ok (.iload_n 3, 1) := by decide +kernel
theorem dX3_touched_43 : decode cX3_touched 43 = .ok (.iload 5, 2) := by decide +kernel
theorem dX3_touched_45 : decode cX3_touched 45 = .ok (.invokevirtual 171, 3) := by decide +kernel
theorem dX3_touched_48 : decode cX3_touched 48 = .ok (.aload_n 0, 1) := by decide +kernel
theorem dX3_touched_49 : decode cX3_touched 49 = .ok (.aload_n 0, 1) := by decide +kernel
theorem dX3_touched_50 : decode cX3_touched 50 = .ok (.getfield 23, 3) := by decide +kernel
theorem dX3_touched_53 : decode cX3_touched 53 = .ok (.iload_n 1, 1) := by decide +kernel
theorem dX3_touched_54 : decode cX3_touched 54 = .ok (.iload_n 2, 1) := by decide +kernel
theorem dX3_touched_55 : decode cX3_touched 55 = .ok (.iload_n 3, 1) := by decide +kernel
theorem dX3_touched_56 : decode cX3_touched 56 = .ok (.iload 5, 2) := by decide +kernel
theorem dX3_touched_58 : decode cX3_touched 58 = .ok (.invokevirtual 171, 3) := by decide +kernel
theorem dX3_touched_61 : decode cX3_touched 61 = .ok (.iadd, 1) := by decide +kernel
theorem dX3_touched_62 : decode cX3_touched 62 = .ok (.ireturn, 1) := by decide +kernel
set_option maxRecDepth 20000 in
theorem ggX3_countTouched_X0_size : GoodIn wsX3_countTouched wsX0_size := goodIn_r _ [6, 7, 59, 60, 61, 62, 63, 64, 65, 66, 67] (by decide +kernel) (by decide +kernel)
set_option maxRecDepth 20000 in
theorem gX3_countTouched_X0_size : GoodIn wsX3_countTouched (wsV RX3 175 RX0 yX0_size wsX0_size) := goodIn_app (goodIn_of _ (by decide +kernel)) ggX3_countTouched_X0_size
set_option maxRecDepth 20000 in
theorem ggX3_countTouched_X0_toldOrZero : GoodIn wsX3_countTouched wsX0_toldOrZero := goodIn_r _ [11, 12, 13, 14, 15, 16, 17, 18, 5, 19, 20, 21, 22, 23, 24, 7, 25, 26, 27, 59, 60, 61, 62, 63, 64, 65, 66, 67] (by decide +kernel) (by decide +kernel)
set_option maxRecDepth 20000 in
theorem gX3_countTouched_X0_toldOrZero : GoodIn wsX3_countTouched (wsV RX3 168 RX0 yX0_toldOrZero wsX0_toldOrZero) := goodIn_app (goodIn_of _ (by decide +kernel)) ggX3_countTouched_X0_toldOrZero
set_option maxRecDepth 20000 in
theorem ggX3_countTouched_X2_shine : GoodIn wsX3_countTouched wsX2_shine := goodIn_r _ [32, 33, 34, 35, 31, 36, 37, 38, 39, 40, 41, 42, 43, 44, 45, 46, 47, 48, 49, 50, 68, 69, 70, 71] (by decide +kernel) (by decide +kernel)
set_option maxRecDepth 20000 in
theorem gX3_countTouched_X2_shine : GoodIn wsX3_countTouched (wsV RX3 176 RX2 yX2_shine wsX2_shine) := goodIn_app (goodIn_of _ (by decide +kernel)) ggX3_countTouched_X2_shine
set_option maxRecDepth 20000 in
theorem ggX3_countTouched_X2_shineOfKind : GoodIn wsX3_countTouched wsX2_shineOfKind := goodIn_r _ [50] (by decide +kernel) (by decide +kernel)
set_option maxRecDepth 20000 in
theorem gX3_countTouched_X2_shineOfKind : GoodIn wsX3_countTouched (va_wsS RX3 179 yX2_shineOfKind wsX2_shineOfKind) := goodIn_app (goodIn_of _ (by decide +kernel)) ggX3_countTouched_X2_shineOfKind
theorem dX3_countTouched_0 : decode cX3_countTouched 0 = .ok (.iconst 0, 1) := by decide +kernel
theorem dX3_countTouched_1 : decode cX3_countTouched 1 = .ok (.istore 6, 2) := by decide +kernel
theorem dX3_countTouched_3 : decode cX3_countTouched 3 = .ok (.iconst 0, 1) := by decide +kernel
theorem dX3_countTouched_4 : decode cX3_countTouched 4 = .ok (.istore 7, 2) := by decide +kernel
theorem dX3_countTouched_6 : decode cX3_countTouched 6 = .ok (.iload 7, 2) := by decide +kernel
theorem dX3_countTouched_8 : decode cX3_countTouched 8 = .ok (.aload_n 1, 1) := by decide +kernel
theorem dX3_countTouched_9 : decode cX3_countTouched 9 = .ok (.invokevirtual 175, 3) := by decide +kernel
theorem dX3_countTouched_12 : decode cX3_countTouched 12 = .ok (.if_icmp .ge 43, 3) := by decide +kernel
theorem dX3_countTouched_15 : decode cX3_countTouched 15 = .ok (.aload_n 1, 1) := by decide +kernel
theorem dX3_countTouched_16 : decode cX3_countTouched 16 = .ok (.iload 7, 2) := by decide +kernel
theorem dX3_countTouched_18 : decode cX3_countTouched 18 = .ok (.iload 5, 2) := by decide +kernel
theorem dX3_countTouched_20 : decode cX3_countTouched 20 = .ok (.invokevirtual 168, 3) := by decide +kernel
theorem dX3_countTouched_23 : decode cX3_countTouched 23 = .ok (.istore 8, 2) := by decide +kernel
theorem dX3_countTouched_25 : decode cX3_countTouched 25 = .ok (.aload_n 0, 1) := by decide +kernel
theorem dX3_countTouched_26 : decode cX3_countTouched 26 = .ok (.getfield 10, 3) := by decide +kernel
theorem dX3_countTouched_29 : decode cX3_countTouched 29 = .ok (.iload_n 2, 1) := by decide +kernel
theorem dX3_countTouched_30 : decode cX3_countTouched 30 = .ok (.iload 8, 2) := by decide +kernel
theorem dX3_countTouched_32 : decode cX3_countTouched 32 = .ok (.invokevirtual 176, 3) := by decide +kernel
theorem dX3_countTouched_35 : decode cX3_countTouched 35 = .ok (.iload_n 3, 1) := by decide +kernel
theorem dX3_countTouched_36 : decode cX3_countTouched 36 = .ok (.iload 4, 2) := by decide +kernel
theorem dX3_countTouched_38 : decode cX3_countTouched 38 = .ok (.iload 8, 2) := by decide +kernel
theorem dX3_countTouched_40 : decode cX3_countTouched 40 = .ok (.invokestatic 179, 3) := by decide +kernel
theorem dX3_countTouched_43 : decode cX3_countTouched 43 = .ok (.if_icmp .eq 6, 3) := by decide +kernel
theorem dX3_countTouched_46 : decode cX3_countTouched 46 = .ok (.iinc 6 1, 3) := by decide +kernel
theorem dX3_countTouched_49 : decode cX3_countTouched 49 = .ok (.iinc 7 1, 3) := by decide +kernel
theorem dX3_countTouched_52 : decode cX3_countTouched 52 = .ok (.goto (-46), 3) := by decide +kernel
theorem dX3_countTouched_55 : decode cX3_countTouched 55 = .ok (.iload 6, 2) := by decide +kernel
theorem dX3_countTouched_57 : decode cX3_countTouched 57 = .ok (.ireturn, 1) := by decide +kernel
set_option maxRecDepth 20000 in
theorem ggX3_mergedNow_X0_levelNow : GoodIn wsX3_mergedNow wsX0_levelNow := goodIn_r _ [13, 14, 15, 16, 17, 18, 19, 20, 21, 22, 12, 23, 24, 25, 26, 27, 36, 37, 38, 39, 40, 41, 42, 43, 44] (by decide +kernel) (by decide +kernel)
set_option maxRecDepth 20000 in
theorem gX3_mergedNow_X0_levelNow : GoodIn wsX3_mergedNow (wsV RX3 158 RX0 yX0_levelNow wsX0_levelNow) := goodIn_app (goodIn_of _ (by decide +kernel)) ggX3_mergedNow_X0_levelNow
set_option maxRecDepth 20000 in
theorem ggX3_mergedNow_X3_isChannel : GoodIn wsX3_mergedNow wsX3_isChannel := goodIn_r _ [27] (by decide +kernel) (by decide +kernel)
set_option maxRecDepth 20000 in
theorem gX3_mergedNow_X3_isChannel : GoodIn wsX3_mergedNow (va_wsS RX3 182 yX3_isChannel wsX3_isChannel) := goodIn_app (goodIn_of _ (by decide +kernel)) ggX3_mergedNow_X3_isChannel
theorem dX3_mergedNow_0 : decode cX3_mergedNow 0 = .ok (.aload_n 0, 1) := by decide +kernel
theorem dX3_mergedNow_1 : decode cX3_mergedNow 1 = .ok (.getfield 19, 3) := by decide +kernel
theorem dX3_mergedNow_4 : decode cX3_mergedNow 4 = .ok (.iload_n 1, 1) := by decide +kernel
theorem dX3_mergedNow_5 : decode cX3_mergedNow 5 = .ok (.invokevirtual 158, 3) := by decide +kernel
theorem dX3_mergedNow_8 : decode cX3_mergedNow 8 = .ok (.istore_n 2, 1) := by decide +kernel
theorem dX3_mergedNow_9 : decode cX3_mergedNow 9 = .ok (.aload_n 0, 1) := by decide +kernel
theorem dX3_mergedNow_10 : decode cX3_mergedNow 10 = .ok (.getfield 23, 3) := by decide +kernel
theorem dX3_mergedNow_13 : decode cX3_mergedNow 13 = .ok (.iload_n 1, 1) := by decide +kernel
theorem dX3_mergedNow_14 : decode cX3_mergedNow 14 = .ok (.invokevirtual 158, 3) := by decide +kernel
theorem dX3_mergedNow_17 : decode cX3_mergedNow 17 = .ok (.istore_n 3, 1) := by decide +kernel
theorem dX3_mergedNow_18 : decode cX3_mergedNow 18 = .ok (.iload_n 1, 1) := by decide +kernel
theorem dX3_mergedNow_19 : decode cX3_mergedNow 19 = .ok (.invokestatic 182, 3) := by decide +kernel
theorem dX3_mergedNow_22 : decode cX3_mergedNow 22 = .ok (.ifCond .eq 27, 3) := by decide +kernel
theorem dX3_mergedNow_25 : decode cX3_mergedNow 25 = .ok (.aload_n 0, 1) := by decide +kernel
theorem dX3_mergedNow_26 : decode cX3_mergedNow 26 = .ok (.getfield 33, 3) := by decide +kernel
theorem dX3_mergedNow_29 : decode cX3_mergedNow 29 = .ok (.iload_n 1, 1) := by decide +kernel
theorem dX3_mergedNow_30 : decode cX3_mergedNow 30 = .ok (.baload, 1) := by decide +kernel
theorem dX3_mergedNow_31 : decode cX3_mergedNow 31 = .ok (.ifCond .eq 18, 3) := by decide +kernel
theorem dX3_mergedNow_34 : decode cX3_mergedNow 34 = .ok (.aload_n 0, 1) := by decide +kernel
theorem dX3_mergedNow_35 : decode cX3_mergedNow 35 = .ok (.getfield 37, 3) := by decide +kernel
theorem dX3_mergedNow_38 : decode cX3_mergedNow 38 = .ok (.iload_n 1, 1) := by decide +kernel
theorem dX3_mergedNow_39 : decode cX3_mergedNow 39 = .ok (.iaload, 1) := by decide +kernel
theorem dX3_mergedNow_40 : decode cX3_mergedNow 40 = .ok (.ifCond .ne 7, 3) := by decide +kernel
theorem dX3_mergedNow_43 : decode cX3_mergedNow 43 = .ok (.iload_n 2, 1) := by decide +kernel
theorem dX3_mergedNow_44 : decode cX3_mergedNow 44 = .ok (.goto 4, 3) := by decide +kernel
theorem dX3_mergedNow_47 : decode cX3_mergedNow 47 = .ok (.iload_n 3, 1) := by decide +kernel
theorem dX3_mergedNow_48 : decode cX3_mergedNow 48 = .ok (.ireturn, 1) := by decide +kernel
theorem dX3_mergedNow_49 : decode cX3_mergedNow 49 = .ok (.iload_n 2, 1) := by decide +kernel
theorem dX3_mergedNow_50 : decode cX3_mergedNow 50 = .ok (.iload_n 3, 1) := by decide +kernel
theorem dX3_mergedNow_51 : decode cX3_mergedNow 51 = .ok (.invokestatic 186, 3) := by decide +kernel
theorem dX3_mergedNow_54 : decode cX3_mergedNow 54 = .ok (.ireturn, 1) := by decide +kernel
set_option maxRecDepth 20000 in
theorem ggX3_beginFrom_X3_cuesOf : GoodIn wsX3_beginFrom wsX3_cuesOf := goodIn_r _ [5, 6, 7, 50, 51, 52, 53, 54, 55, 56] (by decide +kernel) (by decide +kernel)
set_option maxRecDepth 20000 in
theorem gX3_beginFrom_X3_cuesOf : GoodIn wsX3_beginFrom (wsV RX3 104 RX3 yX3_cuesOf wsX3_cuesOf) := goodIn_app (goodIn_of _ (by decide +kernel)) ggX3_beginFrom_X3_cuesOf
set_option maxRecDepth 20000 in
theorem ggX3_beginFrom_X0_begin : GoodIn wsX3_beginFrom wsX0_begin := goodIn_r _ [12, 13, 14, 15, 16, 17, 18, 19, 11, 20, 21, 22, 23, 24, 25, 26, 27, 28, 4, 29, 30, 31, 32, 33, 34, 57, 58, 59, 60, 61, 62, 63, 64, 65] (by decide +kernel) (by decide +kernel)
set_option maxRecDepth 20000 in
theorem gX3_beginFrom_X0_begin : GoodIn wsX3_beginFrom (wsV RX3 191 RX0 yX0_begin wsX0_begin) := goodIn_app (goodIn_of _ (by decide +kernel)) ggX3_beginFrom_X0_begin
set_option maxRecDepth 20000 in
theorem ggX3_beginFrom_X3_noteLatest : GoodIn wsX3_beginFrom wsX3_noteLatest := goodIn_r _ [38, 39, 1, 2, 3, 4, 5, 6, 7, 40, 31, 32, 11, 33, 34, 23, 24, 25, 26, 27, 28, 29, 50, 51, 52, 53, 54, 55, 56, 57, 58, 59, 60, 61, 62, 63, 64, 65] (by decide +kernel) (by decide +kernel)
set_option maxRecDepth 20000 in
theorem gX3_beginFrom_X3_noteLatest : GoodIn wsX3_beginFrom (wsV RX3 194 RX3 yX3_noteLatest wsX3_noteLatest) := goodIn_app (goodIn_of _ (by decide +kernel)) ggX3_beginFrom_X3_noteLatest
set_option maxRecDepth 20000 in
theorem ggX3_beginFrom_X0_isOver : GoodIn wsX3_beginFrom wsX0_isOver := goodIn_r _ [44, 15, 16, 22, 21, 23, 24, 25, 11, 26, 27, 57, 58, 59, 60, 61, 62, 63, 64, 65] (by decide +kernel) (by decide +kernel)
set_option maxRecDepth 20000 in
theorem gX3_beginFrom_X0_isOver : GoodIn wsX3_beginFrom (wsV RX3 197 RX0 yX0_isOver wsX0_isOver) := goodIn_app (goodIn_of _ (by decide +kernel)) ggX3_beginFrom_X0_isOver
set_option maxRecDepth 20000 in
theorem ggX3_beginFrom_X0_follower : GoodIn wsX3_beginFrom wsX0_follower := goodIn_r _ [48, 15, 49, 23, 24, 25, 11, 26, 27, 57, 58, 59, 60, 61, 62, 63, 64, 65] (by decide +kernel) (by decide +kernel)
set_option maxRecDepth 20000 in
theorem gX3_beginFrom_X0_follower : GoodIn wsX3_beginFrom (wsV RX3 200 RX0 yX0_follower wsX0_follower) := goodIn_app (goodIn_of _ (by decide +kernel)) ggX3_beginFrom_X0_follower
theorem dX3_beginFrom_0 : decode cX3_beginFrom 0 = .ok (.aload_n 0, 1) := by decide +kernel
theorem dX3_beginFrom_1 : decode cX3_beginFrom 1 = .ok (.iload_n 1, 1) := by decide +kernel
theorem dX3_beginFrom_2 : decode cX3_beginFrom 2 = .ok (.invokevirtual 104, 3) := by decide +kernel
theorem dX3_beginFrom_5 : decode cX3_beginFrom 5 = .ok (.astore_n 3, 1) := by decide +kernel
theorem dX3_beginFrom_6 : decode cX3_beginFrom 6 = .ok (.iconst 0, 1) := by decide +kernel
theorem dX3_beginFrom_7 : decode cX3_beginFrom 7 = .ok (.istore 4, 2) := by decide +kernel
theorem dX3_beginFrom_9 : decode cX3_beginFrom 9 = .ok (.iload_n 2, 1) := by decide +kernel
theorem dX3_beginFrom_10 : decode cX3_beginFrom 10 = .ok (.istore 5, 2) := by decide +kernel
theorem dX3_beginFrom_12 : decode cX3_beginFrom 12 = .ok (.iload 5, 2) := by decide +kernel
theorem dX3_beginFrom_14 : decode cX3_beginFrom 14 = .ok (.iconst (-1), 1) := by decide +kernel
theorem dX3_beginFrom_15 : decode cX3_beginFrom 15 = .ok (.if_icmp .eq 46, 3) := by decide +kernel
theorem dX3_beginFrom_18 : decode cX3_beginFrom 18 = .ok (.iload 4, 2) := by decide +kernel
theorem dX3_beginFrom_20 : decode cX3_beginFrom 20 = .ok (.bipush 10, 2) := by decide +kernel
theorem dX3_beginFrom_22 : decode cX3_beginFrom 22 = .ok (.if_icmp .ge 39, 3) := by decide +kernel
theorem dX3_beginFrom_25 : decode cX3_beginFrom 25 = .ok (.aload_n 3, 1) := by decide +kernel
theorem dX3_beginFrom_26 : decode cX3_beginFrom 26 = .ok (.iload 5, 2) := by decide +kernel
theorem dX3_beginFrom_28 : decode cX3_beginFrom 28 = .ok (.invokevirtual 191, 3) := by decide +kernel
theorem dX3_beginFrom_31 : decode cX3_beginFrom 31 = .ok (.aload_n 0, 1) := by decide +kernel
theorem dX3_beginFrom_32 : decode cX3_beginFrom 32 = .ok (.iload_n 1, 1) := by decide +kernel
theorem dX3_beginFrom_33 : decode cX3_beginFrom 33 = .ok (.iload 5, 2) := by decide +kernel
theorem dX3_beginFrom_35 : decode cX3_beginFrom 35 = .ok (.invokevirtual 194, 3) := by decide +kernel
theorem dX3_beginFrom_38 : decode cX3_beginFrom 38 = .ok (.iinc 4 1, 3) := by decide +kernel
theorem dX3_beginFrom_41 : decode cX3_beginFrom 41 = .ok (.aload_n 3, 1) := by decide +kernel
theorem dX3_beginFrom_42 : decode cX3_beginFrom 42 = .ok (.invokevirtual 197, 3) := by decide +kernel
theorem dX3_beginFrom_45 : decode cX3_beginFrom 45 = .ok (.ifCond .eq 10, 3) := by decide +kernel
theorem dX3_beginFrom_48 : decode cX3_beginFrom 48 = .ok (.aload_n 3, 1) := by decide +kernel
theorem dX3_beginFrom_49 : decode cX3_beginFrom 49 = .ok (.invokevirtual 200, 3) := by decide +kernel
theorem dX3_beginFrom_52 : decode cX3_beginFrom 52 = .ok (.goto 4, 3) := by decide +kernel
theorem dX3_beginFrom_55 : decode cX3_beginFrom 55 = .ok (.iconst (-1), 1) := by decide +kernel
theorem dX3_beginFrom_56 : decode cX3_beginFrom 56 = .ok (.istore 5, 2) := by decide +kernel
theorem dX3_beginFrom_58 : decode cX3_beginFrom 58 = .ok (.goto (-46), 3) := by decide +kernel
theorem dX3_beginFrom_61 : decode cX3_beginFrom 61 = .ok (.iload 4, 2) := by decide +kernel
theorem dX3_beginFrom_63 : decode cX3_beginFrom 63 = .ok (.ireturn, 1) := by decide +kernel
end
section
set_option maxRecDepth 20000 in
theorem ggX3_noteLatest_X3_cuesOf : GoodIn wsX3_noteLatest wsX3_cuesOf := goodIn_r _ [6, 7, 8, 22, 23, 24, 25, 26, 27, 28] (by decide +kernel) (by decide +kernel)
set_option maxRecDepth 20000 in
theorem gX3_noteLatest_X3_cuesOf : GoodIn wsX3_noteLatest (wsV RX3 104 RX3 yX3_cuesOf wsX3_cuesOf) := goodIn_app (goodIn_of _ (by decide +kernel)) ggX3_noteLatest_X3_cuesOf
set_option maxRecDepth 20000 in
theorem ggX3_noteLatest_X0_told : GoodIn wsX3_noteLatest wsX0_told := goodIn_r _ [13, 14, 15, 16, 17, 12, 18, 19, 20, 5, 21, 29, 30, 31, 32, 33, 34, 35, 36, 37] (by decide +kernel) (by decide +kernel)
set_option maxRecDepth 20000 in
theorem gX3_noteLatest_X0_told : GoodIn wsX3_noteLatest (wsV RX3 120 RX0 yX0_told wsX0_told) := goodIn_app (goodIn_of _ (by decide +kernel)) ggX3_noteLatest_X0_told
theorem dX3_noteLatest_0 : decode cX3_noteLatest 0 = .ok (.aload_n 0, 1) := by decide +kernel
theorem dX3_noteLatest_1 : decode cX3_noteLatest 1 = .ok (.iload_n 1, 1) := by decide +kernel
theorem dX3_noteLatest_2 : decode cX3_noteLatest 2 = .ok (.invokevirtual 104, 3) := by decide +kernel
theorem dX3_noteLatest_5 : decode cX3_noteLatest 5 = .ok (.astore_n 3, 1) := by decide +kernel
theorem dX3_noteLatest_6 : decode cX3_noteLatest 6 = .ok (.iconst 0, 1) := by decide +kernel
theorem dX3_noteLatest_7 : decode cX3_noteLatest 7 = .ok (.istore 4, 2) := by decide +kernel
theorem dX3_noteLatest_9 : decode cX3_noteLatest 9 = .ok (.iload 4, 2) := by decide +kernel
theorem dX3_noteLatest_11 : decode cX3_noteLatest 11 = .ok (.bipush 12, 2) := by decide +kernel
theorem dX3_noteLatest_13 : decode cX3_noteLatest 13 = .ok (.if_icmp .ge 28, 3) := by decide +kernel
theorem dX3_noteLatest_16 : decode cX3_noteLatest 16 = .ok (.aload_n 3, 1) := by decide +kernel
theorem dX3_noteLatest_17 : decode cX3_noteLatest 17 = .ok (.iload_n 2, 1) := by decide +kernel
theorem dX3_noteLatest_18 : decode cX3_noteLatest 18 = .ok (.iload 4, 2) := by decide +kernel
theorem dX3_noteLatest_20 : decode cX3_noteLatest 20 = .ok (.invokevirtual 120, 3) := by decide +kernel
theorem dX3_noteLatest_23 : decode cX3_noteLatest 23 = .ok (.iconst (-1), 1) := by decide +kernel
theorem dX3_noteLatest_24 : decode cX3_noteLatest 24 = .ok (.if_icmp .eq 11, 3) := by decide +kernel
theorem dX3_noteLatest_27 : decode cX3_noteLatest 27 = .ok (.aload_n 0, 1) := by decide +kernel
theorem dX3_noteLatest_28 : decode cX3_noteLatest 28 = .ok (.getfield 37, 3) := by decide +kernel
theorem dX3_noteLatest_31 : decode cX3_noteLatest 31 = .ok (.iload 4, 2) := by decide +kernel
theorem dX3_noteLatest_33 : decode cX3_noteLatest 33 = .ok (.iload_n 1, 1) := by decide +kernel
theorem dX3_noteLatest_34 : decode cX3_noteLatest 34 = .ok (.iastore, 1) := by decide +kernel
theorem dX3_noteLatest_35 : decode cX3_noteLatest 35 = .ok (.iinc 4 1, 3) := by decide +kernel
theorem dX3_noteLatest_38 : decode cX3_noteLatest 38 = .ok (.goto (-29), 3) := by decide +kernel
theorem dX3_noteLatest_41 : decode cX3_noteLatest 41 = .ok (.return_, 1) := by decide +kernel
set_option maxRecDepth 20000 in
theorem ggX3_passTenth_X3_cuesOf : GoodIn wsX3_passTenth wsX3_cuesOf := goodIn_r _ [5, 6, 7, 59, 60, 61, 62, 63, 64, 65] (by decide +kernel) (by decide +kernel)
set_option maxRecDepth 20000 in
theorem gX3_passTenth_X3_cuesOf : GoodIn wsX3_passTenth (wsV RX3 104 RX3 yX3_cuesOf wsX3_cuesOf) := goodIn_app (goodIn_of _ (by decide +kernel)) ggX3_passTenth_X3_cuesOf
set_option maxRecDepth 20000 in
theorem ggX3_passTenth_X0_endsInNextTenth : GoodIn wsX3_passTenth wsX0_endsInNextTenth := goodIn_r _ [12, 13, 14, 15, 16, 11, 17, 18, 19, 20, 21, 22, 23, 24, 25, 66, 67, 68, 69, 70, 71, 72, 73, 74] (by decide +kernel) (by decide +kernel)
set_option maxRecDepth 20000 in
theorem gX3_passTenth_X0_endsInNextTenth : GoodIn wsX3_passTenth (wsV RX3 203 RX0 yX0_endsInNextTenth wsX0_endsInNextTenth) := goodIn_app (goodIn_of _ (by decide +kernel)) ggX3_passTenth_X0_endsInNextTenth
set_option maxRecDepth 20000 in
theorem ggX3_passTenth_X0_follower : GoodIn wsX3_passTenth wsX0_follower := goodIn_r _ [29, 18, 30, 21, 22, 23, 11, 24, 25, 66, 67, 68, 69, 70, 71, 72, 73, 74] (by decide +kernel) (by decide +kernel)
set_option maxRecDepth 20000 in
theorem gX3_passTenth_X0_follower : GoodIn wsX3_passTenth (wsV RX3 200 RX0 yX0_follower wsX0_follower) := goodIn_app (goodIn_of _ (by decide +kernel)) ggX3_passTenth_X0_follower
set_option maxRecDepth 20000 in
theorem ggX3_passTenth_X3_beginFrom : GoodIn wsX3_passTenth wsX3_beginFrom := goodIn_r _ [34, 1, 2, 3, 4, 5, 6, 7, 35, 36, 37, 11, 38, 39, 40, 18, 13, 41, 42, 43, 44, 20, 19, 21, 22, 23, 24, 25, 45, 46, 47, 48, 49, 50, 51, 52, 53, 54, 55, 56, 57, 58, 15, 16, 17, 26, 27, 28, 29, 30, 59, 60, 61, 62, 63, 64, 65, 66, 67, 68, 69, 70, 71, 72, 73, 74] (by decide +kernel) (by decide +kernel)
set_option maxRecDepth 20000 in
theorem gX3_passTenth_X3_beginFrom : GoodIn wsX3_passTenth (wsV RX3 144 RX3 yX3_beginFrom wsX3_beginFrom) := goodIn_app (goodIn_of _ (by decide +kernel)) ggX3_passTenth_X3_beginFrom
theorem dX3_passTenth_0 : decode cX3_passTenth 0 = .ok (.aload_n 0, 1) := by decide +kernel
theorem dX3_passTenth_1 : decode cX3_passTenth 1 = .ok (.iload_n 1, 1) := by decide +kernel
theorem dX3_passTenth_2 : decode cX3_passTenth 2 = .ok (.invokevirtual 104, 3) := by decide +kernel
theorem dX3_passTenth_5 : decode cX3_passTenth 5 = .ok (.astore_n 2, 1) := by decide +kernel
theorem dX3_passTenth_6 : decode cX3_passTenth 6 = .ok (.aload_n 2, 1) := by decide +kernel
theorem dX3_passTenth_7 : decode cX3_passTenth 7 = .ok (.invokevirtual 203, 3) := by decide +kernel
theorem dX3_passTenth_10 : decode cX3_passTenth 10 = .ok (.ifCond .eq 15, 3) := by decide +kernel
theorem dX3_passTenth_13 : decode cX3_passTenth 13 = .ok (.aload_n 0, 1) := by decide +kernel
theorem dX3_passTenth_14 : decode cX3_passTenth 14 = .ok (.iload_n 1, 1) := by decide +kernel
theorem dX3_passTenth_15 : decode cX3_passTenth 15 = .ok (.aload_n 2, 1) := by decide +kernel
theorem dX3_passTenth_16 : decode cX3_passTenth 16 = .ok (.invokevirtual 200, 3) := by decide +kernel
theorem dX3_passTenth_19 : decode cX3_passTenth 19 = .ok (.invokevirtual 144, 3) := by decide +kernel
theorem dX3_passTenth_22 : decode cX3_passTenth 22 = .ok (.goto 4, 3) := by decide +kernel
theorem dX3_passTenth_25 : decode cX3_passTenth 25 = .ok (.iconst 0, 1) := by decide +kernel
theorem dX3_passTenth_26 : decode cX3_passTenth 26 = .ok (.ireturn, 1) := by decide +kernel
set_option maxRecDepth 20000 in
theorem ggX3_takeBackLast_X1_lastPart : GoodIn wsX3_takeBackLast wsX1_lastPart := goodIn_r _ [7, 8, 9, 10, 11, 6, 12, 13, 14, 15, 16, 63, 64, 65] (by decide +kernel) (by decide +kernel)
set_option maxRecDepth 20000 in
theorem gX3_takeBackLast_X1_lastPart : GoodIn wsX3_takeBackLast (wsV RX3 206 RX1 yX1_lastPart wsX1_lastPart) := goodIn_app (goodIn_of _ (by decide +kernel)) ggX3_takeBackLast_X1_lastPart
set_option maxRecDepth 20000 in
theorem ggX3_takeBackLast_X2_setKind : GoodIn wsX3_takeBackLast wsX2_setKind := goodIn_r _ [21, 22, 23, 24, 25, 26, 20, 27, 28, 66, 67, 68, 69] (by decide +kernel) (by decide +kernel)
set_option maxRecDepth 20000 in
theorem gX3_takeBackLast_X2_setKind : GoodIn wsX3_takeBackLast (wsV RX3 75 RX2 yX2_setKind wsX2_setKind) := goodIn_app (goodIn_of _ (by decide +kernel)) ggX3_takeBackLast_X2_setKind
set_option maxRecDepth 20000 in
theorem ggX3_takeBackLast_X2_setChannel : GoodIn wsX3_takeBackLast wsX2_setChannel := goodIn_r _ [32, 33, 34, 35, 36, 24, 25, 26, 20, 27, 28, 66, 67, 68, 69] (by decide +kernel) (by decide +kernel)
set_option maxRecDepth 20000 in
theorem gX3_takeBackLast_X2_setChannel : GoodIn wsX3_takeBackLast (wsV RX3 88 RX2 yX2_setChannel wsX2_setChannel) := goodIn_app (goodIn_of _ (by decide +kernel)) ggX3_takeBackLast_X2_setChannel
set_option maxRecDepth 20000 in
theorem ggX3_takeBackLast_X3_cuesOf : GoodIn wsX3_takeBackLast wsX3_cuesOf := goodIn_r _ [40, 41, 42, 56, 57, 58, 59, 60, 61, 62] (by decide +kernel) (by decide +kernel)
set_option maxRecDepth 20000 in
theorem gX3_takeBackLast_X3_cuesOf : GoodIn wsX3_takeBackLast (wsV RX3 104 RX3 yX3_cuesOf wsX3_cuesOf) := goodIn_app (goodIn_of _ (by decide +kernel)) ggX3_takeBackLast_X3_cuesOf
set_option maxRecDepth 20000 in
theorem ggX3_takeBackLast_X0_tell : GoodIn wsX3_takeBackLast wsX0_tell := goodIn_r _ [47, 48, 49, 50, 51, 46, 52, 53, 54, 35, 55, 70, 71, 72, 73, 74, 75, 76, 77, 78] (by decide +kernel) (by decide +kernel)
set_option maxRecDepth 20000 in
theorem gX3_takeBackLast_X0_tell : GoodIn wsX3_takeBackLast (wsV RX3 123 RX0 yX0_tell wsX0_tell) := goodIn_app (goodIn_of _ (by decide +kernel)) ggX3_takeBackLast_X0_tell
theorem dX3_takeBackLast_0 : decode cX3_takeBackLast 0 = .ok (.aload_n 0, 1) := by decide +kernel
theorem dX3_takeBackLast_1 : decode cX3_takeBackLast 1 = .ok (.getfield 29, 3) := by decide +kernel
theorem dX3_takeBackLast_4 : decode cX3_takeBackLast 4 = .ok (.iconst 1, 1) := by decide +kernel
theorem dX3_takeBackLast_5 : decode cX3_takeBackLast 5 = .ok (.invokevirtual 206, 3) := by decide +kernel
theorem dX3_takeBackLast_8 : decode cX3_takeBackLast 8 = .ok (.istore_n 1, 1) := by decide +kernel
theorem dX3_takeBackLast_9 : decode cX3_takeBackLast 9 = .ok (.aload_n 0, 1) := by decide +kernel
theorem dX3_takeBackLast_10 : decode cX3_takeBackLast 10 = .ok (.getfield 29, 3) := by decide +kernel
theorem dX3_takeBackLast_13 : decode cX3_takeBackLast 13 = .ok (.iconst 2, 1) := by decide +kernel
theorem dX3_takeBackLast_14 : decode cX3_takeBackLast 14 = .ok (.invokevirtual 206, 3) := by decide +kernel
theorem dX3_takeBackLast_17 : decode cX3_takeBackLast 17 = .ok (.istore_n 2, 1) := by decide +kernel
theorem dX3_takeBackLast_18 : decode cX3_takeBackLast 18 = .ok (.aload_n 0, 1) := by decide +kernel
theorem dX3_takeBackLast_19 : decode cX3_takeBackLast 19 = .ok (.getfield 29, 3) := by decide +kernel
theorem dX3_takeBackLast_22 : decode cX3_takeBackLast 22 = .ok (.iconst 3, 1) := by decide +kernel
theorem dX3_takeBackLast_23 : decode cX3_takeBackLast 23 = .ok (.invokevirtual 206, 3) := by decide +kernel
theorem dX3_takeBackLast_26 : decode cX3_takeBackLast 26 = .ok (.istore_n 3, 1) := by decide +kernel
theorem dX3_takeBackLast_27 : decode cX3_takeBackLast 27 = .ok (.aload_n 0, 1) := by decide +kernel
theorem dX3_takeBackLast_28 : decode cX3_takeBackLast 28 = .ok (.getfield 29, 3) := by decide +kernel
theorem dX3_takeBackLast_31 : decode cX3_takeBackLast 31 = .ok (.iconst 4, 1) := by decide +kernel
theorem dX3_takeBackLast_32 : decode cX3_takeBackLast 32 = .ok (.invokevirtual 206, 3) := by decide +kernel
theorem dX3_takeBackLast_35 : decode cX3_takeBackLast 35 = .ok (.istore 4, 2) := by decide +kernel
theorem dX3_takeBackLast_37 : decode cX3_takeBackLast 37 = .ok (.aload_n 0, 1) := by decide +kernel
theorem dX3_takeBackLast_38 : decode cX3_takeBackLast 38 = .ok (.getfield 29, 3) := by decide +kernel
theorem dX3_takeBackLast_41 : decode cX3_takeBackLast 41 = .ok (.iconst 0, 1) := by decide +kernel
theorem dX3_takeBackLast_42 : decode cX3_takeBackLast 42 = .ok (.invokevirtual 206, 3) := by decide +kernel
theorem dX3_takeBackLast_45 : decode cX3_takeBackLast 45 = .ok (.lookupswitch 53 #[(0, 27), (1, 40)], 27) := by decide +kernel
theorem dX3_takeBackLast_72 : decode cX3_takeBackLast 72 = .ok (.aload_n 0, 1) := by decide +kernel
theorem dX3_takeBackLast_73 : decode cX3_takeBackLast 73 = .ok (.getfield 10, 3) := by decide +kernel
theorem dX3_takeBackLast_76 : decode cX3_takeBackLast 76 = .ok (.iload_n 1, 1) := by decide +kernel
theorem dX3_takeBackLast_77 : decode cX3_takeBackLast 77 = .ok (.iload_n 2, 1) := by decide +kernel
theorem dX3_takeBackLast_78 : decode cX3_takeBackLast 78 = .ok (.iload_n 3, 1) := by decide +kernel
theorem dX3_takeBackLast_79 : decode cX3_takeBackLast 79 = .ok (.invokevirtual 75, 3) := by decide +kernel
theorem dX3_takeBackLast_82 : decode cX3_takeBackLast 82 = .ok (.goto 28, 3) := by decide +kernel
theorem dX3_takeBackLast_85 : decode cX3_takeBackLast 85 = .ok (.aload_n 0, 1) := by decide +kernel
theorem dX3_takeBackLast_86 : decode cX3_takeBackLast 86 = .ok (.getfield 10, 3) := by decide +kernel
theorem dX3_takeBackLast_89 : decode cX3_takeBackLast 89 = .ok (.iload_n 1, 1) := by decide +kernel
theorem dX3_takeBackLast_90 : decode cX3_takeBackLast 90 = .ok (.iload_n 2, 1) := by decide +kernel
theorem dX3_takeBackLast_91 : decode cX3_takeBackLast 91 = .ok (.iload_n 3, 1) := by decide +kernel
theorem dX3_takeBackLast_92 : decode cX3_takeBackLast 92 = .ok (.invokevirtual 88, 3) := by decide +kernel
theorem dX3_takeBackLast_95 : decode cX3_takeBackLast 95 = .ok (.goto 15, 3) := by decide +kernel
theorem dX3_takeBackLast_98 : decode cX3_takeBackLast 98 = .ok (.aload_n 0, 1) := by decide +kernel
theorem dX3_takeBackLast_99 : decode cX3_takeBackLast 99 = .ok (.iload_n 1, 1) := by decide +kernel
theorem dX3_takeBackLast_100 : decode cX3_takeBackLast 100 = .ok (.invokevirtual 104, 3) := by decide +kernel
theorem dX3_takeBackLast_103 : decode cX3_takeBackLast 103 = .ok (.iload_n 2, 1) := by decide +kernel
theorem dX3_takeBackLast_104 : decode cX3_takeBackLast 104 = .ok (.iload_n 3, 1) := by decide +kernel
theorem dX3_takeBackLast_105 : decode cX3_takeBackLast 105 = .ok (.iload 4, 2) := by decide +kernel
theorem dX3_takeBackLast_107 : decode cX3_takeBackLast 107 = .ok (.invokevirtual 123, 3) := by decide +kernel
theorem dX3_takeBackLast_110 : decode cX3_takeBackLast 110 = .ok (.return_, 1) := by decide +kernel
theorem dX3_cuesOf_0 : decode cX3_cuesOf 0 = .ok (.iload_n 1, 1) := by decide +kernel
theorem dX3_cuesOf_1 : decode cX3_cuesOf 1 = .ok (.ifCond .ne 10, 3) := by decide +kernel
theorem dX3_cuesOf_4 : decode cX3_cuesOf 4 = .ok (.aload_n 0, 1) := by decide +kernel
theorem dX3_cuesOf_5 : decode cX3_cuesOf 5 = .ok (.getfield 19, 3) := by decide +kernel
theorem dX3_cuesOf_8 : decode cX3_cuesOf 8 = .ok (.goto 7, 3) := by decide +kernel
theorem dX3_cuesOf_11 : decode cX3_cuesOf 11 = .ok (.aload_n 0, 1) := by decide +kernel
theorem dX3_cuesOf_12 : decode cX3_cuesOf 12 = .ok (.getfield 23, 3) := by decide +kernel
theorem dX3_cuesOf_15 : decode cX3_cuesOf 15 = .ok (.areturn, 1) := by decide +kernel
set_option maxRecDepth 20000 in
theorem ggX3_needLamp_X2_has : GoodIn wsX3_needLamp wsX2_has := goodIn_r _ [8, 9, 17, 18, 19, 20] (by decide +kernel) (by decide +kernel)
set_option maxRecDepth 20000 in
theorem gX3_needLamp_X2_has : GoodIn wsX3_needLamp (wsV RX3 209 RX2 yX2_has wsX2_has) := goodIn_app (goodIn_of _ (by decide +kernel)) ggX3_needLamp_X2_has
theorem dX3_needLamp_0 : decode cX3_needLamp 0 = .ok (.aload_n 0, 1) := by decide +kernel
theorem dX3_needLamp_1 : decode cX3_needLamp 1 = .ok (.getfield 10, 3) := by decide +kernel
theorem dX3_needLamp_4 : decode cX3_needLamp 4 = .ok (.iload_n 1, 1) := by decide +kernel
theorem dX3_needLamp_5 : decode cX3_needLamp 5 = .ok (.invokevirtual 209, 3) := by decide +kernel
theorem dX3_needLamp_8 : decode cX3_needLamp 8 = .ok (.ifCond .ne 13, 3) := by decide +kernel
theorem dX3_needLamp_11 : decode cX3_needLamp 11 = .ok (.new 212, 3) := by decide +kernel
theorem dX3_needLamp_14 : decode cX3_needLamp 14 = .ok (.dup, 1) := by decide +kernel
theorem dX3_needLamp_15 : decode cX3_needLamp 15 = .ok (.ldc 214, 2) := by decide +kernel
theorem dX3_needLamp_17 : decode cX3_needLamp 17 = .ok (.invokespecial 216, 3) := by decide +kernel
theorem dX3_needLamp_20 : decode cX3_needLamp 20 = .ok (.athrow, 1) := by decide +kernel
theorem dX3_needLamp_21 : decode cX3_needLamp 21 = .ok (.return_, 1) := by decide +kernel
set_option maxRecDepth 20000 in
theorem ggX3_needCue_X3_cuesOf : GoodIn wsX3_needCue wsX3_cuesOf := goodIn_r _ [7, 8, 9, 16, 17, 18, 19, 20, 21, 22] (by decide +kernel) (by decide +kernel)
set_option maxRecDepth 20000 in
theorem gX3_needCue_X3_cuesOf : GoodIn wsX3_needCue (wsV RX3 104 RX3 yX3_cuesOf wsX3_cuesOf) := goodIn_app (goodIn_of _ (by decide +kernel)) ggX3_needCue_X3_cuesOf
set_option maxRecDepth 20000 in
theorem ggX3_needCue_X0_has : GoodIn wsX3_needCue wsX0_has := goodIn_r _ [14, 15, 23, 24, 25, 26, 27, 28, 29, 30, 31] (by decide +kernel) (by decide +kernel)
set_option maxRecDepth 20000 in
theorem gX3_needCue_X0_has : GoodIn wsX3_needCue (wsV RX3 217 RX0 yX0_has wsX0_has) := goodIn_app (goodIn_of _ (by decide +kernel)) ggX3_needCue_X0_has
theorem dX3_needCue_0 : decode cX3_needCue 0 = .ok (.aload_n 0, 1) := by decide +kernel
theorem dX3_needCue_1 : decode cX3_needCue 1 = .ok (.iload_n 1, 1) := by decide +kernel
theorem dX3_needCue_2 : decode cX3_needCue 2 = .ok (.invokevirtual 104, 3) := by decide +kernel
theorem dX3_needCue_5 : decode cX3_needCue 5 = .ok (.iload_n 2, 1) := by decide +kernel
theorem dX3_needCue_6 : decode cX3_needCue 6 = .ok (.invokevirtual 217, 3) := by decide +kernel
theorem dX3_needCue_9 : decode cX3_needCue 9 = .ok (.ifCond .ne 13, 3) := by decide +kernel
theorem dX3_needCue_12 : decode cX3_needCue 12 = .ok (.new 212, 3) := by decide +kernel
theorem dX3_needCue_15 : decode cX3_needCue 15 = .ok (.dup, 1) := by decide +kernel
theorem dX3_needCue_16 : decode cX3_needCue 16 = .ok (.ldc 218, 2) := by decide +kernel
theorem dX3_needCue_18 : decode cX3_needCue 18 = .ok (.invokespecial 216, 3) := by decide +kernel
theorem dX3_needCue_21 : decode cX3_needCue 21 = .ok (.athrow, 1) := by decide +kernel
theorem dX3_needCue_22 : decode cX3_needCue 22 = .ok (.return_, 1) := by decide +kernel
theorem dX3_needLampKind_0 : decode cX3_needLampKind 0 = .ok (.iload_n 0, 1) := by decide +kernel
theorem dX3_needLampKind_1 : decode cX3_needLampKind 1 = .ok (.iconst 1, 1) := by decide +kernel
theorem dX3_needLampKind_2 : decode cX3_needLampKind 2 = .ok (.if_icmp .lt 9, 3) := by decide +kernel
theorem dX3_needLampKind_5 : decode cX3_needLampKind 5 = .ok (.iload_n 0, 1) := by decide +kernel
theorem dX3_needLampKind_6 : decode cX3_needLampKind 6 = .ok (.bipush 20, 2) := by decide +kernel
theorem dX3_needLampKind_8 : decode cX3_needLampKind 8 = .ok (.if_icmp .le 13, 3) := by decide +kernel
theorem dX3_needLampKind_11 : decode cX3_needLampKind 11 = .ok (.new 147, 3) := by decide +kernel
theorem dX3_needLampKind_14 : decode cX3_needLampKind 14 = .ok (.dup, 1) := by decide +kernel
theorem dX3_needLampKind_15 : decode cX3_needLampKind 15 = .ok (.ldc 220, 2) := by decide +kernel
theorem dX3_needLampKind_17 : decode cX3_needLampKind 17 = .ok (.invokespecial 151, 3) := by decide +kernel
theorem dX3_needLampKind_20 : decode cX3_needLampKind 20 = .ok (.athrow, 1) := by decide +kernel
theorem dX3_needLampKind_21 : decode cX3_needLampKind 21 = .ok (.iload_n 1, 1) := by decide +kernel
theorem dX3_needLampKind_22 : decode cX3_needLampKind 22 = .ok (.ifCond .lt 9, 3) := by decide +kernel
theorem dX3_needLampKind_25 : decode cX3_needLampKind 25 = .ok (.iload_n 1, 1) := by decide +kernel
theorem dX3_needLampKind_26 : decode cX3_needLampKind 26 = .ok (.bipush 7, 2) := by decide +kernel
theorem dX3_needLampKind_28 : decode cX3_needLampKind 28 = .ok (.if_icmp .le 13, 3) := by decide +kernel
theorem dX3_needLampKind_31 : decode cX3_needLampKind 31 = .ok (.new 147, 3) := by decide +kernel
theorem dX3_needLampKind_34 : decode cX3_needLampKind 34 = .ok (.dup, 1) := by decide +kernel
theorem dX3_needLampKind_35 : decode cX3_needLampKind 35 = .ok (.ldc 222, 2) := by decide +kernel
theorem dX3_needLampKind_37 : decode cX3_needLampKind 37 = .ok (.invokespecial 151, 3) := by decide +kernel
theorem dX3_needLampKind_40 : decode cX3_needLampKind 40 = .ok (.athrow, 1) := by decide +kernel
theorem dX3_needLampKind_41 : decode cX3_needLampKind 41 = .ok (.return_, 1) := by decide +kernel
theorem dX3_isNight_0 : decode cX3_isNight 0 = .ok (.iload_n 0, 1) := by decide +kernel
theorem dX3_isNight_1 : decode cX3_isNight 1 = .ok (.ifCond .lt 12, 3) := by decide +kernel
theorem dX3_isNight_4 : decode cX3_isNight 4 = .ok (.iload_n 0, 1) := by decide +kernel
theorem dX3_isNight_5 : decode cX3_isNight 5 = .ok (.iconst 4, 1) := by decide +kernel
theorem dX3_isNight_6 : decode cX3_isNight 6 = .ok (.if_icmp .ge 7, 3) := by decide +kernel
theorem dX3_isNight_9 : decode cX3_isNight 9 = .ok (.iconst 1, 1) := by decide +kernel
theorem dX3_isNight_10 : decode cX3_isNight 10 = .ok (.goto 4, 3) := by decide +kernel
theorem dX3_isNight_13 : decode cX3_isNight 13 = .ok (.iconst 0, 1) := by decide +kernel
theorem dX3_isNight_14 : decode cX3_isNight 14 = .ok (.ireturn, 1) := by decide +kernel
theorem dX3_isChannel_0 : decode cX3_isChannel 0 = .ok (.iload_n 0, 1) := by decide +kernel
theorem dX3_isChannel_1 : decode cX3_isChannel 1 = .ok (.ifCond .lt 13, 3) := by decide +kernel
theorem dX3_isChannel_4 : decode cX3_isChannel 4 = .ok (.iload_n 0, 1) := by decide +kernel
theorem dX3_isChannel_5 : decode cX3_isChannel 5 = .ok (.bipush 12, 2) := by decide +kernel
theorem dX3_isChannel_7 : decode cX3_isChannel 7 = .ok (.if_icmp .ge 7, 3) := by decide +kernel
theorem dX3_isChannel_10 : decode cX3_isChannel 10 = .ok (.iconst 1, 1) := by decide +kernel
theorem dX3_isChannel_11 : decode cX3_isChannel 11 = .ok (.goto 4, 3) := by decide +kernel
theorem dX3_isChannel_14 : decode cX3_isChannel 14 = .ok (.iconst 0, 1) := by decide +kernel
theorem dX3_isChannel_15 : decode cX3_isChannel 15 = .ok (.ireturn, 1) := by decide +kernel
set_option maxRecDepth 20000 in
theorem ggX3_needNight_X3_isNight : GoodIn wsX3_needNight wsX3_isNight := goodIn_r _ [6] (by decide +kernel) (by decide +kernel)
set_option maxRecDepth 20000 in
theorem gX3_needNight_X3_isNight : GoodIn wsX3_needNight (va_wsS RX3 224 yX3_isNight wsX3_isNight) := goodIn_app (goodIn_of _ (by decide +kernel)) ggX3_needNight_X3_isNight
theorem dX3_needNight_0 : decode cX3_needNight 0 = .ok (.iload_n 0, 1) := by decide +kernel
theorem dX3_needNight_1 : decode cX3_needNight 1 = .ok (.invokestatic 224, 3) := by decide +kernel
theorem dX3_needNight_4 : decode cX3_needNight 4 = .ok (.ifCond .ne 13, 3) := by decide +kernel
theorem dX3_needNight_7 : decode cX3_needNight 7 = .ok (.new 147, 3) := by decide +kernel
theorem dX3_needNight_10 : decode cX3_needNight 10 = .ok (.dup, 1) := by decide +kernel
theorem dX3_needNight_11 : decode cX3_needNight 11 = .ok (.ldc 227, 2) := by decide +kernel
theorem dX3_needNight_13 : decode cX3_needNight 13 = .ok (.invokespecial 151, 3) := by decide +kernel
theorem dX3_needNight_16 : decode cX3_needNight 16 = .ok (.athrow, 1) := by decide +kernel
theorem dX3_needNight_17 : decode cX3_needNight 17 = .ok (.return_, 1) := by decide +kernel
set_option maxRecDepth 20000 in
theorem ggX3_needChannel_X3_isChannel : GoodIn wsX3_needChannel wsX3_isChannel := goodIn_r _ [6] (by decide +kernel) (by decide +kernel)
set_option maxRecDepth 20000 in
theorem gX3_needChannel_X3_isChannel : GoodIn wsX3_needChannel (va_wsS RX3 182 yX3_isChannel wsX3_isChannel) := goodIn_app (goodIn_of _ (by decide +kernel)) ggX3_needChannel_X3_isChannel
theorem dX3_needChannel_0 : decode cX3_needChannel 0 = .ok (.iload_n 0, 1) := by decide +kernel
theorem dX3_needChannel_1 : decode cX3_needChannel 1 = .ok (.invokestatic 182, 3) := by decide +kernel
theorem dX3_needChannel_4 : decode cX3_needChannel 4 = .ok (.ifCond .ne 13, 3) := by decide +kernel
theorem dX3_needChannel_7 : decode cX3_needChannel 7 = .ok (.new 147, 3) := by decide +kernel
theorem dX3_needChannel_10 : decode cX3_needChannel 10 = .ok (.dup, 1) := by decide +kernel
theorem dX3_needChannel_11 : decode cX3_needChannel 11 = .ok (.ldc 229, 2) := by decide +kernel
theorem dX3_needChannel_13 : decode cX3_needChannel 13 = .ok (.invokespecial 151, 3) := by decide +kernel
theorem dX3_needChannel_16 : decode cX3_needChannel 16 = .ok (.athrow, 1) := by decide +kernel
theorem dX3_needChannel_17 : decode cX3_needChannel 17 = .ok (.return_, 1) := by decide +kernel
set_option maxRecDepth 20000 in
theorem ggX3_needChannelOrNone_X3_needChannel : GoodIn wsX3_needChannelOrNone wsX3_needChannel := goodIn_ca (goodIn_r _ [4, 5, 6, 7, 8, 3, 9] (by decide +kernel) (by decide +kernel)) (goodIn_sub (fun _ h => List.mem_cons_of_mem _ (List.mem_append_right _ h)) (by decide +kernel))
set_option maxRecDepth 20000 in
theorem gX3_needChannelOrNone_X3_needChannel : GoodIn wsX3_needChannelOrNone (va_wsS RX3 95 yX3_needChannel wsX3_needChannel) := goodIn_app (goodIn_of _ (by decide +kernel)) ggX3_needChannelOrNone_X3_needChannel
theorem dX3_needChannelOrNone_0 : decode cX3_needChannelOrNone 0 = .ok (.iload_n 0, 1) := by decide +kernel
theorem dX3_needChannelOrNone_1 : decode cX3_needChannelOrNone 1 = .ok (.iconst (-1), 1) := by decide +kernel
theorem dX3_needChannelOrNone_2 : decode cX3_needChannelOrNone 2 = .ok (.if_icmp .eq 7, 3) := by decide +kernel
theorem dX3_needChannelOrNone_5 : decode cX3_needChannelOrNone 5 = .ok (.iload_n 0, 1) := by decide +kernel
theorem dX3_needChannelOrNone_6 : decode cX3_needChannelOrNone 6 = .ok (.invokestatic 95, 3) := by decide +kernel
theorem dX3_needChannelOrNone_9 : decode cX3_needChannelOrNone 9 = .ok (.return_, 1) := by decide +kernel
theorem dX3_needList_0 : decode cX3_needList 0 = .ok (.iload_n 0, 1) := by decide +kernel
theorem dX3_needList_1 : decode cX3_needList 1 = .ok (.ifCond .lt 8, 3) := by decide +kernel
theorem dX3_needList_4 : decode cX3_needList 4 = .ok (.iload_n 0, 1) := by decide +kernel
theorem dX3_needList_5 : decode cX3_needList 5 = .ok (.iconst 2, 1) := by decide +kernel
theorem dX3_needList_6 : decode cX3_needList 6 = .ok (.if_icmp .lt 13, 3) := by decide +kernel
theorem dX3_needList_9 : decode cX3_needList 9 = .ok (.new 147, 3) := by decide +kernel
theorem dX3_needList_12 : decode cX3_needList 12 = .ok (.dup, 1) := by decide +kernel
theorem dX3_needList_13 : decode cX3_needList 13 = .ok (.ldc 231, 2) := by decide +kernel
theorem dX3_needList_15 : decode cX3_needList 15 = .ok (.invokespecial 151, 3) := by decide +kernel
theorem dX3_needList_18 : decode cX3_needList 18 = .ok (.athrow, 1) := by decide +kernel
theorem dX3_needList_19 : decode cX3_needList 19 = .ok (.return_, 1) := by decide +kernel
theorem dX3_needTenths_0 : decode cX3_needTenths 0 = .ok (.iload_n 0, 1) := by decide +kernel
theorem dX3_needTenths_1 : decode cX3_needTenths 1 = .ok (.ifCond .lt 9, 3) := by decide +kernel
theorem dX3_needTenths_4 : decode cX3_needTenths 4 = .ok (.iload_n 0, 1) := by decide +kernel
theorem dX3_needTenths_5 : decode cX3_needTenths 5 = .ok (.bipush 100, 2) := by decide +kernel
theorem dX3_needTenths_7 : decode cX3_needTenths 7 = .ok (.if_icmp .le 13, 3) := by decide +kernel
theorem dX3_needTenths_10 : decode cX3_needTenths 10 = .ok (.new 147, 3) := by decide +kernel
theorem dX3_needTenths_13 : decode cX3_needTenths 13 = .ok (.dup, 1) := by decide +kernel
theorem dX3_needTenths_14 : decode cX3_needTenths 14 = .ok (.ldc 233, 2) := by decide +kernel
theorem dX3_needTenths_16 : decode cX3_needTenths 16 = .ok (.invokespecial 151, 3) := by decide +kernel
theorem dX3_needTenths_19 : decode cX3_needTenths 19 = .ok (.athrow, 1) := by decide +kernel
theorem dX3_needTenths_20 : decode cX3_needTenths 20 = .ok (.return_, 1) := by decide +kernel
theorem dX3_needLevelOrNone_0 : decode cX3_needLevelOrNone 0 = .ok (.iload_n 0, 1) := by decide +kernel
theorem dX3_needLevelOrNone_1 : decode cX3_needLevelOrNone 1 = .ok (.iconst (-1), 1) := by decide +kernel
theorem dX3_needLevelOrNone_2 : decode cX3_needLevelOrNone 2 = .ok (.if_icmp .eq 23, 3) := by decide +kernel
theorem dX3_needLevelOrNone_5 : decode cX3_needLevelOrNone 5 = .ok (.iload_n 0, 1) := by decide +kernel
theorem dX3_needLevelOrNone_6 : decode cX3_needLevelOrNone 6 = .ok (.ifCond .lt 9, 3) := by decide +kernel
theorem dX3_needLevelOrNone_9 : decode cX3_needLevelOrNone 9 = .ok (.iload_n 0, 1) := by decide +kernel
theorem dX3_needLevelOrNone_10 : decode cX3_needLevelOrNone 10 = .ok (.bipush 100, 2) := by decide +kernel
theorem dX3_needLevelOrNone_12 : decode cX3_needLevelOrNone 12 = .ok (.if_icmp .le 13, 3) := by decide +kernel
theorem dX3_needLevelOrNone_15 : decode cX3_needLevelOrNone 15 = .ok (.new 147, 3) := by decide +kernel
theorem dX3_needLevelOrNone_18 : decode cX3_needLevelOrNone 18 = .ok (.dup, 1) := by decide +kernel
theorem dX3_needLevelOrNone_19 : decode cX3_needLevelOrNone 19 = .ok (.ldc 235, 2) := by decide +kernel
theorem dX3_needLevelOrNone_21 : decode cX3_needLevelOrNone 21 = .ok (.invokespecial 151, 3) := by decide +kernel
theorem dX3_needLevelOrNone_24 : decode cX3_needLevelOrNone 24 = .ok (.athrow, 1) := by decide +kernel
theorem dX3_needLevelOrNone_25 : decode cX3_needLevelOrNone 25 = .ok (.return_, 1) := by decide +kernel
theorem dX4_init_0 : decode cX4_init 0 = .ok (.aload_n 0, 1) := by decide +kernel
theorem dX4_init_1 : decode cX4_init 1 = .ok (.invokespecial 1, 3) := by decide +kernel
theorem dX4_init_4 : decode cX4_init 4 = .ok (.aload_n 0, 1) := by decide +kernel
theorem dX4_init_5 : decode cX4_init 5 = .ok (.bipush 20, 2) := by decide +kernel
theorem dX4_init_7 : decode cX4_init 7 = .ok (.newarray .int, 2) := by decide +kernel
theorem dX4_init_9 : decode cX4_init 9 = .ok (.putfield 7, 3) := by decide +kernel
theorem dX4_init_12 : decode cX4_init 12 = .ok (.aload_n 0, 1) := by decide +kernel
theorem dX4_init_13 : decode cX4_init 13 = .ok (.bipush 20, 2) := by decide +kernel
theorem dX4_init_15 : decode cX4_init 15 = .ok (.newarray .int, 2) := by decide +kernel
theorem dX4_init_17 : decode cX4_init 17 = .ok (.putfield 13, 3) := by decide +kernel
theorem dX4_init_20 : decode cX4_init 20 = .ok (.aload_n 0, 1) := by decide +kernel
theorem dX4_init_21 : decode cX4_init 21 = .ok (.bipush 80, 2) := by decide +kernel
theorem dX4_init_23 : decode cX4_init 23 = .ok (.newarray .int, 2) := by decide +kernel
theorem dX4_init_25 : decode cX4_init 25 = .ok (.putfield 16, 3) := by decide +kernel
theorem dX4_init_28 : decode cX4_init 28 = .ok (.aload_n 0, 1) := by decide +kernel
theorem dX4_init_29 : decode cX4_init 29 = .ok (.bipush 12, 2) := by decide +kernel
theorem dX4_init_31 : decode cX4_init 31 = .ok (.newarray .int, 2) := by decide +kernel
theorem dX4_init_33 : decode cX4_init 33 = .ok (.putfield 19, 3) := by decide +kernel
theorem dX4_init_36 : decode cX4_init 36 = .ok (.aload_n 0, 1) := by decide +kernel
theorem dX4_init_37 : decode cX4_init 37 = .ok (.bipush 12, 2) := by decide +kernel
theorem dX4_init_39 : decode cX4_init 39 = .ok (.newarray .int, 2) := by decide +kernel
theorem dX4_init_41 : decode cX4_init 41 = .ok (.putfield 22, 3) := by decide +kernel
theorem dX4_init_44 : decode cX4_init 44 = .ok (.aload_n 0, 1) := by decide +kernel
theorem dX4_init_45 : decode cX4_init 45 = .ok (.iconst 2, 1) := by decide +kernel
theorem dX4_init_46 : decode cX4_init 46 = .ok (.newarray .int, 2) := by decide +kernel
theorem dX4_init_48 : decode cX4_init 48 = .ok (.putfield 25, 3) := by decide +kernel
theorem dX4_init_51 : decode cX4_init 51 = .ok (.aload_n 0, 1) := by decide +kernel
theorem dX4_init_52 : decode cX4_init 52 = .ok (.bipush 20, 2) := by decide +kernel
theorem dX4_init_54 : decode cX4_init 54 = .ok (.newarray .int, 2) := by decide +kernel
theorem dX4_init_56 : decode cX4_init 56 = .ok (.putfield 28, 3) := by decide +kernel
theorem dX4_init_59 : decode cX4_init 59 = .ok (.aload_n 0, 1) := by decide +kernel
theorem dX4_init_60 : decode cX4_init 60 = .ok (.bipush 20, 2) := by decide +kernel
theorem dX4_init_62 : decode cX4_init 62 = .ok (.newarray .int, 2) := by decide +kernel
theorem dX4_init_64 : decode cX4_init 64 = .ok (.putfield 31, 3) := by decide +kernel
theorem dX4_init_67 : decode cX4_init 67 = .ok (.aload_n 0, 1) := by decide +kernel
theorem dX4_init_68 : decode cX4_init 68 = .ok (.bipush 20, 2) := by decide +kernel
theorem dX4_init_70 : decode cX4_init 70 = .ok (.newarray .int, 2) := by decide +kernel
theorem dX4_init_72 : decode cX4_init 72 = .ok (.putfield 34, 3) := by decide +kernel
theorem dX4_init_75 : decode cX4_init 75 = .ok (.aload_n 0, 1) := by decide +kernel
theorem dX4_init_76 : decode cX4_init 76 = .ok (.sipush 240, 3) := by decide +kernel
theorem dX4_init_79 : decode cX4_init 79 = .ok (.newarray .int, 2) := by decide +kernel
theorem dX4_init_81 : decode cX4_init 81 = .ok (.putfield 37, 3) := by decide +kernel
theorem dX4_init_84 : decode cX4_init 84 = .ok (.aload_n 0, 1) := by decide +kernel
theorem dX4_init_85 : decode cX4_init 85 = .ok (.iconst 2, 1) := by decide +kernel
theorem dX4_init_86 : decode cX4_init 86 = .ok (.newarray .int, 2) := by decide +kernel
theorem dX4_init_88 : decode cX4_init 88 = .ok (.putfield 40, 3) := by decide +kernel
theorem dX4_init_91 : decode cX4_init 91 = .ok (.aload_n 0, 1) := by decide +kernel
theorem dX4_init_92 : decode cX4_init 92 = .ok (.iconst 2, 1) := by decide +kernel
theorem dX4_init_93 : decode cX4_init 93 = .ok (.newarray .int, 2) := by decide +kernel
theorem dX4_init_95 : decode cX4_init 95 = .ok (.putfield 43, 3) := by decide +kernel
theorem dX4_init_98 : decode cX4_init 98 = .ok (.aload_n 0, 1) := by decide +kernel
theorem dX4_init_99 : decode cX4_init 99 = .ok (.bipush 24, 2) := by decide +kernel
theorem dX4_init_101 : decode cX4_init 101 = .ok (.newarray .int, 2) := by decide +kernel
theorem dX4_init_103 : decode cX4_init 103 = .ok (.putfield 46, 3) := by decide +kernel
theorem dX4_init_106 : decode cX4_init 106 = .ok (.aload_n 0, 1) := by decide +kernel
theorem dX4_init_107 : decode cX4_init 107 = .ok (.bipush 24, 2) := by decide +kernel
theorem dX4_init_109 : decode cX4_init 109 = .ok (.newarray .int, 2) := by decide +kernel
theorem dX4_init_111 : decode cX4_init 111 = .ok (.putfield 49, 3) := by decide +kernel
theorem dX4_init_114 : decode cX4_init 114 = .ok (.aload_n 0, 1) := by decide +kernel
theorem dX4_init_115 : decode cX4_init 115 = .ok (.bipush 20, 2) := by decide +kernel
theorem dX4_init_117 : decode cX4_init 117 = .ok (.newarray .int, 2) := by decide +kernel
theorem dX4_init_119 : decode cX4_init 119 = .ok (.putfield 52, 3) := by decide +kernel
theorem dX4_init_122 : decode cX4_init 122 = .ok (.aload_n 0, 1) := by decide +kernel
theorem dX4_init_123 : decode cX4_init 123 = .ok (.bipush 20, 2) := by decide +kernel
theorem dX4_init_125 : decode cX4_init 125 = .ok (.newarray .int, 2) := by decide +kernel
theorem dX4_init_127 : decode cX4_init 127 = .ok (.putfield 55, 3) := by decide +kernel
theorem dX4_init_130 : decode cX4_init 130 = .ok (.aload_n 0, 1) := by decide +kernel
theorem dX4_init_131 : decode cX4_init 131 = .ok (.bipush 20, 2) := by decide +kernel
theorem dX4_init_133 : decode cX4_init 133 = .ok (.newarray .int, 2) := by decide +kernel
theorem dX4_init_135 : decode cX4_init 135 = .ok (.putfield 58, 3) := by decide +kernel
theorem dX4_init_138 : decode cX4_init 138 = .ok (.aload_n 0, 1) := by decide +kernel
theorem dX4_init_139 : decode cX4_init 139 = .ok (.bipush 20, 2) := by decide +kernel
theorem dX4_init_141 : decode cX4_init 141 = .ok (.newarray .int, 2) := by decide +kernel
theorem dX4_init_143 : decode cX4_init 143 = .ok (.putfield 61, 3) := by decide +kernel
theorem dX4_init_146 : decode cX4_init 146 = .ok (.aload_n 0, 1) := by decide +kernel
theorem dX4_init_147 : decode cX4_init 147 = .ok (.getfield 40, 3) := by decide +kernel
theorem dX4_init_150 : decode cX4_init 150 = .ok (.iconst 0, 1) := by decide +kernel
theorem dX4_init_151 : decode cX4_init 151 = .ok (.iconst (-1), 1) := by decide +kernel
theorem dX4_init_152 : decode cX4_init 152 = .ok (.iastore, 1) := by decide +kernel
theorem dX4_init_153 : decode cX4_init 153 = .ok (.aload_n 0, 1) := by decide +kernel
theorem dX4_init_154 : decode cX4_init 154 = .ok (.getfield 40, 3) := by decide +kernel
theorem dX4_init_157 : decode cX4_init 157 = .ok (.iconst 1, 1) := by decide +kernel
theorem dX4_init_158 : decode cX4_init 158 = .ok (.iconst (-1), 1) := by decide +kernel
theorem dX4_init_159 : decode cX4_init 159 = .ok (.iastore, 1) := by decide +kernel
theorem dX4_init_160 : decode cX4_init 160 = .ok (.return_, 1) := by decide +kernel
theorem dX4_thrown_0 : decode cX4_thrown 0 = .ok (.aload_n 0, 1) := by decide +kernel
theorem dX4_thrown_1 : decode cX4_thrown 1 = .ok (.getfield 64, 3) := by decide +kernel
theorem dX4_thrown_4 : decode cX4_thrown 4 = .ok (.ireturn, 1) := by decide +kernel
theorem dX4_fails_0 : decode cX4_fails 0 = .ok (.aload_n 0, 1) := by decide +kernel
theorem dX4_fails_1 : decode cX4_fails 1 = .ok (.iload_n 1, 1) := by decide +kernel
theorem dX4_fails_2 : decode cX4_fails 2 = .ok (.putfield 64, 3) := by decide +kernel
theorem dX4_fails_5 : decode cX4_fails 5 = .ok (.iconst 0, 1) := by decide +kernel
theorem dX4_fails_6 : decode cX4_fails 6 = .ok (.ireturn, 1) := by decide +kernel
theorem dX4_in_0 : decode cX4_in 0 = .ok (.iload_n 0, 1) := by decide +kernel
theorem dX4_in_1 : decode cX4_in 1 = .ok (.iload_n 1, 1) := by decide +kernel
theorem dX4_in_2 : decode cX4_in 2 = .ok (.if_icmp .lt 12, 3) := by decide +kernel
theorem dX4_in_5 : decode cX4_in 5 = .ok (.iload_n 0, 1) := by decide +kernel
theorem dX4_in_6 : decode cX4_in 6 = .ok (.iload_n 2, 1) := by decide +kernel
theorem dX4_in_7 : decode cX4_in 7 = .ok (.if_icmp .gt 7, 3) := by decide +kernel
theorem dX4_in_10 : decode cX4_in 10 = .ok (.iconst 1, 1) := by decide +kernel
theorem dX4_in_11 : decode cX4_in 11 = .ok (.goto 4, 3) := by decide +kernel
theorem dX4_in_14 : decode cX4_in 14 = .ok (.iconst 0, 1) := by decide +kernel
theorem dX4_in_15 : decode cX4_in 15 = .ok (.ireturn, 1) := by decide +kernel
set_option maxRecDepth 20000 in
theorem ggX4_isList_X4_in : GoodIn wsX4_isList wsX4_in := goodIn_r _ [4] (by decide +kernel) (by decide +kernel)
set_option maxRecDepth 20000 in
theorem gX4_isList_X4_in : GoodIn wsX4_isList (va_wsS RX4 68 yX4_in wsX4_in) := goodIn_app (goodIn_of _ (by decide +kernel)) ggX4_isList_X4_in
theorem dX4_isList_0 : decode cX4_isList 0 = .ok (.iload_n 0, 1) := by decide +kernel
theorem dX4_isList_1 : decode cX4_isList 1 = .ok (.iconst 0, 1) := by decide +kernel
theorem dX4_isList_2 : decode cX4_isList 2 = .ok (.iconst 1, 1) := by decide +kernel
theorem dX4_isList_3 : decode cX4_isList 3 = .ok (.invokestatic 68, 3) := by decide +kernel
theorem dX4_isList_6 : decode cX4_isList 6 = .ok (.ireturn, 1) := by decide +kernel
set_option maxRecDepth 20000 in
theorem ggX4_isChannel_X4_in : GoodIn wsX4_isChannel wsX4_in := goodIn_r _ [4] (by decide +kernel) (by decide +kernel)
set_option maxRecDepth 20000 in
theorem gX4_isChannel_X4_in : GoodIn wsX4_isChannel (va_wsS RX4 68 yX4_in wsX4_in) := goodIn_app (goodIn_of _ (by decide +kernel)) ggX4_isChannel_X4_in
theorem dX4_isChannel_0 : decode cX4_isChannel 0 = .ok (.iload_n 0, 1) := by decide +kernel
theorem dX4_isChannel_1 : decode cX4_isChannel 1 = .ok (.iconst 0, 1) := by decide +kernel
theorem dX4_isChannel_2 : decode cX4_isChannel 2 = .ok (.bipush 11, 2) := by decide +kernel
theorem dX4_isChannel_4 : decode cX4_isChannel 4 = .ok (.invokestatic 68, 3) := by decide +kernel
theorem dX4_isChannel_7 : decode cX4_isChannel 7 = .ok (.ireturn, 1) := by decide +kernel
set_option maxRecDepth 20000 in
theorem ggX4_isNight_X4_in : GoodIn wsX4_isNight wsX4_in := goodIn_r _ [4] (by decide +kernel) (by decide +kernel)
set_option maxRecDepth 20000 in
theorem gX4_isNight_X4_in : GoodIn wsX4_isNight (va_wsS RX4 68 yX4_in wsX4_in) := goodIn_app (goodIn_of _ (by decide +kernel)) ggX4_isNight_X4_in
theorem dX4_isNight_0 : decode cX4_isNight 0 = .ok (.iload_n 0, 1) := by decide +kernel
theorem dX4_isNight_1 : decode cX4_isNight 1 = .ok (.iconst 0, 1) := by decide +kernel
theorem dX4_isNight_2 : decode cX4_isNight 2 = .ok (.iconst 3, 1) := by decide +kernel
theorem dX4_isNight_3 : decode cX4_isNight 3 = .ok (.invokestatic 68, 3) := by decide +kernel
theorem dX4_isNight_6 : decode cX4_isNight 6 = .ok (.ireturn, 1) := by decide +kernel
set_option maxRecDepth 20000 in
theorem ggX4_isMade_X4_in : GoodIn wsX4_isMade wsX4_in := goodIn_r _ [4] (by decide +kernel) (by decide +kernel)
set_option maxRecDepth 20000 in
theorem gX4_isMade_X4_in : GoodIn wsX4_isMade (va_wsS RX4 68 yX4_in wsX4_in) := goodIn_app (goodIn_of _ (by decide +kernel)) ggX4_isMade_X4_in
theorem dX4_isMade_0 : decode cX4_isMade 0 = .ok (.iload_n 0, 1) := by decide +kernel
theorem dX4_isMade_1 : decode cX4_isMade 1 = .ok (.iconst 1, 1) := by decide +kernel
theorem dX4_isMade_2 : decode cX4_isMade 2 = .ok (.bipush 20, 2) := by decide +kernel
theorem dX4_isMade_4 : decode cX4_isMade 4 = .ok (.invokestatic 68, 3) := by decide +kernel
theorem dX4_isMade_7 : decode cX4_isMade 7 = .ok (.ifCond .eq 17, 3) := by decide +kernel
theorem dX4_isMade_10 : decode cX4_isMade 10 = .ok (.iload_n 1, 1) := by decide +kernel
theorem dX4_isMade_11 : decode cX4_isMade 11 = .ok (.iconst 0, 1) := by decide +kernel
theorem dX4_isMade_12 : decode cX4_isMade 12 = .ok (.bipush 7, 2) := by decide +kernel
theorem dX4_isMade_14 : decode cX4_isMade 14 = .ok (.invokestatic 68, 3) := by decide +kernel
theorem dX4_isMade_17 : decode cX4_isMade 17 = .ok (.ifCond .eq 7, 3) := by decide +kernel
theorem dX4_isMade_20 : decode cX4_isMade 20 = .ok (.iconst 1, 1) := by decide +kernel
theorem dX4_isMade_21 : decode cX4_isMade 21 = .ok (.goto 4, 3) := by decide +kernel
theorem dX4_isMade_24 : decode cX4_isMade 24 = .ok (.iconst 0, 1) := by decide +kernel
theorem dX4_isMade_25 : decode cX4_isMade 25 = .ok (.ireturn, 1) := by decide +kernel
set_option maxRecDepth 20000 in
theorem ggX4_isLamp_X4_in : GoodIn wsX4_isLamp wsX4_in := goodIn_r _ [5] (by decide +kernel) (by decide +kernel)
set_option maxRecDepth 20000 in
theorem gX4_isLamp_X4_in : GoodIn wsX4_isLamp (va_wsS RX4 68 yX4_in wsX4_in) := goodIn_app (goodIn_of _ (by decide +kernel)) ggX4_isLamp_X4_in
theorem dX4_isLamp_0 : decode cX4_isLamp 0 = .ok (.iload_n 1, 1) := by decide +kernel
theorem dX4_isLamp_1 : decode cX4_isLamp 1 = .ok (.iconst 0, 1) := by decide +kernel
theorem dX4_isLamp_2 : decode cX4_isLamp 2 = .ok (.aload_n 0, 1) := by decide +kernel
theorem dX4_isLamp_3 : decode cX4_isLamp 3 = .ok (.getfield 72, 3) := by decide +kernel
theorem dX4_isLamp_6 : decode cX4_isLamp 6 = .ok (.iconst 1, 1) := by decide +kernel
theorem dX4_isLamp_7 : decode cX4_isLamp 7 = .ok (.isub, 1) := by decide +kernel
theorem dX4_isLamp_8 : decode cX4_isLamp 8 = .ok (.invokestatic 68, 3) := by decide +kernel
theorem dX4_isLamp_11 : decode cX4_isLamp 11 = .ok (.ireturn, 1) := by decide +kernel
theorem dX4_keeps_0 : decode cX4_keeps 0 = .ok (.aload_n 0, 1) := by decide +kernel
theorem dX4_keeps_1 : decode cX4_keeps 1 = .ok (.getfield 75, 3) := by decide +kernel
theorem dX4_keeps_4 : decode cX4_keeps 4 = .ok (.bipush 20, 2) := by decide +kernel
theorem dX4_keeps_6 : decode cX4_keeps 6 = .ok (.if_icmp .ne 93, 3) := by decide +kernel
theorem dX4_keeps_9 : decode cX4_keeps 9 = .ok (.iconst 1, 1) := by decide +kernel
theorem dX4_keeps_10 : decode cX4_keeps 10 = .ok (.istore 5, 2) := by decide +kernel
theorem dX4_keeps_12 : decode cX4_keeps 12 = .ok (.iload 5, 2) := by decide +kernel
theorem dX4_keeps_14 : decode cX4_keeps 14 = .ok (.bipush 20, 2) := by decide +kernel
theorem dX4_keeps_16 : decode cX4_keeps 16 = .ok (.if_icmp .ge 73, 3) := by decide +kernel
theorem dX4_keeps_19 : decode cX4_keeps 19 = .ok (.aload_n 0, 1) := by decide +kernel
theorem dX4_keeps_20 : decode cX4_keeps 20 = .ok (.getfield 52, 3) := by decide +kernel
theorem dX4_keeps_23 : decode cX4_keeps 23 = .ok (.iload 5, 2) := by decide +kernel
theorem dX4_keeps_25 : decode cX4_keeps 25 = .ok (.iconst 1, 1) := by decide +kernel
theorem dX4_keeps_26 : decode cX4_keeps 26 = .ok (.isub, 1) := by decide +kernel
theorem dX4_keeps_27 : decode cX4_keeps 27 = .ok (.aload_n 0, 1) := by decide +kernel
theorem dX4_keeps_28 : decode cX4_keeps 28 = .ok (.getfield 52, 3) := by decide +kernel
theorem dX4_keeps_31 : decode cX4_keeps 31 = .ok (.iload 5, 2) := by decide +kernel
theorem dX4_keeps_33 : decode cX4_keeps 33 = .ok (.iaload, 1) := by decide +kernel
theorem dX4_keeps_34 : decode cX4_keeps 34 = .ok (.iastore, 1) := by decide +kernel
theorem dX4_keeps_35 : decode cX4_keeps 35 = .ok (.aload_n 0, 1) := by decide +kernel
theorem dX4_keeps_36 : decode cX4_keeps 36 = .ok (.getfield 55, 3) := by decide +kernel
theorem dX4_keeps_39 : decode cX4_keeps 39 = .ok (.iload 5, 2) := by decide +kernel
theorem dX4_keeps_41 : decode cX4_keeps 41 = .ok (.iconst 1, 1) := by decide +kernel
theorem dX4_keeps_42 : decode cX4_keeps 42 = .ok (.isub, 1) := by decide +kernel
theorem dX4_keeps_43 : decode cX4_keeps 43 = .ok (.aload_n 0, 1) := by decide +kernel
theorem dX4_keeps_44 : decode cX4_keeps 44 = .ok (.getfield 55, 3) := by decide +kernel
theorem dX4_keeps_47 : decode cX4_keeps 47 = .ok (.iload 5, 2) := by decide +kernel
theorem dX4_keeps_49 : decode cX4_keeps 49 = .ok (.iaload, 1) := by decide +kernel
theorem dX4_keeps_50 : decode cX4_keeps 50 = .ok (.iastore, 1) := by decide +kernel
theorem dX4_keeps_51 : decode cX4_keeps 51 = .ok (.aload_n 0, 1) := by decide +kernel
theorem dX4_keeps_52 : decode cX4_keeps 52 = .ok (.getfield 58, 3) := by decide +kernel
theorem dX4_keeps_55 : decode cX4_keeps 55 = .ok (.iload 5, 2) := by decide +kernel
theorem dX4_keeps_57 : decode cX4_keeps 57 = .ok (.iconst 1, 1) := by decide +kernel
theorem dX4_keeps_58 : decode cX4_keeps 58 = .ok (.isub, 1) := by decide +kernel
theorem dX4_keeps_59 : decode cX4_keeps 59 = .ok (.aload_n 0, 1) := by decide +kernel
theorem dX4_keeps_60 : decode cX4_keeps 60 = .ok (.getfield 58, 3) := by decide +kernel
theorem dX4_keeps_63 : decode cX4_keeps 63 = .ok (.iload 5, 2) := by decide +kernel
theorem dX4_keeps_65 : decode cX4_keeps 65 = .ok (.iaload, 1) := by decide +kernel
theorem dX4_keeps_66 : decode cX4_keeps 66 = .ok (.iastore, 1) := by decide +kernel
theorem dX4_keeps_67 : decode cX4_keeps 67 = .ok (.aload_n 0, 1) := by decide +kernel
theorem dX4_keeps_68 : decode cX4_keeps 68 = .ok (.getfield 61, 3) := by decide +kernel
theorem dX4_keeps_71 : decode cX4_keeps 71 = .ok (.iload 5, 2) := by decide +kernel
theorem dX4_keeps_73 : decode cX4_keeps 73 = .ok (.iconst 1, 1) := by decide +kernel
theorem dX4_keeps_74 : decode cX4_keeps 74 = .ok (.isub, 1) := by decide +kernel
theorem dX4_keeps_75 : decode cX4_keeps 75 = .ok (.aload_n 0, 1) := by decide +kernel
theorem dX4_keeps_76 : decode cX4_keeps 76 = .ok (.getfield 61, 3) := by decide +kernel
theorem dX4_keeps_79 : decode cX4_keeps 79 = .ok (.iload 5, 2) := by decide +kernel
theorem dX4_keeps_81 : decode cX4_keeps 81 = .ok (.iaload, 1) := by decide +kernel
theorem dX4_keeps_82 : decode cX4_keeps 82 = .ok (.iastore, 1) := by decide +kernel
theorem dX4_keeps_83 : decode cX4_keeps 83 = .ok (.iinc 5 1, 3) := by decide +kernel
theorem dX4_keeps_86 : decode cX4_keeps 86 = .ok (.goto (-74), 3) := by decide +kernel
theorem dX4_keeps_89 : decode cX4_keeps 89 = .ok (.aload_n 0, 1) := by decide +kernel
theorem dX4_keeps_90 : decode cX4_keeps 90 = .ok (.dup, 1) := by decide +kernel
theorem dX4_keeps_91 : decode cX4_keeps 91 = .ok (.getfield 75, 3) := by decide +kernel
theorem dX4_keeps_94 : decode cX4_keeps 94 = .ok (.iconst 1, 1) := by decide +kernel
theorem dX4_keeps_95 : decode cX4_keeps 95 = .ok (.isub, 1) := by decide +kernel
theorem dX4_keeps_96 : decode cX4_keeps 96 = .ok (.putfield 75, 3) := by decide +kernel
theorem dX4_keeps_99 : decode cX4_keeps 99 = .ok (.aload_n 0, 1) := by decide +kernel
theorem dX4_keeps_100 : decode cX4_keeps 100 = .ok (.getfield 52, 3) := by decide +kernel
theorem dX4_keeps_103 : decode cX4_keeps 103 = .ok (.aload_n 0, 1) := by decide +kernel
theorem dX4_keeps_104 : decode cX4_keeps 104 = .ok (.getfield 75, 3) := by decide +kernel
theorem dX4_keeps_107 : decode cX4_keeps 107 = .ok (.iload_n 1, 1) := by decide +kernel
theorem dX4_keeps_108 : decode cX4_keeps 108 = .ok (.iastore, 1) := by decide +kernel
theorem dX4_keeps_109 : decode cX4_keeps 109 = .ok (.aload_n 0, 1) := by decide +kernel
theorem dX4_keeps_110 : decode cX4_keeps 110 = .ok (.getfield 55, 3) := by decide +kernel
theorem dX4_keeps_113 : decode cX4_keeps 113 = .ok (.aload_n 0, 1) := by decide +kernel
theorem dX4_keeps_114 : decode cX4_keeps 114 = .ok (.getfield 75, 3) := by decide +kernel
theorem dX4_keeps_117 : decode cX4_keeps 117 = .ok (.iload_n 2, 1) := by decide +kernel
theorem dX4_keeps_118 : decode cX4_keeps 118 = .ok (.iastore, 1) := by decide +kernel
theorem dX4_keeps_119 : decode cX4_keeps 119 = .ok (.aload_n 0, 1) := by decide +kernel
theorem dX4_keeps_120 : decode cX4_keeps 120 = .ok (.getfield 58, 3) := by decide +kernel
theorem dX4_keeps_123 : decode cX4_keeps 123 = .ok (.aload_n 0, 1) := by decide +kernel
theorem dX4_keeps_124 : decode cX4_keeps 124 = .ok (.getfield 75, 3) := by decide +kernel
theorem dX4_keeps_127 : decode cX4_keeps 127 = .ok (.iload_n 3, 1) := by decide +kernel
theorem dX4_keeps_128 : decode cX4_keeps 128 = .ok (.iastore, 1) := by decide +kernel
theorem dX4_keeps_129 : decode cX4_keeps 129 = .ok (.aload_n 0, 1) := by decide +kernel
theorem dX4_keeps_130 : decode cX4_keeps 130 = .ok (.getfield 61, 3) := by decide +kernel
theorem dX4_keeps_133 : decode cX4_keeps 133 = .ok (.aload_n 0, 1) := by decide +kernel
theorem dX4_keeps_134 : decode cX4_keeps 134 = .ok (.getfield 75, 3) := by decide +kernel
theorem dX4_keeps_137 : decode cX4_keeps 137 = .ok (.iload 4, 2) := by decide +kernel
theorem dX4_keeps_139 : decode cX4_keeps 139 = .ok (.iastore, 1) := by decide +kernel
theorem dX4_keeps_140 : decode cX4_keeps 140 = .ok (.aload_n 0, 1) := by decide +kernel
theorem dX4_keeps_141 : decode cX4_keeps 141 = .ok (.dup, 1) := by decide +kernel
theorem dX4_keeps_142 : decode cX4_keeps 142 = .ok (.getfield 75, 3) := by decide +kernel
theorem dX4_keeps_145 : decode cX4_keeps 145 = .ok (.iconst 1, 1) := by decide +kernel
theorem dX4_keeps_146 : decode cX4_keeps 146 = .ok (.iadd, 1) := by decide +kernel
theorem dX4_keeps_147 : decode cX4_keeps 147 = .ok (.putfield 75, 3) := by decide +kernel
theorem dX4_keeps_150 : decode cX4_keeps 150 = .ok (.return_, 1) := by decide +kernel
theorem dX4_undo_0 : decode cX4_undo 0 = .ok (.aload_n 0, 1) := by decide +kernel
theorem dX4_undo_1 : decode cX4_undo 1 = .ok (.aload_n 0, 1) := by decide +kernel
theorem dX4_undo_2 : decode cX4_undo 2 = .ok (.getfield 75, 3) := by decide +kernel
theorem dX4_undo_5 : decode cX4_undo 5 = .ok (.ifCond .ne 7, 3) := by decide +kernel
theorem dX4_undo_8 : decode cX4_undo 8 = .ok (.iconst 1, 1) := by decide +kernel
theorem dX4_undo_9 : decode cX4_undo 9 = .ok (.goto 4, 3) := by decide +kernel
theorem dX4_undo_12 : decode cX4_undo 12 = .ok (.iconst 0, 1) := by decide +kernel
theorem dX4_undo_13 : decode cX4_undo 13 = .ok (.putfield 64, 3) := by decide +kernel
theorem dX4_undo_16 : decode cX4_undo 16 = .ok (.aload_n 0, 1) := by decide +kernel
theorem dX4_undo_17 : decode cX4_undo 17 = .ok (.getfield 64, 3) := by decide +kernel
theorem dX4_undo_20 : decode cX4_undo 20 = .ok (.ifCond .le 5, 3) := by decide +kernel
theorem dX4_undo_23 : decode cX4_undo 23 = .ok (.iconst 0, 1) := by decide +kernel
theorem dX4_undo_24 : decode cX4_undo 24 = .ok (.ireturn, 1) := by decide +kernel
theorem dX4_undo_25 : decode cX4_undo 25 = .ok (.aload_n 0, 1) := by decide +kernel
theorem dX4_undo_26 : decode cX4_undo 26 = .ok (.dup, 1) := by decide +kernel
theorem dX4_undo_27 : decode cX4_undo 27 = .ok (.getfield 75, 3) := by decide +kernel
theorem dX4_undo_30 : decode cX4_undo 30 = .ok (.iconst 1, 1) := by decide +kernel
theorem dX4_undo_31 : decode cX4_undo 31 = .ok (.isub, 1) := by decide +kernel
theorem dX4_undo_32 : decode cX4_undo 32 = .ok (.putfield 75, 3) := by decide +kernel
theorem dX4_undo_35 : decode cX4_undo 35 = .ok (.aload_n 0, 1) := by decide +kernel
theorem dX4_undo_36 : decode cX4_undo 36 = .ok (.getfield 55, 3) := by decide +kernel
theorem dX4_undo_39 : decode cX4_undo 39 = .ok (.aload_n 0, 1) := by decide +kernel
theorem dX4_undo_40 : decode cX4_undo 40 = .ok (.getfield 75, 3) := by decide +kernel
theorem dX4_undo_43 : decode cX4_undo 43 = .ok (.iaload, 1) := by decide +kernel
theorem dX4_undo_44 : decode cX4_undo 44 = .ok (.istore_n 1, 1) := by decide +kernel
theorem dX4_undo_45 : decode cX4_undo 45 = .ok (.aload_n 0, 1) := by decide +kernel
theorem dX4_undo_46 : decode cX4_undo 46 = .ok (.getfield 52, 3) := by decide +kernel
theorem dX4_undo_49 : decode cX4_undo 49 = .ok (.aload_n 0, 1) := by decide +kernel
theorem dX4_undo_50 : decode cX4_undo 50 = .ok (.getfield 75, 3) := by decide +kernel
theorem dX4_undo_53 : decode cX4_undo 53 = .ok (.iaload, 1) := by decide +kernel
theorem dX4_undo_54 : decode cX4_undo 54 = .ok (.ifCond .ne 36, 3) := by decide +kernel
theorem dX4_undo_57 : decode cX4_undo 57 = .ok (.aload_n 0, 1) := by decide +kernel
theorem dX4_undo_58 : decode cX4_undo 58 = .ok (.getfield 7, 3) := by decide +kernel
theorem dX4_undo_61 : decode cX4_undo 61 = .ok (.iload_n 1, 1) := by decide +kernel
theorem dX4_undo_62 : decode cX4_undo 62 = .ok (.aload_n 0, 1) := by decide +kernel
theorem dX4_undo_63 : decode cX4_undo 63 = .ok (.getfield 58, 3) := by decide +kernel
theorem dX4_undo_66 : decode cX4_undo 66 = .ok (.aload_n 0, 1) := by decide +kernel
theorem dX4_undo_67 : decode cX4_undo 67 = .ok (.getfield 75, 3) := by decide +kernel
theorem dX4_undo_70 : decode cX4_undo 70 = .ok (.iaload, 1) := by decide +kernel
theorem dX4_undo_71 : decode cX4_undo 71 = .ok (.iastore, 1) := by decide +kernel
theorem dX4_undo_72 : decode cX4_undo 72 = .ok (.aload_n 0, 1) := by decide +kernel
theorem dX4_undo_73 : decode cX4_undo 73 = .ok (.getfield 13, 3) := by decide +kernel
theorem dX4_undo_76 : decode cX4_undo 76 = .ok (.iload_n 1, 1) := by decide +kernel
theorem dX4_undo_77 : decode cX4_undo 77 = .ok (.aload_n 0, 1) := by decide +kernel
theorem dX4_undo_78 : decode cX4_undo 78 = .ok (.getfield 61, 3) := by decide +kernel
theorem dX4_undo_81 : decode cX4_undo 81 = .ok (.aload_n 0, 1) := by decide +kernel
theorem dX4_undo_82 : decode cX4_undo 82 = .ok (.getfield 75, 3) := by decide +kernel
theorem dX4_undo_85 : decode cX4_undo 85 = .ok (.iaload, 1) := by decide +kernel
theorem dX4_undo_86 : decode cX4_undo 86 = .ok (.iastore, 1) := by decide +kernel
theorem dX4_undo_87 : decode cX4_undo 87 = .ok (.goto 49, 3) := by decide +kernel
theorem dX4_undo_90 : decode cX4_undo 90 = .ok (.aload_n 0, 1) := by decide +kernel
theorem dX4_undo_91 : decode cX4_undo 91 = .ok (.getfield 52, 3) := by decide +kernel
theorem dX4_undo_94 : decode cX4_undo 94 = .ok (.aload_n 0, 1) := by decide +kernel
theorem dX4_undo_95 : decode cX4_undo 95 = .ok (.getfield 75, 3) := by decide +kernel
theorem dX4_undo_98 : decode cX4_undo 98 = .ok (.iaload, 1) := by decide +kernel
theorem dX4_undo_99 : decode cX4_undo 99 = .ok (.iconst 1, 1) := by decide +kernel
theorem dX4_undo_100 : decode cX4_undo 100 = .ok (.if_icmp .ne 21, 3) := by decide +kernel
theorem dX4_undo_103 : decode cX4_undo 103 = .ok (.aload_n 0, 1) := by decide +kernel
theorem dX4_undo_104 : decode cX4_undo 104 = .ok (.getfield 16, 3) := by decide +kernel
theorem dX4_undo_107 : decode cX4_undo 107 = .ok (.iload_n 1, 1) := by decide +kernel
theorem dX4_undo_108 : decode cX4_undo 108 = .ok (.aload_n 0, 1) := by decide +kernel
theorem dX4_undo_109 : decode cX4_undo 109 = .ok (.getfield 58, 3) := by decide +kernel
theorem dX4_undo_112 : decode cX4_undo 112 = .ok (.aload_n 0, 1) := by decide +kernel
theorem dX4_undo_113 : decode cX4_undo 113 = .ok (.getfield 75, 3) := by decide +kernel
theorem dX4_undo_116 : decode cX4_undo 116 = .ok (.iaload, 1) := by decide +kernel
theorem dX4_undo_117 : decode cX4_undo 117 = .ok (.iastore, 1) := by decide +kernel
theorem dX4_undo_118 : decode cX4_undo 118 = .ok (.goto 18, 3) := by decide +kernel
theorem dX4_undo_121 : decode cX4_undo 121 = .ok (.aload_n 0, 1) := by decide +kernel
theorem dX4_undo_122 : decode cX4_undo 122 = .ok (.getfield 37, 3) := by decide +kernel
theorem dX4_undo_125 : decode cX4_undo 125 = .ok (.iload_n 1, 1) := by decide +kernel
theorem dX4_undo_126 : decode cX4_undo 126 = .ok (.aload_n 0, 1) := by decide +kernel
theorem dX4_undo_127 : decode cX4_undo 127 = .ok (.getfield 58, 3) := by decide +kernel
theorem dX4_undo_130 : decode cX4_undo 130 = .ok (.aload_n 0, 1) := by decide +kernel
theorem dX4_undo_131 : decode cX4_undo 131 = .ok (.getfield 75, 3) := by decide +kernel
theorem dX4_undo_134 : decode cX4_undo 134 = .ok (.iaload, 1) := by decide +kernel
theorem dX4_undo_135 : decode cX4_undo 135 = .ok (.iastore, 1) := by decide +kernel
theorem dX4_undo_136 : decode cX4_undo 136 = .ok (.aload_n 0, 1) := by decide +kernel
theorem dX4_undo_137 : decode cX4_undo 137 = .ok (.getfield 75, 3) := by decide +kernel
theorem dX4_undo_140 : decode cX4_undo 140 = .ok (.ireturn, 1) := by decide +kernel
set_option maxRecDepth 20000 in
theorem ggX4_addLamp_X4_isMade : GoodIn wsX4_addLamp wsX4_isMade := goodIn_r _ [8, 9, 10, 7, 11] (by decide +kernel) (by decide +kernel)
set_option maxRecDepth 20000 in
theorem gX4_addLamp_X4_isMade : GoodIn wsX4_addLamp (va_wsS RX4 78 yX4_isMade wsX4_isMade) := goodIn_app (goodIn_of _ (by decide +kernel)) ggX4_addLamp_X4_isMade
theorem dX4_addLamp_0 : decode cX4_addLamp 0 = .ok (.aload_n 0, 1) := by decide +kernel
theorem dX4_addLamp_1 : decode cX4_addLamp 1 = .ok (.iload_n 1, 1) := by decide +kernel
theorem dX4_addLamp_2 : decode cX4_addLamp 2 = .ok (.iload_n 2, 1) := by decide +kernel
theorem dX4_addLamp_3 : decode cX4_addLamp 3 = .ok (.invokestatic 78, 3) := by decide +kernel
theorem dX4_addLamp_6 : decode cX4_addLamp 6 = .ok (.ifCond .ne 7, 3) := by decide +kernel
theorem dX4_addLamp_9 : decode cX4_addLamp 9 = .ok (.iconst 1, 1) := by decide +kernel
theorem dX4_addLamp_10 : decode cX4_addLamp 10 = .ok (.goto 17, 3) := by decide +kernel
theorem dX4_addLamp_13 : decode cX4_addLamp 13 = .ok (.aload_n 0, 1) := by decide +kernel
theorem dX4_addLamp_14 : decode cX4_addLamp 14 = .ok (.getfield 72, 3) := by decide +kernel
theorem dX4_addLamp_17 : decode cX4_addLamp 17 = .ok (.bipush 20, 2) := by decide +kernel
theorem dX4_addLamp_19 : decode cX4_addLamp 19 = .ok (.if_icmp .ne 7, 3) := by decide +kernel
theorem dX4_addLamp_22 : decode cX4_addLamp 22 = .ok (.iconst 2, 1) := by decide +kernel
theorem dX4_addLamp_23 : decode cX4_addLamp 23 = .ok (.goto 4, 3) := by decide +kernel
theorem dX4_addLamp_26 : decode cX4_addLamp 26 = .ok (.iconst 0, 1) := by decide +kernel
theorem dX4_addLamp_27 : decode cX4_addLamp 27 = .ok (.putfield 64, 3) := by decide +kernel
theorem dX4_addLamp_30 : decode cX4_addLamp 30 = .ok (.aload_n 0, 1) := by decide +kernel
theorem dX4_addLamp_31 : decode cX4_addLamp 31 = .ok (.getfield 64, 3) := by decide +kernel
theorem dX4_addLamp_34 : decode cX4_addLamp 34 = .ok (.ifCond .le 5, 3) := by decide +kernel
theorem dX4_addLamp_37 : decode cX4_addLamp 37 = .ok (.iconst 0, 1) := by decide +kernel
theorem dX4_addLamp_38 : decode cX4_addLamp 38 = .ok (.ireturn, 1) := by decide +kernel
theorem dX4_addLamp_39 : decode cX4_addLamp 39 = .ok (.aload_n 0, 1) := by decide +kernel
theorem dX4_addLamp_40 : decode cX4_addLamp 40 = .ok (.getfield 7, 3) := by decide +kernel
theorem dX4_addLamp_43 : decode cX4_addLamp 43 = .ok (.aload_n 0, 1) := by decide +kernel
theorem dX4_addLamp_44 : decode cX4_addLamp 44 = .ok (.getfield 72, 3) := by decide +kernel
theorem dX4_addLamp_47 : decode cX4_addLamp 47 = .ok (.iload_n 1, 1) := by decide +kernel
theorem dX4_addLamp_48 : decode cX4_addLamp 48 = .ok (.iastore, 1) := by decide +kernel
theorem dX4_addLamp_49 : decode cX4_addLamp 49 = .ok (.aload_n 0, 1) := by decide +kernel
theorem dX4_addLamp_50 : decode cX4_addLamp 50 = .ok (.getfield 13, 3) := by decide +kernel
theorem dX4_addLamp_53 : decode cX4_addLamp 53 = .ok (.aload_n 0, 1) := by decide +kernel
theorem dX4_addLamp_54 : decode cX4_addLamp 54 = .ok (.getfield 72, 3) := by decide +kernel
theorem dX4_addLamp_57 : decode cX4_addLamp 57 = .ok (.iload_n 2, 1) := by decide +kernel
theorem dX4_addLamp_58 : decode cX4_addLamp 58 = .ok (.iastore, 1) := by decide +kernel
theorem dX4_addLamp_59 : decode cX4_addLamp 59 = .ok (.aload_n 0, 1) := by decide +kernel
theorem dX4_addLamp_60 : decode cX4_addLamp 60 = .ok (.dup, 1) := by decide +kernel
theorem dX4_addLamp_61 : decode cX4_addLamp 61 = .ok (.getfield 72, 3) := by decide +kernel
theorem dX4_addLamp_64 : decode cX4_addLamp 64 = .ok (.iconst 1, 1) := by decide +kernel
theorem dX4_addLamp_65 : decode cX4_addLamp 65 = .ok (.iadd, 1) := by decide +kernel
theorem dX4_addLamp_66 : decode cX4_addLamp 66 = .ok (.putfield 72, 3) := by decide +kernel
theorem dX4_addLamp_69 : decode cX4_addLamp 69 = .ok (.aload_n 0, 1) := by decide +kernel
theorem dX4_addLamp_70 : decode cX4_addLamp 70 = .ok (.getfield 72, 3) := by decide +kernel
theorem dX4_addLamp_73 : decode cX4_addLamp 73 = .ok (.iconst 1, 1) := by decide +kernel
theorem dX4_addLamp_74 : decode cX4_addLamp 74 = .ok (.isub, 1) := by decide +kernel
theorem dX4_addLamp_75 : decode cX4_addLamp 75 = .ok (.ireturn, 1) := by decide +kernel
set_option maxRecDepth 20000 in
theorem ggX4_swap_X4_isLamp : GoodIn wsX4_swap wsX4_isLamp := goodIn_r _ [8, 9, 10, 11, 7, 12, 25, 26, 27, 28, 29, 30, 31, 32, 33, 34, 35, 36, 37, 38, 39, 40, 41, 42, 43, 44, 45, 46, 47] (by decide +kernel) (by decide +kernel)
set_option maxRecDepth 20000 in
theorem gX4_swap_X4_isLamp : GoodIn wsX4_swap (wsV RX4 82 RX4 yX4_isLamp wsX4_isLamp) := goodIn_app (goodIn_of _ (by decide +kernel)) ggX4_swap_X4_isLamp
set_option maxRecDepth 20000 in
theorem ggX4_swap_X4_isMade : GoodIn wsX4_swap wsX4_isMade := goodIn_r _ [15, 10, 11, 7, 12] (by decide +kernel) (by decide +kernel)
set_option maxRecDepth 20000 in
theorem gX4_swap_X4_isMade : GoodIn wsX4_swap (va_wsS RX4 78 yX4_isMade wsX4_isMade) := goodIn_app (goodIn_of _ (by decide +kernel)) ggX4_swap_X4_isMade
set_option maxRecDepth 20000 in
theorem ggX4_swap_X4_keeps : GoodIn wsX4_swap wsX4_keeps := goodIn_r _ [19, 20, 21, 22, 23, 24, 25, 26, 27, 28, 29, 30, 31, 32, 33, 34, 35, 36, 37, 38, 39, 40, 41, 42, 43, 44, 45, 46, 47] (by decide +kernel) (by decide +kernel)
set_option maxRecDepth 20000 in
theorem gX4_swap_X4_keeps : GoodIn wsX4_swap (wsV RX4 86 RX4 yX4_keeps wsX4_keeps) := goodIn_app (goodIn_of _ (by decide +kernel)) ggX4_swap_X4_keeps
theorem dX4_swap_0 : decode cX4_swap 0 = .ok (.aload_n 0, 1) := by decide +kernel
theorem dX4_swap_1 : decode cX4_swap 1 = .ok (.aload_n 0, 1) := by decide +kernel
theorem dX4_swap_2 : decode cX4_swap 2 = .ok (.iload_n 1, 1) := by decide +kernel
theorem dX4_swap_3 : decode cX4_swap 3 = .ok (.invokevirtual 82, 3) := by decide +kernel
theorem dX4_swap_6 : decode cX4_swap 6 = .ok (.ifCond .ne 7, 3) := by decide +kernel
theorem dX4_swap_9 : decode cX4_swap 9 = .ok (.iconst 1, 1) := by decide +kernel
theorem dX4_swap_10 : decode cX4_swap 10 = .ok (.goto 16, 3) := by decide +kernel
theorem dX4_swap_13 : decode cX4_swap 13 = .ok (.iload_n 2, 1) := by decide +kernel
theorem dX4_swap_14 : decode cX4_swap 14 = .ok (.iload_n 3, 1) := by decide +kernel
theorem dX4_swap_15 : decode cX4_swap 15 = .ok (.invokestatic 78, 3) := by decide +kernel
theorem dX4_swap_18 : decode cX4_swap 18 = .ok (.ifCond .ne 7, 3) := by decide +kernel
theorem dX4_swap_21 : decode cX4_swap 21 = .ok (.iconst 2, 1) := by decide +kernel
theorem dX4_swap_22 : decode cX4_swap 22 = .ok (.goto 4, 3) := by decide +kernel
theorem dX4_swap_25 : decode cX4_swap 25 = .ok (.iconst 0, 1) := by decide +kernel
theorem dX4_swap_26 : decode cX4_swap 26 = .ok (.putfield 64, 3) := by decide +kernel
theorem dX4_swap_29 : decode cX4_swap 29 = .ok (.aload_n 0, 1) := by decide +kernel
theorem dX4_swap_30 : decode cX4_swap 30 = .ok (.getfield 64, 3) := by decide +kernel
theorem dX4_swap_33 : decode cX4_swap 33 = .ok (.ifCond .ne 35, 3) := by decide +kernel
theorem dX4_swap_36 : decode cX4_swap 36 = .ok (.aload_n 0, 1) := by decide +kernel
theorem dX4_swap_37 : decode cX4_swap 37 = .ok (.iconst 0, 1) := by decide +kernel
theorem dX4_swap_38 : decode cX4_swap 38 = .ok (.iload_n 1, 1) := by decide +kernel
theorem dX4_swap_39 : decode cX4_swap 39 = .ok (.aload_n 0, 1) := by decide +kernel
theorem dX4_swap_40 : decode cX4_swap 40 = .ok (.getfield 7, 3) := by decide +kernel
theorem dX4_swap_43 : decode cX4_swap 43 = .ok (.iload_n 1, 1) := by decide +kernel
theorem dX4_swap_44 : decode cX4_swap 44 = .ok (.iaload, 1) := by decide +kernel
theorem dX4_swap_45 : decode cX4_swap 45 = .ok (.aload_n 0, 1) := by decide +kernel
theorem dX4_swap_46 : decode cX4_swap 46 = .ok (.getfield 13, 3) := by decide +kernel
theorem dX4_swap_49 : decode cX4_swap 49 = .ok (.iload_n 1, 1) := by decide +kernel
theorem dX4_swap_50 : decode cX4_swap 50 = .ok (.iaload, 1) := by decide +kernel
theorem dX4_swap_51 : decode cX4_swap 51 = .ok (.invokevirtual 86, 3) := by decide +kernel
theorem dX4_swap_54 : decode cX4_swap 54 = .ok (.aload_n 0, 1) := by decide +kernel
theorem dX4_swap_55 : decode cX4_swap 55 = .ok (.getfield 7, 3) := by decide +kernel
theorem dX4_swap_58 : decode cX4_swap 58 = .ok (.iload_n 1, 1) := by decide +kernel
theorem dX4_swap_59 : decode cX4_swap 59 = .ok (.iload_n 2, 1) := by decide +kernel
theorem dX4_swap_60 : decode cX4_swap 60 = .ok (.iastore, 1) := by decide +kernel
theorem dX4_swap_61 : decode cX4_swap 61 = .ok (.aload_n 0, 1) := by decide +kernel
theorem dX4_swap_62 : decode cX4_swap 62 = .ok (.getfield 13, 3) := by decide +kernel
theorem dX4_swap_65 : decode cX4_swap 65 = .ok (.iload_n 1, 1) := by decide +kernel
theorem dX4_swap_66 : decode cX4_swap 66 = .ok (.iload_n 3, 1) := by decide +kernel
theorem dX4_swap_67 : decode cX4_swap 67 = .ok (.iastore, 1) := by decide +kernel
theorem dX4_swap_68 : decode cX4_swap 68 = .ok (.return_, 1) := by decide +kernel
set_option maxRecDepth 20000 in
theorem ggX4_hang_X4_isLamp : GoodIn wsX4_hang wsX4_isLamp := goodIn_r _ [7, 8, 9, 10, 6, 11, 27, 28, 29, 30, 31, 32, 33, 34, 35, 36, 37, 38, 39, 40, 41, 42, 43, 44, 45, 46, 47, 48, 49] (by decide +kernel) (by decide +kernel)
set_option maxRecDepth 20000 in
theorem gX4_hang_X4_isLamp : GoodIn wsX4_hang (wsV RX4 82 RX4 yX4_isLamp wsX4_isLamp) := goodIn_app (goodIn_of _ (by decide +kernel)) ggX4_hang_X4_isLamp
set_option maxRecDepth 20000 in
theorem ggX4_hang_X4_isNight : GoodIn wsX4_hang wsX4_isNight := goodIn_r _ [14, 9, 10, 6, 11] (by decide +kernel) (by decide +kernel)
set_option maxRecDepth 20000 in
theorem gX4_hang_X4_isNight : GoodIn wsX4_hang (va_wsS RX4 90 yX4_isNight wsX4_isNight) := goodIn_app (goodIn_of _ (by decide +kernel)) ggX4_hang_X4_isNight
set_option maxRecDepth 20000 in
theorem ggX4_hang_X4_isChannel : GoodIn wsX4_hang wsX4_isChannel := goodIn_r _ [17, 9, 10, 6, 11] (by decide +kernel) (by decide +kernel)
set_option maxRecDepth 20000 in
theorem gX4_hang_X4_isChannel : GoodIn wsX4_hang (va_wsS RX4 93 yX4_isChannel wsX4_isChannel) := goodIn_app (goodIn_of _ (by decide +kernel)) ggX4_hang_X4_isChannel
set_option maxRecDepth 20000 in
theorem ggX4_hang_X4_keeps : GoodIn wsX4_hang wsX4_keeps := goodIn_r _ [21, 22, 23, 24, 25, 26, 27, 28, 29, 30, 31, 32, 33, 34, 35, 36, 37, 38, 39, 40, 41, 42, 43, 44, 45, 46, 47, 48, 49] (by decide +kernel) (by decide +kernel)
set_option maxRecDepth 20000 in
theorem gX4_hang_X4_keeps : GoodIn wsX4_hang (wsV RX4 86 RX4 yX4_keeps wsX4_keeps) := goodIn_app (goodIn_of _ (by decide +kernel)) ggX4_hang_X4_keeps
theorem dX4_hang_0 : decode cX4_hang 0 = .ok (.aload_n 0, 1) := by decide +kernel
theorem dX4_hang_1 : decode cX4_hang 1 = .ok (.aload_n 0, 1) := by decide +kernel
theorem dX4_hang_2 : decode cX4_hang 2 = .ok (.iload_n 2, 1) := by decide +kernel
theorem dX4_hang_3 : decode cX4_hang 3 = .ok (.invokevirtual 82, 3) := by decide +kernel
theorem dX4_hang_6 : decode cX4_hang 6 = .ok (.ifCond .ne 7, 3) := by decide +kernel
theorem dX4_hang_9 : decode cX4_hang 9 = .ok (.iconst 1, 1) := by decide +kernel
theorem dX4_hang_10 : decode cX4_hang 10 = .ok (.goto 27, 3) := by decide +kernel
theorem dX4_hang_13 : decode cX4_hang 13 = .ok (.iload_n 1, 1) := by decide +kernel
theorem dX4_hang_14 : decode cX4_hang 14 = .ok (.invokestatic 90, 3) := by decide +kernel
theorem dX4_hang_17 : decode cX4_hang 17 = .ok (.ifCond .eq 15, 3) := by decide +kernel
theorem dX4_hang_20 : decode cX4_hang 20 = .ok (.iload_n 3, 1) := by decide +kernel
theorem dX4_hang_21 : decode cX4_hang 21 = .ok (.iconst (-1), 1) := by decide +kernel
theorem dX4_hang_22 : decode cX4_hang 22 = .ok (.if_icmp .eq 14, 3) := by decide +kernel
theorem dX4_hang_25 : decode cX4_hang 25 = .ok (.iload_n 3, 1) := by decide +kernel
theorem dX4_hang_26 : decode cX4_hang 26 = .ok (.invokestatic 93, 3) := by decide +kernel
theorem dX4_hang_29 : decode cX4_hang 29 = .ok (.ifCond .ne 7, 3) := by decide +kernel
theorem dX4_hang_32 : decode cX4_hang 32 = .ok (.iconst 2, 1) := by decide +kernel
theorem dX4_hang_33 : decode cX4_hang 33 = .ok (.goto 4, 3) := by decide +kernel
theorem dX4_hang_36 : decode cX4_hang 36 = .ok (.iconst 0, 1) := by decide +kernel
theorem dX4_hang_37 : decode cX4_hang 37 = .ok (.putfield 64, 3) := by decide +kernel
theorem dX4_hang_40 : decode cX4_hang 40 = .ok (.aload_n 0, 1) := by decide +kernel
theorem dX4_hang_41 : decode cX4_hang 41 = .ok (.getfield 64, 3) := by decide +kernel
theorem dX4_hang_44 : decode cX4_hang 44 = .ok (.ifCond .le 5, 3) := by decide +kernel
theorem dX4_hang_47 : decode cX4_hang 47 = .ok (.iconst 0, 1) := by decide +kernel
theorem dX4_hang_48 : decode cX4_hang 48 = .ok (.ireturn, 1) := by decide +kernel
theorem dX4_hang_49 : decode cX4_hang 49 = .ok (.bipush 20, 2) := by decide +kernel
theorem dX4_hang_51 : decode cX4_hang 51 = .ok (.iload_n 1, 1) := by decide +kernel
theorem dX4_hang_52 : decode cX4_hang 52 = .ok (.imul, 1) := by decide +kernel
theorem dX4_hang_53 : decode cX4_hang 53 = .ok (.iload_n 2, 1) := by decide +kernel
theorem dX4_hang_54 : decode cX4_hang 54 = .ok (.iadd, 1) := by decide +kernel
theorem dX4_hang_55 : decode cX4_hang 55 = .ok (.istore 4, 2) := by decide +kernel
theorem dX4_hang_57 : decode cX4_hang 57 = .ok (.aload_n 0, 1) := by decide +kernel
theorem dX4_hang_58 : decode cX4_hang 58 = .ok (.getfield 16, 3) := by decide +kernel
theorem dX4_hang_61 : decode cX4_hang 61 = .ok (.iload 4, 2) := by decide +kernel
theorem dX4_hang_63 : decode cX4_hang 63 = .ok (.iaload, 1) := by decide +kernel
theorem dX4_hang_64 : decode cX4_hang 64 = .ok (.iconst 1, 1) := by decide +kernel
theorem dX4_hang_65 : decode cX4_hang 65 = .ok (.isub, 1) := by decide +kernel
theorem dX4_hang_66 : decode cX4_hang 66 = .ok (.istore 5, 2) := by decide +kernel
theorem dX4_hang_68 : decode cX4_hang 68 = .ok (.aload_n 0, 1) := by decide +kernel
theorem dX4_hang_69 : decode cX4_hang 69 = .ok (.iconst 1, 1) := by decide +kernel
theorem dX4_hang_70 : decode cX4_hang 70 = .ok (.iload 4, 2) := by decide +kernel
theorem dX4_hang_72 : decode cX4_hang 72 = .ok (.aload_n 0, 1) := by decide +kernel
theorem dX4_hang_73 : decode cX4_hang 73 = .ok (.getfield 16, 3) := by decide +kernel
theorem dX4_hang_76 : decode cX4_hang 76 = .ok (.iload 4, 2) := by decide +kernel
theorem dX4_hang_78 : decode cX4_hang 78 = .ok (.iaload, 1) := by decide +kernel
theorem dX4_hang_79 : decode cX4_hang 79 = .ok (.iconst 0, 1) := by decide +kernel
theorem dX4_hang_80 : decode cX4_hang 80 = .ok (.invokevirtual 86, 3) := by decide +kernel
theorem dX4_hang_83 : decode cX4_hang 83 = .ok (.aload_n 0, 1) := by decide +kernel
theorem dX4_hang_84 : decode cX4_hang 84 = .ok (.getfield 16, 3) := by decide +kernel
theorem dX4_hang_87 : decode cX4_hang 87 = .ok (.iload 4, 2) := by decide +kernel
theorem dX4_hang_89 : decode cX4_hang 89 = .ok (.iload_n 3, 1) := by decide +kernel
theorem dX4_hang_90 : decode cX4_hang 90 = .ok (.iconst 1, 1) := by decide +kernel
theorem dX4_hang_91 : decode cX4_hang 91 = .ok (.iadd, 1) := by decide +kernel
theorem dX4_hang_92 : decode cX4_hang 92 = .ok (.iastore, 1) := by decide +kernel
theorem dX4_hang_93 : decode cX4_hang 93 = .ok (.iload 5, 2) := by decide +kernel
theorem dX4_hang_95 : decode cX4_hang 95 = .ok (.ireturn, 1) := by decide +kernel
set_option maxRecDepth 20000 in
theorem ggX4_setNight_X4_isNight : GoodIn wsX4_setNight wsX4_isNight := goodIn_r _ [6, 7, 8, 5, 9] (by decide +kernel) (by decide +kernel)
set_option maxRecDepth 20000 in
theorem gX4_setNight_X4_isNight : GoodIn wsX4_setNight (va_wsS RX4 90 yX4_isNight wsX4_isNight) := goodIn_app (goodIn_of _ (by decide +kernel)) ggX4_setNight_X4_isNight
theorem dX4_setNight_0 : decode cX4_setNight 0 = .ok (.aload_n 0, 1) := by decide +kernel
theorem dX4_setNight_1 : decode cX4_setNight 1 = .ok (.iload_n 1, 1) := by decide +kernel
theorem dX4_setNight_2 : decode cX4_setNight 2 = .ok (.invokestatic 90, 3) := by decide +kernel
theorem dX4_setNight_5 : decode cX4_setNight 5 = .ok (.ifCond .eq 7, 3) := by decide +kernel
theorem dX4_setNight_8 : decode cX4_setNight 8 = .ok (.iconst 0, 1) := by decide +kernel
theorem dX4_setNight_9 : decode cX4_setNight 9 = .ok (.goto 4, 3) := by decide +kernel
theorem dX4_setNight_12 : decode cX4_setNight 12 = .ok (.iconst 1, 1) := by decide +kernel
theorem dX4_setNight_13 : decode cX4_setNight 13 = .ok (.putfield 64, 3) := by decide +kernel
theorem dX4_setNight_16 : decode cX4_setNight 16 = .ok (.aload_n 0, 1) := by decide +kernel
theorem dX4_setNight_17 : decode cX4_setNight 17 = .ok (.getfield 64, 3) := by decide +kernel
theorem dX4_setNight_20 : decode cX4_setNight 20 = .ok (.ifCond .le 5, 3) := by decide +kernel
theorem dX4_setNight_23 : decode cX4_setNight 23 = .ok (.iconst 0, 1) := by decide +kernel
theorem dX4_setNight_24 : decode cX4_setNight 24 = .ok (.ireturn, 1) := by decide +kernel
theorem dX4_setNight_25 : decode cX4_setNight 25 = .ok (.aload_n 0, 1) := by decide +kernel
theorem dX4_setNight_26 : decode cX4_setNight 26 = .ok (.getfield 96, 3) := by decide +kernel
theorem dX4_setNight_29 : decode cX4_setNight 29 = .ok (.istore_n 2, 1) := by decide +kernel
theorem dX4_setNight_30 : decode cX4_setNight 30 = .ok (.aload_n 0, 1) := by decide +kernel
theorem dX4_setNight_31 : decode cX4_setNight 31 = .ok (.iload_n 1, 1) := by decide +kernel
theorem dX4_setNight_32 : decode cX4_setNight 32 = .ok (.putfield 96, 3) := by decide +kernel
theorem dX4_setNight_35 : decode cX4_setNight 35 = .ok (.iload_n 2, 1) := by decide +kernel
theorem dX4_setNight_36 : decode cX4_setNight 36 = .ok (.ireturn, 1) := by decide +kernel
set_option maxRecDepth 20000 in
theorem ggX4_setLatest_X4_isChannel : GoodIn wsX4_setLatest wsX4_isChannel := goodIn_r _ [6, 7, 8, 5, 9] (by decide +kernel) (by decide +kernel)
set_option maxRecDepth 20000 in
theorem gX4_setLatest_X4_isChannel : GoodIn wsX4_setLatest (va_wsS RX4 93 yX4_isChannel wsX4_isChannel) := goodIn_app (goodIn_of _ (by decide +kernel)) ggX4_setLatest_X4_isChannel
theorem dX4_setLatest_0 : decode cX4_setLatest 0 = .ok (.aload_n 0, 1) := by decide +kernel
theorem dX4_setLatest_1 : decode cX4_setLatest 1 = .ok (.iload_n 1, 1) := by decide +kernel
theorem dX4_setLatest_2 : decode cX4_setLatest 2 = .ok (.invokestatic 93, 3) := by decide +kernel
theorem dX4_setLatest_5 : decode cX4_setLatest 5 = .ok (.ifCond .eq 7, 3) := by decide +kernel
theorem dX4_setLatest_8 : decode cX4_setLatest 8 = .ok (.iconst 0, 1) := by decide +kernel
theorem dX4_setLatest_9 : decode cX4_setLatest 9 = .ok (.goto 4, 3) := by decide +kernel
theorem dX4_setLatest_12 : decode cX4_setLatest 12 = .ok (.iconst 1, 1) := by decide +kernel
theorem dX4_setLatest_13 : decode cX4_setLatest 13 = .ok (.putfield 64, 3) := by decide +kernel
theorem dX4_setLatest_16 : decode cX4_setLatest 16 = .ok (.aload_n 0, 1) := by decide +kernel
theorem dX4_setLatest_17 : decode cX4_setLatest 17 = .ok (.getfield 64, 3) := by decide +kernel
theorem dX4_setLatest_20 : decode cX4_setLatest 20 = .ok (.ifCond .le 5, 3) := by decide +kernel
theorem dX4_setLatest_23 : decode cX4_setLatest 23 = .ok (.iconst 0, 1) := by decide +kernel
theorem dX4_setLatest_24 : decode cX4_setLatest 24 = .ok (.ireturn, 1) := by decide +kernel
theorem dX4_setLatest_25 : decode cX4_setLatest 25 = .ok (.aload_n 0, 1) := by decide +kernel
theorem dX4_setLatest_26 : decode cX4_setLatest 26 = .ok (.getfield 19, 3) := by decide +kernel
theorem dX4_setLatest_29 : decode cX4_setLatest 29 = .ok (.iload_n 1, 1) := by decide +kernel
theorem dX4_setLatest_30 : decode cX4_setLatest 30 = .ok (.iaload, 1) := by decide +kernel
theorem dX4_setLatest_31 : decode cX4_setLatest 31 = .ok (.iconst 1, 1) := by decide +kernel
theorem dX4_setLatest_32 : decode cX4_setLatest 32 = .ok (.if_icmp .ne 7, 3) := by decide +kernel
theorem dX4_setLatest_35 : decode cX4_setLatest 35 = .ok (.iconst 1, 1) := by decide +kernel
theorem dX4_setLatest_36 : decode cX4_setLatest 36 = .ok (.goto 4, 3) := by decide +kernel
theorem dX4_setLatest_39 : decode cX4_setLatest 39 = .ok (.iconst 0, 1) := by decide +kernel
theorem dX4_setLatest_40 : decode cX4_setLatest 40 = .ok (.istore_n 3, 1) := by decide +kernel
theorem dX4_setLatest_41 : decode cX4_setLatest 41 = .ok (.aload_n 0, 1) := by decide +kernel
theorem dX4_setLatest_42 : decode cX4_setLatest 42 = .ok (.getfield 19, 3) := by decide +kernel
theorem dX4_setLatest_45 : decode cX4_setLatest 45 = .ok (.iload_n 1, 1) := by decide +kernel
theorem dX4_setLatest_46 : decode cX4_setLatest 46 = .ok (.iload_n 2, 1) := by decide +kernel
theorem dX4_setLatest_47 : decode cX4_setLatest 47 = .ok (.ifCond .eq 7, 3) := by decide +kernel
theorem dX4_setLatest_50 : decode cX4_setLatest 50 = .ok (.iconst 1, 1) := by decide +kernel
theorem dX4_setLatest_51 : decode cX4_setLatest 51 = .ok (.goto 4, 3) := by decide +kernel
theorem dX4_setLatest_54 : decode cX4_setLatest 54 = .ok (.iconst 0, 1) := by decide +kernel
theorem dX4_setLatest_55 : decode cX4_setLatest 55 = .ok (.iastore, 1) := by decide +kernel
theorem dX4_setLatest_56 : decode cX4_setLatest 56 = .ok (.iload_n 3, 1) := by decide +kernel
theorem dX4_setLatest_57 : decode cX4_setLatest 57 = .ok (.ireturn, 1) := by decide +kernel
set_option maxRecDepth 20000 in
theorem ggX4_addCue_X4_isList : GoodIn wsX4_addCue wsX4_isList := goodIn_r _ [9, 10, 11, 8, 12] (by decide +kernel) (by decide +kernel)
set_option maxRecDepth 20000 in
theorem gX4_addCue_X4_isList : GoodIn wsX4_addCue (va_wsS RX4 99 yX4_isList wsX4_isList) := goodIn_app (goodIn_of _ (by decide +kernel)) ggX4_addCue_X4_isList
set_option maxRecDepth 20000 in
theorem ggX4_addCue_X4_in : GoodIn wsX4_addCue wsX4_in := goodIn_r _ [12] (by decide +kernel) (by decide +kernel)
set_option maxRecDepth 20000 in
theorem gX4_addCue_X4_in : GoodIn wsX4_addCue (va_wsS RX4 68 yX4_in wsX4_in) := goodIn_app (goodIn_of _ (by decide +kernel)) ggX4_addCue_X4_in
set_option maxRecDepth 20000 in
theorem ggX4_addCue_X4_fails : GoodIn wsX4_addCue wsX4_fails := goodIn_r _ [16, 1, 17, 18, 19, 20, 21, 22, 23, 24, 25, 26, 27, 28, 29, 30, 31, 32, 33, 34, 35, 36, 37, 38, 39] (by decide +kernel) (by decide +kernel)
set_option maxRecDepth 20000 in
theorem gX4_addCue_X4_fails : GoodIn wsX4_addCue (wsV RX4 102 RX4 yX4_fails wsX4_fails) := goodIn_app (goodIn_of _ (by decide +kernel)) ggX4_addCue_X4_fails
theorem dX4_addCue_0 : decode cX4_addCue 0 = .ok (.aload_n 0, 1) := by decide +kernel
theorem dX4_addCue_1 : decode cX4_addCue 1 = .ok (.iload_n 1, 1) := by decide +kernel
theorem dX4_addCue_2 : decode cX4_addCue 2 = .ok (.invokestatic 99, 3) := by decide +kernel
theorem dX4_addCue_5 : decode cX4_addCue 5 = .ok (.ifCond .eq 23, 3) := by decide +kernel
theorem dX4_addCue_8 : decode cX4_addCue 8 = .ok (.iload_n 2, 1) := by decide +kernel
theorem dX4_addCue_9 : decode cX4_addCue 9 = .ok (.iconst 0, 1) := by decide +kernel
theorem dX4_addCue_10 : decode cX4_addCue 10 = .ok (.bipush 100, 2) := by decide +kernel
theorem dX4_addCue_12 : decode cX4_addCue 12 = .ok (.invokestatic 68, 3) := by decide +kernel
theorem dX4_addCue_15 : decode cX4_addCue 15 = .ok (.ifCond .eq 13, 3) := by decide +kernel
theorem dX4_addCue_18 : decode cX4_addCue 18 = .ok (.iload_n 3, 1) := by decide +kernel
theorem dX4_addCue_19 : decode cX4_addCue 19 = .ok (.iconst 0, 1) := by decide +kernel
theorem dX4_addCue_20 : decode cX4_addCue 20 = .ok (.bipush 100, 2) := by decide +kernel
theorem dX4_addCue_22 : decode cX4_addCue 22 = .ok (.invokestatic 68, 3) := by decide +kernel
theorem dX4_addCue_25 : decode cX4_addCue 25 = .ok (.ifCond .ne 7, 3) := by decide +kernel
theorem dX4_addCue_28 : decode cX4_addCue 28 = .ok (.iconst 1, 1) := by decide +kernel
theorem dX4_addCue_29 : decode cX4_addCue 29 = .ok (.goto 4, 3) := by decide +kernel
theorem dX4_addCue_32 : decode cX4_addCue 32 = .ok (.iconst 0, 1) := by decide +kernel
theorem dX4_addCue_33 : decode cX4_addCue 33 = .ok (.putfield 64, 3) := by decide +kernel
theorem dX4_addCue_36 : decode cX4_addCue 36 = .ok (.aload_n 0, 1) := by decide +kernel
theorem dX4_addCue_37 : decode cX4_addCue 37 = .ok (.getfield 64, 3) := by decide +kernel
theorem dX4_addCue_40 : decode cX4_addCue 40 = .ok (.ifCond .le 5, 3) := by decide +kernel
theorem dX4_addCue_43 : decode cX4_addCue 43 = .ok (.iconst 0, 1) := by decide +kernel
theorem dX4_addCue_44 : decode cX4_addCue 44 = .ok (.ireturn, 1) := by decide +kernel
theorem dX4_addCue_45 : decode cX4_addCue 45 = .ok (.aload_n 0, 1) := by decide +kernel
theorem dX4_addCue_46 : decode cX4_addCue 46 = .ok (.getfield 25, 3) := by decide +kernel
theorem dX4_addCue_49 : decode cX4_addCue 49 = .ok (.iload_n 1, 1) := by decide +kernel
theorem dX4_addCue_50 : decode cX4_addCue 50 = .ok (.iaload, 1) := by decide +kernel
theorem dX4_addCue_51 : decode cX4_addCue 51 = .ok (.bipush 10, 2) := by decide +kernel
theorem dX4_addCue_53 : decode cX4_addCue 53 = .ok (.if_icmp .ne 9, 3) := by decide +kernel
theorem dX4_addCue_56 : decode cX4_addCue 56 = .ok (.aload_n 0, 1) := by decide +kernel
theorem dX4_addCue_57 : decode cX4_addCue 57 = .ok (.iconst 2, 1) := by decide +kernel
theorem dX4_addCue_58 : decode cX4_addCue 58 = .ok (.invokevirtual 102, 3) := by decide +kernel
theorem dX4_addCue_61 : decode cX4_addCue 61 = .ok (.ireturn, 1) := by decide +kernel
theorem dX4_addCue_62 : decode cX4_addCue 62 = .ok (.bipush 10, 2) := by decide +kernel
theorem dX4_addCue_64 : decode cX4_addCue 64 = .ok (.iload_n 1, 1) := by decide +kernel
theorem dX4_addCue_65 : decode cX4_addCue 65 = .ok (.imul, 1) := by decide +kernel
theorem dX4_addCue_66 : decode cX4_addCue 66 = .ok (.aload_n 0, 1) := by decide +kernel
theorem dX4_addCue_67 : decode cX4_addCue 67 = .ok (.getfield 25, 3) := by decide +kernel
theorem dX4_addCue_70 : decode cX4_addCue 70 = .ok (.iload_n 1, 1) := by decide +kernel
theorem dX4_addCue_71 : decode cX4_addCue 71 = .ok (.iaload, 1) := by decide +kernel
theorem dX4_addCue_72 : decode cX4_addCue 72 = .ok (.iadd, 1) := by decide +kernel
theorem dX4_addCue_73 : decode cX4_addCue 73 = .ok (.istore 5, 2) := by decide +kernel
theorem dX4_addCue_75 : decode cX4_addCue 75 = .ok (.aload_n 0, 1) := by decide +kernel
theorem dX4_addCue_76 : decode cX4_addCue 76 = .ok (.getfield 28, 3) := by decide +kernel
theorem dX4_addCue_79 : decode cX4_addCue 79 = .ok (.iload 5, 2) := by decide +kernel
theorem dX4_addCue_81 : decode cX4_addCue 81 = .ok (.iload_n 2, 1) := by decide +kernel
theorem dX4_addCue_82 : decode cX4_addCue 82 = .ok (.iastore, 1) := by decide +kernel
theorem dX4_addCue_83 : decode cX4_addCue 83 = .ok (.aload_n 0, 1) := by decide +kernel
theorem dX4_addCue_84 : decode cX4_addCue 84 = .ok (.getfield 31, 3) := by decide +kernel
theorem dX4_addCue_87 : decode cX4_addCue 87 = .ok (.iload 5, 2) := by decide +kernel
theorem dX4_addCue_89 : decode cX4_addCue 89 = .ok (.iload_n 3, 1) := by decide +kernel
theorem dX4_addCue_90 : decode cX4_addCue 90 = .ok (.iastore, 1) := by decide +kernel
theorem dX4_addCue_91 : decode cX4_addCue 91 = .ok (.aload_n 0, 1) := by decide +kernel
theorem dX4_addCue_92 : decode cX4_addCue 92 = .ok (.getfield 34, 3) := by decide +kernel
theorem dX4_addCue_95 : decode cX4_addCue 95 = .ok (.iload 5, 2) := by decide +kernel
theorem dX4_addCue_97 : decode cX4_addCue 97 = .ok (.iload 4, 2) := by decide +kernel
theorem dX4_addCue_99 : decode cX4_addCue 99 = .ok (.ifCond .eq 7, 3) := by decide +kernel
theorem dX4_addCue_102 : decode cX4_addCue 102 = .ok (.iconst 1, 1) := by decide +kernel
theorem dX4_addCue_103 : decode cX4_addCue 103 = .ok (.goto 4, 3) := by decide +kernel
theorem dX4_addCue_106 : decode cX4_addCue 106 = .ok (.iconst 0, 1) := by decide +kernel
theorem dX4_addCue_107 : decode cX4_addCue 107 = .ok (.iastore, 1) := by decide +kernel
theorem dX4_addCue_108 : decode cX4_addCue 108 = .ok (.aload_n 0, 1) := by decide +kernel
theorem dX4_addCue_109 : decode cX4_addCue 109 = .ok (.getfield 25, 3) := by decide +kernel
theorem dX4_addCue_112 : decode cX4_addCue 112 = .ok (.iload_n 1, 1) := by decide +kernel
theorem dX4_addCue_113 : decode cX4_addCue 113 = .ok (.dup2, 1) := by decide +kernel
theorem dX4_addCue_114 : decode cX4_addCue 114 = .ok (.iaload, 1) := by decide +kernel
theorem dX4_addCue_115 : decode cX4_addCue 115 = .ok (.iconst 1, 1) := by decide +kernel
theorem dX4_addCue_116 : decode cX4_addCue 116 = .ok (.iadd, 1) := by decide +kernel
theorem dX4_addCue_117 : decode cX4_addCue 117 = .ok (.iastore, 1) := by decide +kernel
theorem dX4_addCue_118 : decode cX4_addCue 118 = .ok (.aload_n 0, 1) := by decide +kernel
theorem dX4_addCue_119 : decode cX4_addCue 119 = .ok (.getfield 25, 3) := by decide +kernel
theorem dX4_addCue_122 : decode cX4_addCue 122 = .ok (.iload_n 1, 1) := by decide +kernel
theorem dX4_addCue_123 : decode cX4_addCue 123 = .ok (.iaload, 1) := by decide +kernel
theorem dX4_addCue_124 : decode cX4_addCue 124 = .ok (.iconst 1, 1) := by decide +kernel
theorem dX4_addCue_125 : decode cX4_addCue 125 = .ok (.isub, 1) := by decide +kernel
theorem dX4_addCue_126 : decode cX4_addCue 126 = .ok (.ireturn, 1) := by decide +kernel
set_option maxRecDepth 20000 in
theorem ggX4_setLevel_X4_isList : GoodIn wsX4_setLevel wsX4_isList := goodIn_r _ [7, 8, 9, 6, 10] (by decide +kernel) (by decide +kernel)
set_option maxRecDepth 20000 in
theorem gX4_setLevel_X4_isList : GoodIn wsX4_setLevel (va_wsS RX4 99 yX4_isList wsX4_isList) := goodIn_app (goodIn_of _ (by decide +kernel)) ggX4_setLevel_X4_isList
set_option maxRecDepth 20000 in
theorem ggX4_setLevel_X4_isChannel : GoodIn wsX4_setLevel wsX4_isChannel := goodIn_r _ [13, 8, 9, 6, 10] (by decide +kernel) (by decide +kernel)
set_option maxRecDepth 20000 in
theorem gX4_setLevel_X4_isChannel : GoodIn wsX4_setLevel (va_wsS RX4 93 yX4_isChannel wsX4_isChannel) := goodIn_app (goodIn_of _ (by decide +kernel)) ggX4_setLevel_X4_isChannel
set_option maxRecDepth 20000 in
theorem ggX4_setLevel_X4_in : GoodIn wsX4_setLevel wsX4_in := goodIn_r _ [10] (by decide +kernel) (by decide +kernel)
set_option maxRecDepth 20000 in
theorem gX4_setLevel_X4_in : GoodIn wsX4_setLevel (va_wsS RX4 68 yX4_in wsX4_in) := goodIn_app (goodIn_of _ (by decide +kernel)) ggX4_setLevel_X4_in
set_option maxRecDepth 20000 in
theorem ggX4_setLevel_X4_keeps : GoodIn wsX4_setLevel wsX4_keeps := goodIn_r _ [17, 18, 19, 20, 21, 22, 23, 24, 25, 26, 27, 28, 29, 30, 31, 32, 33, 34, 35, 36, 37, 38, 39, 40, 41, 42, 43, 44, 45] (by decide +kernel) (by decide +kernel)
set_option maxRecDepth 20000 in
theorem gX4_setLevel_X4_keeps : GoodIn wsX4_setLevel (wsV RX4 86 RX4 yX4_keeps wsX4_keeps) := goodIn_app (goodIn_of _ (by decide +kernel)) ggX4_setLevel_X4_keeps
theorem dX4_setLevel_0 : decode cX4_setLevel 0 = .ok (.aload_n 0, 1) := by decide +kernel
theorem dX4_setLevel_1 : decode cX4_setLevel 1 = .ok (.iload_n 1, 1) := by decide +kernel
theorem dX4_setLevel_2 : decode cX4_setLevel 2 = .ok (.invokestatic 99, 3) := by decide +kernel
theorem dX4_setLevel_5 : decode cX4_setLevel 5 = .ok (.ifCond .eq 21, 3) := by decide +kernel
theorem dX4_setLevel_8 : decode cX4_setLevel 8 = .ok (.iload_n 3, 1) := by decide +kernel
theorem dX4_setLevel_9 : decode cX4_setLevel 9 = .ok (.invokestatic 93, 3) := by decide +kernel
theorem dX4_setLevel_12 : decode cX4_setLevel 12 = .ok (.ifCond .eq 14, 3) := by decide +kernel
theorem dX4_setLevel_15 : decode cX4_setLevel 15 = .ok (.iload 4, 2) := by decide +kernel
theorem dX4_setLevel_17 : decode cX4_setLevel 17 = .ok (.iconst (-1), 1) := by decide +kernel
theorem dX4_setLevel_18 : decode cX4_setLevel 18 = .ok (.bipush 100, 2) := by decide +kernel
theorem dX4_setLevel_20 : decode cX4_setLevel 20 = .ok (.invokestatic 68, 3) := by decide +kernel
theorem dX4_setLevel_23 : decode cX4_setLevel 23 = .ok (.ifCond .ne 7, 3) := by decide +kernel
theorem dX4_setLevel_26 : decode cX4_setLevel 26 = .ok (.iconst 1, 1) := by decide +kernel
theorem dX4_setLevel_27 : decode cX4_setLevel 27 = .ok (.goto 24, 3) := by decide +kernel
theorem dX4_setLevel_30 : decode cX4_setLevel 30 = .ok (.iload_n 2, 1) := by decide +kernel
theorem dX4_setLevel_31 : decode cX4_setLevel 31 = .ok (.iconst 0, 1) := by decide +kernel
theorem dX4_setLevel_32 : decode cX4_setLevel 32 = .ok (.aload_n 0, 1) := by decide +kernel
theorem dX4_setLevel_33 : decode cX4_setLevel 33 = .ok (.getfield 25, 3) := by decide +kernel
theorem dX4_setLevel_36 : decode cX4_setLevel 36 = .ok (.iload_n 1, 1) := by decide +kernel
theorem dX4_setLevel_37 : decode cX4_setLevel 37 = .ok (.iaload, 1) := by decide +kernel
theorem dX4_setLevel_38 : decode cX4_setLevel 38 = .ok (.iconst 1, 1) := by decide +kernel
theorem dX4_setLevel_39 : decode cX4_setLevel 39 = .ok (.isub, 1) := by decide +kernel
theorem dX4_setLevel_40 : decode cX4_setLevel 40 = .ok (.invokestatic 68, 3) := by decide +kernel
theorem dX4_setLevel_43 : decode cX4_setLevel 43 = .ok (.ifCond .ne 7, 3) := by decide +kernel
theorem dX4_setLevel_46 : decode cX4_setLevel 46 = .ok (.iconst 2, 1) := by decide +kernel
theorem dX4_setLevel_47 : decode cX4_setLevel 47 = .ok (.goto 4, 3) := by decide +kernel
theorem dX4_setLevel_50 : decode cX4_setLevel 50 = .ok (.iconst 0, 1) := by decide +kernel
theorem dX4_setLevel_51 : decode cX4_setLevel 51 = .ok (.putfield 64, 3) := by decide +kernel
theorem dX4_setLevel_54 : decode cX4_setLevel 54 = .ok (.aload_n 0, 1) := by decide +kernel
theorem dX4_setLevel_55 : decode cX4_setLevel 55 = .ok (.getfield 64, 3) := by decide +kernel
theorem dX4_setLevel_58 : decode cX4_setLevel 58 = .ok (.ifCond .le 5, 3) := by decide +kernel
theorem dX4_setLevel_61 : decode cX4_setLevel 61 = .ok (.iconst 0, 1) := by decide +kernel
theorem dX4_setLevel_62 : decode cX4_setLevel 62 = .ok (.ireturn, 1) := by decide +kernel
theorem dX4_setLevel_63 : decode cX4_setLevel 63 = .ok (.bipush 12, 2) := by decide +kernel
theorem dX4_setLevel_65 : decode cX4_setLevel 65 = .ok (.bipush 10, 2) := by decide +kernel
theorem dX4_setLevel_67 : decode cX4_setLevel 67 = .ok (.iload_n 1, 1) := by decide +kernel
theorem dX4_setLevel_68 : decode cX4_setLevel 68 = .ok (.imul, 1) := by decide +kernel
theorem dX4_setLevel_69 : decode cX4_setLevel 69 = .ok (.iload_n 2, 1) := by decide +kernel
theorem dX4_setLevel_70 : decode cX4_setLevel 70 = .ok (.iadd, 1) := by decide +kernel
theorem dX4_setLevel_71 : decode cX4_setLevel 71 = .ok (.imul, 1) := by decide +kernel
theorem dX4_setLevel_72 : decode cX4_setLevel 72 = .ok (.iload_n 3, 1) := by decide +kernel
theorem dX4_setLevel_73 : decode cX4_setLevel 73 = .ok (.iadd, 1) := by decide +kernel
theorem dX4_setLevel_74 : decode cX4_setLevel 74 = .ok (.istore 5, 2) := by decide +kernel
theorem dX4_setLevel_76 : decode cX4_setLevel 76 = .ok (.aload_n 0, 1) := by decide +kernel
theorem dX4_setLevel_77 : decode cX4_setLevel 77 = .ok (.getfield 37, 3) := by decide +kernel
theorem dX4_setLevel_80 : decode cX4_setLevel 80 = .ok (.iload 5, 2) := by decide +kernel
theorem dX4_setLevel_82 : decode cX4_setLevel 82 = .ok (.iaload, 1) := by decide +kernel
theorem dX4_setLevel_83 : decode cX4_setLevel 83 = .ok (.iconst 1, 1) := by decide +kernel
theorem dX4_setLevel_84 : decode cX4_setLevel 84 = .ok (.isub, 1) := by decide +kernel
theorem dX4_setLevel_85 : decode cX4_setLevel 85 = .ok (.istore 6, 2) := by decide +kernel
theorem dX4_setLevel_87 : decode cX4_setLevel 87 = .ok (.aload_n 0, 1) := by decide +kernel
theorem dX4_setLevel_88 : decode cX4_setLevel 88 = .ok (.iconst 2, 1) := by decide +kernel
theorem dX4_setLevel_89 : decode cX4_setLevel 89 = .ok (.iload 5, 2) := by decide +kernel
theorem dX4_setLevel_91 : decode cX4_setLevel 91 = .ok (.aload_n 0, 1) := by decide +kernel
theorem dX4_setLevel_92 : decode cX4_setLevel 92 = .ok (.getfield 37, 3) := by decide +kernel
theorem dX4_setLevel_95 : decode cX4_setLevel 95 = .ok (.iload 5, 2) := by decide +kernel
theorem dX4_setLevel_97 : decode cX4_setLevel 97 = .ok (.iaload, 1) := by decide +kernel
theorem dX4_setLevel_98 : decode cX4_setLevel 98 = .ok (.iconst 0, 1) := by decide +kernel
theorem dX4_setLevel_99 : decode cX4_setLevel 99 = .ok (.invokevirtual 86, 3) := by decide +kernel
theorem dX4_setLevel_102 : decode cX4_setLevel 102 = .ok (.aload_n 0, 1) := by decide +kernel
theorem dX4_setLevel_103 : decode cX4_setLevel 103 = .ok (.getfield 37, 3) := by decide +kernel
theorem dX4_setLevel_106 : decode cX4_setLevel 106 = .ok (.iload 5, 2) := by decide +kernel
theorem dX4_setLevel_108 : decode cX4_setLevel 108 = .ok (.iload 4, 2) := by decide +kernel
theorem dX4_setLevel_110 : decode cX4_setLevel 110 = .ok (.iconst 1, 1) := by decide +kernel
theorem dX4_setLevel_111 : decode cX4_setLevel 111 = .ok (.iadd, 1) := by decide +kernel
theorem dX4_setLevel_112 : decode cX4_setLevel 112 = .ok (.iastore, 1) := by decide +kernel
theorem dX4_setLevel_113 : decode cX4_setLevel 113 = .ok (.iload 6, 2) := by decide +kernel
theorem dX4_setLevel_115 : decode cX4_setLevel 115 = .ok (.ireturn, 1) := by decide +kernel
theorem dX4_levelOf_0 : decode cX4_levelOf 0 = .ok (.bipush 12, 2) := by decide +kernel
theorem dX4_levelOf_2 : decode cX4_levelOf 2 = .ok (.iload_n 1, 1) := by decide +kernel
theorem dX4_levelOf_3 : decode cX4_levelOf 3 = .ok (.imul, 1) := by decide +kernel
theorem dX4_levelOf_4 : decode cX4_levelOf 4 = .ok (.iload_n 2, 1) := by decide +kernel
theorem dX4_levelOf_5 : decode cX4_levelOf 5 = .ok (.iadd, 1) := by decide +kernel
theorem dX4_levelOf_6 : decode cX4_levelOf 6 = .ok (.istore_n 3, 1) := by decide +kernel
theorem dX4_levelOf_7 : decode cX4_levelOf 7 = .ok (.aload_n 0, 1) := by decide +kernel
theorem dX4_levelOf_8 : decode cX4_levelOf 8 = .ok (.getfield 49, 3) := by decide +kernel
theorem dX4_levelOf_11 : decode cX4_levelOf 11 = .ok (.iload_n 3, 1) := by decide +kernel
theorem dX4_levelOf_12 : decode cX4_levelOf 12 = .ok (.iaload, 1) := by decide +kernel
theorem dX4_levelOf_13 : decode cX4_levelOf 13 = .ok (.ifCond .ne 10, 3) := by decide +kernel
theorem dX4_levelOf_16 : decode cX4_levelOf 16 = .ok (.aload_n 0, 1) := by decide +kernel
theorem dX4_levelOf_17 : decode cX4_levelOf 17 = .ok (.getfield 46, 3) := by decide +kernel
theorem dX4_levelOf_20 : decode cX4_levelOf 20 = .ok (.iload_n 3, 1) := by decide +kernel
theorem dX4_levelOf_21 : decode cX4_levelOf 21 = .ok (.iaload, 1) := by decide +kernel
theorem dX4_levelOf_22 : decode cX4_levelOf 22 = .ok (.ireturn, 1) := by decide +kernel
theorem dX4_levelOf_23 : decode cX4_levelOf 23 = .ok (.bipush 10, 2) := by decide +kernel
theorem dX4_levelOf_25 : decode cX4_levelOf 25 = .ok (.iload_n 1, 1) := by decide +kernel
theorem dX4_levelOf_26 : decode cX4_levelOf 26 = .ok (.imul, 1) := by decide +kernel
theorem dX4_levelOf_27 : decode cX4_levelOf 27 = .ok (.aload_n 0, 1) := by decide +kernel
theorem dX4_levelOf_28 : decode cX4_levelOf 28 = .ok (.getfield 40, 3) := by decide +kernel
theorem dX4_levelOf_31 : decode cX4_levelOf 31 = .ok (.iload_n 1, 1) := by decide +kernel
theorem dX4_levelOf_32 : decode cX4_levelOf 32 = .ok (.iaload, 1) := by decide +kernel
theorem dX4_levelOf_33 : decode cX4_levelOf 33 = .ok (.iadd, 1) := by decide +kernel
theorem dX4_levelOf_34 : decode cX4_levelOf 34 = .ok (.istore 4, 2) := by decide +kernel
theorem dX4_levelOf_36 : decode cX4_levelOf 36 = .ok (.aload_n 0, 1) := by decide +kernel
theorem dX4_levelOf_37 : decode cX4_levelOf 37 = .ok (.getfield 106, 3) := by decide +kernel
theorem dX4_levelOf_40 : decode cX4_levelOf 40 = .ok (.aload_n 0, 1) := by decide +kernel
theorem dX4_levelOf_41 : decode cX4_levelOf 41 = .ok (.getfield 43, 3) := by decide +kernel
theorem dX4_levelOf_44 : decode cX4_levelOf 44 = .ok (.iload_n 1, 1) := by decide +kernel
theorem dX4_levelOf_45 : decode cX4_levelOf 45 = .ok (.iaload, 1) := by decide +kernel
theorem dX4_levelOf_46 : decode cX4_levelOf 46 = .ok (.isub, 1) := by decide +kernel
theorem dX4_levelOf_47 : decode cX4_levelOf 47 = .ok (.aload_n 0, 1) := by decide +kernel
theorem dX4_levelOf_48 : decode cX4_levelOf 48 = .ok (.getfield 28, 3) := by decide +kernel
theorem dX4_levelOf_51 : decode cX4_levelOf 51 = .ok (.iload 4, 2) := by decide +kernel
theorem dX4_levelOf_53 : decode cX4_levelOf 53 = .ok (.iaload, 1) := by decide +kernel
theorem dX4_levelOf_54 : decode cX4_levelOf 54 = .ok (.isub, 1) := by decide +kernel
theorem dX4_levelOf_55 : decode cX4_levelOf 55 = .ok (.istore 5, 2) := by decide +kernel
theorem dX4_levelOf_57 : decode cX4_levelOf 57 = .ok (.aload_n 0, 1) := by decide +kernel
theorem dX4_levelOf_58 : decode cX4_levelOf 58 = .ok (.getfield 49, 3) := by decide +kernel
theorem dX4_levelOf_61 : decode cX4_levelOf 61 = .ok (.iload_n 3, 1) := by decide +kernel
theorem dX4_levelOf_62 : decode cX4_levelOf 62 = .ok (.iaload, 1) := by decide +kernel
theorem dX4_levelOf_63 : decode cX4_levelOf 63 = .ok (.iconst 1, 1) := by decide +kernel
theorem dX4_levelOf_64 : decode cX4_levelOf 64 = .ok (.isub, 1) := by decide +kernel
theorem dX4_levelOf_65 : decode cX4_levelOf 65 = .ok (.aload_n 0, 1) := by decide +kernel
theorem dX4_levelOf_66 : decode cX4_levelOf 66 = .ok (.getfield 46, 3) := by decide +kernel
theorem dX4_levelOf_69 : decode cX4_levelOf 69 = .ok (.iload_n 3, 1) := by decide +kernel
theorem dX4_levelOf_70 : decode cX4_levelOf 70 = .ok (.iaload, 1) := by decide +kernel
theorem dX4_levelOf_71 : decode cX4_levelOf 71 = .ok (.isub, 1) := by decide +kernel
theorem dX4_levelOf_72 : decode cX4_levelOf 72 = .ok (.istore 6, 2) := by decide +kernel
theorem dX4_levelOf_74 : decode cX4_levelOf 74 = .ok (.iload 5, 2) := by decide +kernel
theorem dX4_levelOf_76 : decode cX4_levelOf 76 = .ok (.ifCond .ge 12, 3) := by decide +kernel
theorem dX4_levelOf_79 : decode cX4_levelOf 79 = .ok (.aload_n 0, 1) := by decide +kernel
theorem dX4_levelOf_80 : decode cX4_levelOf 80 = .ok (.getfield 46, 3) := by decide +kernel
theorem dX4_levelOf_83 : decode cX4_levelOf 83 = .ok (.iload_n 3, 1) := by decide +kernel
theorem dX4_levelOf_84 : decode cX4_levelOf 84 = .ok (.iaload, 1) := by decide +kernel
theorem dX4_levelOf_85 : decode cX4_levelOf 85 = .ok (.goto 46, 3) := by decide +kernel
theorem dX4_levelOf_88 : decode cX4_levelOf 88 = .ok (.iload 5, 2) := by decide +kernel
theorem dX4_levelOf_90 : decode cX4_levelOf 90 = .ok (.aload_n 0, 1) := by decide +kernel
theorem dX4_levelOf_91 : decode cX4_levelOf 91 = .ok (.getfield 31, 3) := by decide +kernel
theorem dX4_levelOf_94 : decode cX4_levelOf 94 = .ok (.iload 4, 2) := by decide +kernel
theorem dX4_levelOf_96 : decode cX4_levelOf 96 = .ok (.iaload, 1) := by decide +kernel
theorem dX4_levelOf_97 : decode cX4_levelOf 97 = .ok (.if_icmp .lt 14, 3) := by decide +kernel
theorem dX4_levelOf_100 : decode cX4_levelOf 100 = .ok (.aload_n 0, 1) := by decide +kernel
theorem dX4_levelOf_101 : decode cX4_levelOf 101 = .ok (.getfield 49, 3) := by decide +kernel
theorem dX4_levelOf_104 : decode cX4_levelOf 104 = .ok (.iload_n 3, 1) := by decide +kernel
theorem dX4_levelOf_105 : decode cX4_levelOf 105 = .ok (.iaload, 1) := by decide +kernel
theorem dX4_levelOf_106 : decode cX4_levelOf 106 = .ok (.iconst 1, 1) := by decide +kernel
theorem dX4_levelOf_107 : decode cX4_levelOf 107 = .ok (.isub, 1) := by decide +kernel
theorem dX4_levelOf_108 : decode cX4_levelOf 108 = .ok (.goto 23, 3) := by decide +kernel
theorem dX4_levelOf_111 : decode cX4_levelOf 111 = .ok (.aload_n 0, 1) := by decide +kernel
theorem dX4_levelOf_112 : decode cX4_levelOf 112 = .ok (.getfield 46, 3) := by decide +kernel
theorem dX4_levelOf_115 : decode cX4_levelOf 115 = .ok (.iload_n 3, 1) := by decide +kernel
theorem dX4_levelOf_116 : decode cX4_levelOf 116 = .ok (.iaload, 1) := by decide +kernel
theorem dX4_levelOf_117 : decode cX4_levelOf 117 = .ok (.iload 6, 2) := by decide +kernel
theorem dX4_levelOf_119 : decode cX4_levelOf 119 = .ok (.iload 5, 2) := by decide +kernel
theorem dX4_levelOf_121 : decode cX4_levelOf 121 = .ok (.imul, 1) := by decide +kernel
theorem dX4_levelOf_122 : decode cX4_levelOf 122 = .ok (.aload_n 0, 1) := by decide +kernel
theorem dX4_levelOf_123 : decode cX4_levelOf 123 = .ok (.getfield 31, 3) := by decide +kernel
theorem dX4_levelOf_126 : decode cX4_levelOf 126 = .ok (.iload 4, 2) := by decide +kernel
theorem dX4_levelOf_128 : decode cX4_levelOf 128 = .ok (.iaload, 1) := by decide +kernel
theorem dX4_levelOf_129 : decode cX4_levelOf 129 = .ok (.idiv, 1) := by decide +kernel
theorem dX4_levelOf_130 : decode cX4_levelOf 130 = .ok (.iadd, 1) := by decide +kernel
theorem dX4_levelOf_131 : decode cX4_levelOf 131 = .ok (.ireturn, 1) := by decide +kernel
set_option maxRecDepth 20000 in
theorem ggX4_begins_X4_levelOf : GoodIn wsX4_begins wsX4_levelOf := goodIn_r _ [12, 2, 1, 5, 7, 6, 13, 14, 15, 16, 17, 18, 19, 20, 21, 22, 23, 24, 25, 26, 27, 28, 29, 30, 31, 32, 33, 34, 35, 36, 37] (by decide +kernel) (by decide +kernel)
set_option maxRecDepth 20000 in
theorem gX4_begins_X4_levelOf : GoodIn wsX4_begins (wsV RX4 109 RX4 yX4_levelOf wsX4_levelOf) := goodIn_app (goodIn_of _ (by decide +kernel)) ggX4_begins_X4_levelOf
theorem dX4_begins_0 : decode cX4_begins 0 = .ok (.iconst 0, 1) := by decide +kernel
theorem dX4_begins_1 : decode cX4_begins 1 = .ok (.istore_n 3, 1) := by decide +kernel
theorem dX4_begins_2 : decode cX4_begins 2 = .ok (.iload_n 3, 1) := by decide +kernel
theorem dX4_begins_3 : decode cX4_begins 3 = .ok (.bipush 12, 2) := by decide +kernel
theorem dX4_begins_5 : decode cX4_begins 5 = .ok (.if_icmp .ge 38, 3) := by decide +kernel
theorem dX4_begins_8 : decode cX4_begins 8 = .ok (.aload_n 0, 1) := by decide +kernel
theorem dX4_begins_9 : decode cX4_begins 9 = .ok (.getfield 46, 3) := by decide +kernel
theorem dX4_begins_12 : decode cX4_begins 12 = .ok (.bipush 12, 2) := by decide +kernel
theorem dX4_begins_14 : decode cX4_begins 14 = .ok (.iload_n 1, 1) := by decide +kernel
theorem dX4_begins_15 : decode cX4_begins 15 = .ok (.imul, 1) := by decide +kernel
theorem dX4_begins_16 : decode cX4_begins 16 = .ok (.iload_n 3, 1) := by decide +kernel
theorem dX4_begins_17 : decode cX4_begins 17 = .ok (.iadd, 1) := by decide +kernel
theorem dX4_begins_18 : decode cX4_begins 18 = .ok (.aload_n 0, 1) := by decide +kernel
theorem dX4_begins_19 : decode cX4_begins 19 = .ok (.iload_n 1, 1) := by decide +kernel
theorem dX4_begins_20 : decode cX4_begins 20 = .ok (.iload_n 3, 1) := by decide +kernel
theorem dX4_begins_21 : decode cX4_begins 21 = .ok (.invokevirtual 109, 3) := by decide +kernel
theorem dX4_begins_24 : decode cX4_begins 24 = .ok (.iastore, 1) := by decide +kernel
theorem dX4_begins_25 : decode cX4_begins 25 = .ok (.aload_n 0, 1) := by decide +kernel
theorem dX4_begins_26 : decode cX4_begins 26 = .ok (.getfield 49, 3) := by decide +kernel
theorem dX4_begins_29 : decode cX4_begins 29 = .ok (.bipush 12, 2) := by decide +kernel
theorem dX4_begins_31 : decode cX4_begins 31 = .ok (.iload_n 1, 1) := by decide +kernel
theorem dX4_begins_32 : decode cX4_begins 32 = .ok (.imul, 1) := by decide +kernel
theorem dX4_begins_33 : decode cX4_begins 33 = .ok (.iload_n 3, 1) := by decide +kernel
theorem dX4_begins_34 : decode cX4_begins 34 = .ok (.iadd, 1) := by decide +kernel
theorem dX4_begins_35 : decode cX4_begins 35 = .ok (.iconst 0, 1) := by decide +kernel
theorem dX4_begins_36 : decode cX4_begins 36 = .ok (.iastore, 1) := by decide +kernel
theorem dX4_begins_37 : decode cX4_begins 37 = .ok (.iinc 3 1, 3) := by decide +kernel
theorem dX4_begins_40 : decode cX4_begins 40 = .ok (.goto (-38), 3) := by decide +kernel
theorem dX4_begins_43 : decode cX4_begins 43 = .ok (.iconst 0, 1) := by decide +kernel
theorem dX4_begins_44 : decode cX4_begins 44 = .ok (.istore_n 3, 1) := by decide +kernel
theorem dX4_begins_45 : decode cX4_begins 45 = .ok (.iload_n 3, 1) := by decide +kernel
theorem dX4_begins_46 : decode cX4_begins 46 = .ok (.bipush 12, 2) := by decide +kernel
theorem dX4_begins_48 : decode cX4_begins 48 = .ok (.if_icmp .ge 61, 3) := by decide +kernel
theorem dX4_begins_51 : decode cX4_begins 51 = .ok (.aload_n 0, 1) := by decide +kernel
theorem dX4_begins_52 : decode cX4_begins 52 = .ok (.getfield 37, 3) := by decide +kernel
theorem dX4_begins_55 : decode cX4_begins 55 = .ok (.bipush 12, 2) := by decide +kernel
theorem dX4_begins_57 : decode cX4_begins 57 = .ok (.bipush 10, 2) := by decide +kernel
theorem dX4_begins_59 : decode cX4_begins 59 = .ok (.iload_n 1, 1) := by decide +kernel
theorem dX4_begins_60 : decode cX4_begins 60 = .ok (.imul, 1) := by decide +kernel
theorem dX4_begins_61 : decode cX4_begins 61 = .ok (.iload_n 2, 1) := by decide +kernel
theorem dX4_begins_62 : decode cX4_begins 62 = .ok (.iadd, 1) := by decide +kernel
theorem dX4_begins_63 : decode cX4_begins 63 = .ok (.imul, 1) := by decide +kernel
theorem dX4_begins_64 : decode cX4_begins 64 = .ok (.iload_n 3, 1) := by decide +kernel
theorem dX4_begins_65 : decode cX4_begins 65 = .ok (.iadd, 1) := by decide +kernel
theorem dX4_begins_66 : decode cX4_begins 66 = .ok (.iaload, 1) := by decide +kernel
theorem dX4_begins_67 : decode cX4_begins 67 = .ok (.istore 4, 2) := by decide +kernel
theorem dX4_begins_69 : decode cX4_begins 69 = .ok (.aload_n 0, 1) := by decide +kernel
theorem dX4_begins_70 : decode cX4_begins 70 = .ok (.getfield 49, 3) := by decide +kernel
theorem dX4_begins_73 : decode cX4_begins 73 = .ok (.bipush 12, 2) := by decide +kernel
theorem dX4_begins_75 : decode cX4_begins 75 = .ok (.iload_n 1, 1) := by decide +kernel
theorem dX4_begins_76 : decode cX4_begins 76 = .ok (.imul, 1) := by decide +kernel
theorem dX4_begins_77 : decode cX4_begins 77 = .ok (.iload_n 3, 1) := by decide +kernel
theorem dX4_begins_78 : decode cX4_begins 78 = .ok (.iadd, 1) := by decide +kernel
theorem dX4_begins_79 : decode cX4_begins 79 = .ok (.iload 4, 2) := by decide +kernel
theorem dX4_begins_81 : decode cX4_begins 81 = .ok (.iastore, 1) := by decide +kernel
theorem dX4_begins_82 : decode cX4_begins 82 = .ok (.aload_n 0, 1) := by decide +kernel
theorem dX4_begins_83 : decode cX4_begins 83 = .ok (.getfield 22, 3) := by decide +kernel
theorem dX4_begins_86 : decode cX4_begins 86 = .ok (.iload_n 3, 1) := by decide +kernel
theorem dX4_begins_87 : decode cX4_begins 87 = .ok (.iload 4, 2) := by decide +kernel
theorem dX4_begins_89 : decode cX4_begins 89 = .ok (.ifCond .le 7, 3) := by decide +kernel
theorem dX4_begins_92 : decode cX4_begins 92 = .ok (.iload_n 1, 1) := by decide +kernel
theorem dX4_begins_93 : decode cX4_begins 93 = .ok (.goto 9, 3) := by decide +kernel
theorem dX4_begins_96 : decode cX4_begins 96 = .ok (.aload_n 0, 1) := by decide +kernel
theorem dX4_begins_97 : decode cX4_begins 97 = .ok (.getfield 22, 3) := by decide +kernel
theorem dX4_begins_100 : decode cX4_begins 100 = .ok (.iload_n 3, 1) := by decide +kernel
theorem dX4_begins_101 : decode cX4_begins 101 = .ok (.iaload, 1) := by decide +kernel
theorem dX4_begins_102 : decode cX4_begins 102 = .ok (.iastore, 1) := by decide +kernel
theorem dX4_begins_103 : decode cX4_begins 103 = .ok (.iinc 3 1, 3) := by decide +kernel
theorem dX4_begins_106 : decode cX4_begins 106 = .ok (.goto (-61), 3) := by decide +kernel
theorem dX4_begins_109 : decode cX4_begins 109 = .ok (.aload_n 0, 1) := by decide +kernel
theorem dX4_begins_110 : decode cX4_begins 110 = .ok (.getfield 40, 3) := by decide +kernel
theorem dX4_begins_113 : decode cX4_begins 113 = .ok (.iload_n 1, 1) := by decide +kernel
theorem dX4_begins_114 : decode cX4_begins 114 = .ok (.iload_n 2, 1) := by decide +kernel
theorem dX4_begins_115 : decode cX4_begins 115 = .ok (.iastore, 1) := by decide +kernel
theorem dX4_begins_116 : decode cX4_begins 116 = .ok (.aload_n 0, 1) := by decide +kernel
theorem dX4_begins_117 : decode cX4_begins 117 = .ok (.getfield 43, 3) := by decide +kernel
theorem dX4_begins_120 : decode cX4_begins 120 = .ok (.iload_n 1, 1) := by decide +kernel
theorem dX4_begins_121 : decode cX4_begins 121 = .ok (.aload_n 0, 1) := by decide +kernel
theorem dX4_begins_122 : decode cX4_begins 122 = .ok (.getfield 106, 3) := by decide +kernel
theorem dX4_begins_125 : decode cX4_begins 125 = .ok (.iastore, 1) := by decide +kernel
theorem dX4_begins_126 : decode cX4_begins 126 = .ok (.return_, 1) := by decide +kernel
set_option maxRecDepth 20000 in
theorem ggX4_looks_X4_begins : GoodIn wsX4_looks wsX4_begins := goodIn_r _ [12, 13, 14, 15, 16, 1, 2, 5, 17, 18, 19, 11, 20, 3, 4, 21, 22, 23, 24, 25, 26, 27, 28, 29, 30, 31, 32, 33, 34, 35, 36, 37, 38, 39, 40, 41, 42, 43] (by decide +kernel) (by decide +kernel)
set_option maxRecDepth 20000 in
theorem gX4_looks_X4_begins : GoodIn wsX4_looks (wsV RX4 113 RX4 yX4_begins wsX4_begins) := goodIn_app (goodIn_of _ (by decide +kernel)) ggX4_looks_X4_begins
theorem dX4_looks_0 : decode cX4_looks 0 = .ok (.iconst 0, 1) := by decide +kernel
theorem dX4_looks_1 : decode cX4_looks 1 = .ok (.istore_n 2, 1) := by decide +kernel
theorem dX4_looks_2 : decode cX4_looks 2 = .ok (.iconst 1, 1) := by decide +kernel
theorem dX4_looks_3 : decode cX4_looks 3 = .ok (.istore_n 3, 1) := by decide +kernel
theorem dX4_looks_4 : decode cX4_looks 4 = .ok (.iload_n 3, 1) := by decide +kernel
theorem dX4_looks_5 : decode cX4_looks 5 = .ok (.ifCond .eq 114, 3) := by decide +kernel
theorem dX4_looks_8 : decode cX4_looks 8 = .ok (.bipush 10, 2) := by decide +kernel
theorem dX4_looks_10 : decode cX4_looks 10 = .ok (.iload_n 1, 1) := by decide +kernel
theorem dX4_looks_11 : decode cX4_looks 11 = .ok (.imul, 1) := by decide +kernel
theorem dX4_looks_12 : decode cX4_looks 12 = .ok (.aload_n 0, 1) := by decide +kernel
theorem dX4_looks_13 : decode cX4_looks 13 = .ok (.getfield 40, 3) := by decide +kernel
theorem dX4_looks_16 : decode cX4_looks 16 = .ok (.iload_n 1, 1) := by decide +kernel
theorem dX4_looks_17 : decode cX4_looks 17 = .ok (.iaload, 1) := by decide +kernel
theorem dX4_looks_18 : decode cX4_looks 18 = .ok (.iadd, 1) := by decide +kernel
theorem dX4_looks_19 : decode cX4_looks 19 = .ok (.istore 4, 2) := by decide +kernel
theorem dX4_looks_21 : decode cX4_looks 21 = .ok (.aload_n 0, 1) := by decide +kernel
theorem dX4_looks_22 : decode cX4_looks 22 = .ok (.getfield 40, 3) := by decide +kernel
theorem dX4_looks_25 : decode cX4_looks 25 = .ok (.iload_n 1, 1) := by decide +kernel
theorem dX4_looks_26 : decode cX4_looks 26 = .ok (.iaload, 1) := by decide +kernel
theorem dX4_looks_27 : decode cX4_looks 27 = .ok (.iconst (-1), 1) := by decide +kernel
theorem dX4_looks_28 : decode cX4_looks 28 = .ok (.if_icmp .eq 66, 3) := by decide +kernel
theorem dX4_looks_31 : decode cX4_looks 31 = .ok (.aload_n 0, 1) := by decide +kernel
theorem dX4_looks_32 : decode cX4_looks 32 = .ok (.getfield 43, 3) := by decide +kernel
theorem dX4_looks_35 : decode cX4_looks 35 = .ok (.iload_n 1, 1) := by decide +kernel
theorem dX4_looks_36 : decode cX4_looks 36 = .ok (.iaload, 1) := by decide +kernel
theorem dX4_looks_37 : decode cX4_looks 37 = .ok (.aload_n 0, 1) := by decide +kernel
theorem dX4_looks_38 : decode cX4_looks 38 = .ok (.getfield 28, 3) := by decide +kernel
theorem dX4_looks_41 : decode cX4_looks 41 = .ok (.iload 4, 2) := by decide +kernel
theorem dX4_looks_43 : decode cX4_looks 43 = .ok (.iaload, 1) := by decide +kernel
theorem dX4_looks_44 : decode cX4_looks 44 = .ok (.iadd, 1) := by decide +kernel
theorem dX4_looks_45 : decode cX4_looks 45 = .ok (.aload_n 0, 1) := by decide +kernel
theorem dX4_looks_46 : decode cX4_looks 46 = .ok (.getfield 31, 3) := by decide +kernel
theorem dX4_looks_49 : decode cX4_looks 49 = .ok (.iload 4, 2) := by decide +kernel
theorem dX4_looks_51 : decode cX4_looks 51 = .ok (.iaload, 1) := by decide +kernel
theorem dX4_looks_52 : decode cX4_looks 52 = .ok (.iadd, 1) := by decide +kernel
theorem dX4_looks_53 : decode cX4_looks 53 = .ok (.aload_n 0, 1) := by decide +kernel
theorem dX4_looks_54 : decode cX4_looks 54 = .ok (.getfield 106, 3) := by decide +kernel
theorem dX4_looks_57 : decode cX4_looks 57 = .ok (.if_icmp .ne 37, 3) := by decide +kernel
theorem dX4_looks_60 : decode cX4_looks 60 = .ok (.aload_n 0, 1) := by decide +kernel
theorem dX4_looks_61 : decode cX4_looks 61 = .ok (.getfield 40, 3) := by decide +kernel
theorem dX4_looks_64 : decode cX4_looks 64 = .ok (.iload_n 1, 1) := by decide +kernel
theorem dX4_looks_65 : decode cX4_looks 65 = .ok (.iaload, 1) := by decide +kernel
theorem dX4_looks_66 : decode cX4_looks 66 = .ok (.iconst 1, 1) := by decide +kernel
theorem dX4_looks_67 : decode cX4_looks 67 = .ok (.iadd, 1) := by decide +kernel
theorem dX4_looks_68 : decode cX4_looks 68 = .ok (.aload_n 0, 1) := by decide +kernel
theorem dX4_looks_69 : decode cX4_looks 69 = .ok (.getfield 25, 3) := by decide +kernel
theorem dX4_looks_72 : decode cX4_looks 72 = .ok (.iload_n 1, 1) := by decide +kernel
theorem dX4_looks_73 : decode cX4_looks 73 = .ok (.iaload, 1) := by decide +kernel
theorem dX4_looks_74 : decode cX4_looks 74 = .ok (.if_icmp .ge 20, 3) := by decide +kernel
theorem dX4_looks_77 : decode cX4_looks 77 = .ok (.aload_n 0, 1) := by decide +kernel
theorem dX4_looks_78 : decode cX4_looks 78 = .ok (.getfield 34, 3) := by decide +kernel
theorem dX4_looks_81 : decode cX4_looks 81 = .ok (.iload 4, 2) := by decide +kernel
theorem dX4_looks_83 : decode cX4_looks 83 = .ok (.iconst 1, 1) := by decide +kernel
theorem dX4_looks_84 : decode cX4_looks 84 = .ok (.iadd, 1) := by decide +kernel
theorem dX4_looks_85 : decode cX4_looks 85 = .ok (.iaload, 1) := by decide +kernel
theorem dX4_looks_86 : decode cX4_looks 86 = .ok (.iconst 1, 1) := by decide +kernel
theorem dX4_looks_87 : decode cX4_looks 87 = .ok (.if_icmp .ne 7, 3) := by decide +kernel
theorem dX4_looks_90 : decode cX4_looks 90 = .ok (.iconst 1, 1) := by decide +kernel
theorem dX4_looks_91 : decode cX4_looks 91 = .ok (.goto 4, 3) := by decide +kernel
theorem dX4_looks_94 : decode cX4_looks 94 = .ok (.iconst 0, 1) := by decide +kernel
theorem dX4_looks_95 : decode cX4_looks 95 = .ok (.istore_n 3, 1) := by decide +kernel
theorem dX4_looks_96 : decode cX4_looks 96 = .ok (.iload_n 3, 1) := by decide +kernel
theorem dX4_looks_97 : decode cX4_looks 97 = .ok (.ifCond .eq 19, 3) := by decide +kernel
theorem dX4_looks_100 : decode cX4_looks 100 = .ok (.aload_n 0, 1) := by decide +kernel
theorem dX4_looks_101 : decode cX4_looks 101 = .ok (.iload_n 1, 1) := by decide +kernel
theorem dX4_looks_102 : decode cX4_looks 102 = .ok (.aload_n 0, 1) := by decide +kernel
theorem dX4_looks_103 : decode cX4_looks 103 = .ok (.getfield 40, 3) := by decide +kernel
theorem dX4_looks_106 : decode cX4_looks 106 = .ok (.iload_n 1, 1) := by decide +kernel
theorem dX4_looks_107 : decode cX4_looks 107 = .ok (.iaload, 1) := by decide +kernel
theorem dX4_looks_108 : decode cX4_looks 108 = .ok (.iconst 1, 1) := by decide +kernel
theorem dX4_looks_109 : decode cX4_looks 109 = .ok (.iadd, 1) := by decide +kernel
theorem dX4_looks_110 : decode cX4_looks 110 = .ok (.invokevirtual 113, 3) := by decide +kernel
theorem dX4_looks_113 : decode cX4_looks 113 = .ok (.iinc 2 1, 3) := by decide +kernel
theorem dX4_looks_116 : decode cX4_looks 116 = .ok (.goto (-112), 3) := by decide +kernel
theorem dX4_looks_119 : decode cX4_looks 119 = .ok (.iload_n 2, 1) := by decide +kernel
theorem dX4_looks_120 : decode cX4_looks 120 = .ok (.ireturn, 1) := by decide +kernel
set_option maxRecDepth 20000 in
theorem ggX4_go_X4_isList : GoodIn wsX4_go wsX4_isList := goodIn_r _ [7, 8, 9, 6, 10] (by decide +kernel) (by decide +kernel)
set_option maxRecDepth 20000 in
theorem gX4_go_X4_isList : GoodIn wsX4_go (va_wsS RX4 99 yX4_isList wsX4_isList) := goodIn_app (goodIn_of _ (by decide +kernel)) ggX4_go_X4_isList
set_option maxRecDepth 20000 in
theorem ggX4_go_X4_in : GoodIn wsX4_go wsX4_in := goodIn_r _ [10] (by decide +kernel) (by decide +kernel)
set_option maxRecDepth 20000 in
theorem gX4_go_X4_in : GoodIn wsX4_go (va_wsS RX4 68 yX4_in wsX4_in) := goodIn_app (goodIn_of _ (by decide +kernel)) ggX4_go_X4_in
set_option maxRecDepth 20000 in
theorem ggX4_go_X4_begins : GoodIn wsX4_go wsX4_begins := goodIn_r _ [14, 15, 16, 3, 17, 18, 19, 20, 21, 22, 23, 6, 24, 25, 26, 32, 33, 34, 35, 36, 37, 38, 39, 40, 41, 42, 43, 44, 45, 46, 47, 48, 49, 50, 51, 52, 53, 54] (by decide +kernel) (by decide +kernel)
set_option maxRecDepth 20000 in
theorem gX4_go_X4_begins : GoodIn wsX4_go (wsV RX4 113 RX4 yX4_begins wsX4_begins) := goodIn_app (goodIn_of _ (by decide +kernel)) ggX4_go_X4_begins
set_option maxRecDepth 20000 in
theorem ggX4_go_X4_looks : GoodIn wsX4_go wsX4_looks := goodIn_r _ [30, 18, 19, 25, 26, 20, 1, 31, 11, 12, 13, 6, 14, 15, 16, 3, 17, 21, 22, 23, 24, 32, 33, 34, 35, 36, 37, 38, 39, 40, 41, 42, 43, 44, 45, 46, 47, 48, 49, 50, 51, 52, 53, 54] (by decide +kernel) (by decide +kernel)
set_option maxRecDepth 20000 in
theorem gX4_go_X4_looks : GoodIn wsX4_go (wsV RX4 117 RX4 yX4_looks wsX4_looks) := goodIn_app (goodIn_of _ (by decide +kernel)) ggX4_go_X4_looks
theorem dX4_go_0 : decode cX4_go 0 = .ok (.aload_n 0, 1) := by decide +kernel
theorem dX4_go_1 : decode cX4_go 1 = .ok (.iload_n 1, 1) := by decide +kernel
theorem dX4_go_2 : decode cX4_go 2 = .ok (.invokestatic 99, 3) := by decide +kernel
theorem dX4_go_5 : decode cX4_go 5 = .ok (.ifCond .ne 7, 3) := by decide +kernel
theorem dX4_go_8 : decode cX4_go 8 = .ok (.iconst 1, 1) := by decide +kernel
theorem dX4_go_9 : decode cX4_go 9 = .ok (.goto 24, 3) := by decide +kernel
theorem dX4_go_12 : decode cX4_go 12 = .ok (.iload_n 2, 1) := by decide +kernel
theorem dX4_go_13 : decode cX4_go 13 = .ok (.iconst 0, 1) := by decide +kernel
theorem dX4_go_14 : decode cX4_go 14 = .ok (.aload_n 0, 1) := by decide +kernel
theorem dX4_go_15 : decode cX4_go 15 = .ok (.getfield 25, 3) := by decide +kernel
theorem dX4_go_18 : decode cX4_go 18 = .ok (.iload_n 1, 1) := by decide +kernel
theorem dX4_go_19 : decode cX4_go 19 = .ok (.iaload, 1) := by decide +kernel
theorem dX4_go_20 : decode cX4_go 20 = .ok (.iconst 1, 1) := by decide +kernel
theorem dX4_go_21 : decode cX4_go 21 = .ok (.isub, 1) := by decide +kernel
theorem dX4_go_22 : decode cX4_go 22 = .ok (.invokestatic 68, 3) := by decide +kernel
theorem dX4_go_25 : decode cX4_go 25 = .ok (.ifCond .ne 7, 3) := by decide +kernel
theorem dX4_go_28 : decode cX4_go 28 = .ok (.iconst 2, 1) := by decide +kernel
theorem dX4_go_29 : decode cX4_go 29 = .ok (.goto 4, 3) := by decide +kernel
theorem dX4_go_32 : decode cX4_go 32 = .ok (.iconst 0, 1) := by decide +kernel
theorem dX4_go_33 : decode cX4_go 33 = .ok (.putfield 64, 3) := by decide +kernel
theorem dX4_go_36 : decode cX4_go 36 = .ok (.aload_n 0, 1) := by decide +kernel
theorem dX4_go_37 : decode cX4_go 37 = .ok (.getfield 64, 3) := by decide +kernel
theorem dX4_go_40 : decode cX4_go 40 = .ok (.ifCond .le 5, 3) := by decide +kernel
theorem dX4_go_43 : decode cX4_go 43 = .ok (.iconst 0, 1) := by decide +kernel
theorem dX4_go_44 : decode cX4_go 44 = .ok (.ireturn, 1) := by decide +kernel
theorem dX4_go_45 : decode cX4_go 45 = .ok (.iconst 0, 1) := by decide +kernel
theorem dX4_go_46 : decode cX4_go 46 = .ok (.istore_n 3, 1) := by decide +kernel
theorem dX4_go_47 : decode cX4_go 47 = .ok (.iconst 0, 1) := by decide +kernel
theorem dX4_go_48 : decode cX4_go 48 = .ok (.istore 4, 2) := by decide +kernel
theorem dX4_go_50 : decode cX4_go 50 = .ok (.iload 4, 2) := by decide +kernel
theorem dX4_go_52 : decode cX4_go 52 = .ok (.bipush 12, 2) := by decide +kernel
theorem dX4_go_54 : decode cX4_go 54 = .ok (.if_icmp .ge 37, 3) := by decide +kernel
theorem dX4_go_57 : decode cX4_go 57 = .ok (.iload_n 3, 1) := by decide +kernel
theorem dX4_go_58 : decode cX4_go 58 = .ok (.aload_n 0, 1) := by decide +kernel
theorem dX4_go_59 : decode cX4_go 59 = .ok (.getfield 37, 3) := by decide +kernel
theorem dX4_go_62 : decode cX4_go 62 = .ok (.bipush 12, 2) := by decide +kernel
theorem dX4_go_64 : decode cX4_go 64 = .ok (.bipush 10, 2) := by decide +kernel
theorem dX4_go_66 : decode cX4_go 66 = .ok (.iload_n 1, 1) := by decide +kernel
theorem dX4_go_67 : decode cX4_go 67 = .ok (.imul, 1) := by decide +kernel
theorem dX4_go_68 : decode cX4_go 68 = .ok (.iload_n 2, 1) := by decide +kernel
theorem dX4_go_69 : decode cX4_go 69 = .ok (.iadd, 1) := by decide +kernel
theorem dX4_go_70 : decode cX4_go 70 = .ok (.imul, 1) := by decide +kernel
theorem dX4_go_71 : decode cX4_go 71 = .ok (.iload 4, 2) := by decide +kernel
theorem dX4_go_73 : decode cX4_go 73 = .ok (.iadd, 1) := by decide +kernel
theorem dX4_go_74 : decode cX4_go 74 = .ok (.iaload, 1) := by decide +kernel
theorem dX4_go_75 : decode cX4_go 75 = .ok (.ifCond .le 7, 3) := by decide +kernel
theorem dX4_go_78 : decode cX4_go 78 = .ok (.iconst 1, 1) := by decide +kernel
theorem dX4_go_79 : decode cX4_go 79 = .ok (.goto 4, 3) := by decide +kernel
theorem dX4_go_82 : decode cX4_go 82 = .ok (.iconst 0, 1) := by decide +kernel
theorem dX4_go_83 : decode cX4_go 83 = .ok (.iadd, 1) := by decide +kernel
theorem dX4_go_84 : decode cX4_go 84 = .ok (.istore_n 3, 1) := by decide +kernel
theorem dX4_go_85 : decode cX4_go 85 = .ok (.iinc 4 1, 3) := by decide +kernel
theorem dX4_go_88 : decode cX4_go 88 = .ok (.goto (-38), 3) := by decide +kernel
theorem dX4_go_91 : decode cX4_go 91 = .ok (.aload_n 0, 1) := by decide +kernel
theorem dX4_go_92 : decode cX4_go 92 = .ok (.iload_n 1, 1) := by decide +kernel
theorem dX4_go_93 : decode cX4_go 93 = .ok (.iload_n 2, 1) := by decide +kernel
theorem dX4_go_94 : decode cX4_go 94 = .ok (.invokevirtual 113, 3) := by decide +kernel
theorem dX4_go_97 : decode cX4_go 97 = .ok (.aload_n 0, 1) := by decide +kernel
theorem dX4_go_98 : decode cX4_go 98 = .ok (.iload_n 1, 1) := by decide +kernel
theorem dX4_go_99 : decode cX4_go 99 = .ok (.invokevirtual 117, 3) := by decide +kernel
theorem dX4_go_102 : decode cX4_go 102 = .ok (.pop, 1) := by decide +kernel
theorem dX4_go_103 : decode cX4_go 103 = .ok (.iload_n 3, 1) := by decide +kernel
theorem dX4_go_104 : decode cX4_go 104 = .ok (.ireturn, 1) := by decide +kernel
set_option maxRecDepth 20000 in
theorem ggX4_pass_X4_in : GoodIn wsX4_pass wsX4_in := goodIn_r _ [6] (by decide +kernel) (by decide +kernel)
set_option maxRecDepth 20000 in
theorem gX4_pass_X4_in : GoodIn wsX4_pass (va_wsS RX4 68 yX4_in wsX4_in) := goodIn_app (goodIn_of _ (by decide +kernel)) ggX4_pass_X4_in
set_option maxRecDepth 20000 in
theorem ggX4_pass_X4_looks : GoodIn wsX4_pass wsX4_looks := goodIn_r _ [10, 11, 12, 13, 14, 2, 15, 16, 17, 18, 19, 5, 20, 21, 22, 23, 24, 25, 26, 27, 28, 29, 30, 31, 32, 33, 34, 35, 36, 37, 38, 39, 40, 41, 42, 43, 44, 45, 46, 47, 48, 49, 50, 51] (by decide +kernel) (by decide +kernel)
set_option maxRecDepth 20000 in
theorem gX4_pass_X4_looks : GoodIn wsX4_pass (wsV RX4 117 RX4 yX4_looks wsX4_looks) := goodIn_app (goodIn_of _ (by decide +kernel)) ggX4_pass_X4_looks
theorem dX4_pass_0 : decode cX4_pass 0 = .ok (.aload_n 0, 1) := by decide +kernel
theorem dX4_pass_1 : decode cX4_pass 1 = .ok (.iload_n 1, 1) := by decide +kernel
theorem dX4_pass_2 : decode cX4_pass 2 = .ok (.iconst 1, 1) := by decide +kernel
theorem dX4_pass_3 : decode cX4_pass 3 = .ok (.sipush 1000, 3) := by decide +kernel
theorem dX4_pass_6 : decode cX4_pass 6 = .ok (.invokestatic 68, 3) := by decide +kernel
theorem dX4_pass_9 : decode cX4_pass 9 = .ok (.ifCond .eq 7, 3) := by decide +kernel
theorem dX4_pass_12 : decode cX4_pass 12 = .ok (.iconst 0, 1) := by decide +kernel
theorem dX4_pass_13 : decode cX4_pass 13 = .ok (.goto 4, 3) := by decide +kernel
theorem dX4_pass_16 : decode cX4_pass 16 = .ok (.iconst 1, 1) := by decide +kernel
theorem dX4_pass_17 : decode cX4_pass 17 = .ok (.putfield 64, 3) := by decide +kernel
theorem dX4_pass_20 : decode cX4_pass 20 = .ok (.iconst 0, 1) := by decide +kernel
theorem dX4_pass_21 : decode cX4_pass 21 = .ok (.istore_n 2, 1) := by decide +kernel
theorem dX4_pass_22 : decode cX4_pass 22 = .ok (.iconst 0, 1) := by decide +kernel
theorem dX4_pass_23 : decode cX4_pass 23 = .ok (.istore_n 3, 1) := by decide +kernel
theorem dX4_pass_24 : decode cX4_pass 24 = .ok (.iload_n 3, 1) := by decide +kernel
theorem dX4_pass_25 : decode cX4_pass 25 = .ok (.iload_n 1, 1) := by decide +kernel
theorem dX4_pass_26 : decode cX4_pass 26 = .ok (.if_icmp .ge 42, 3) := by decide +kernel
theorem dX4_pass_29 : decode cX4_pass 29 = .ok (.aload_n 0, 1) := by decide +kernel
theorem dX4_pass_30 : decode cX4_pass 30 = .ok (.getfield 64, 3) := by decide +kernel
theorem dX4_pass_33 : decode cX4_pass 33 = .ok (.ifCond .ne 35, 3) := by decide +kernel
theorem dX4_pass_36 : decode cX4_pass 36 = .ok (.aload_n 0, 1) := by decide +kernel
theorem dX4_pass_37 : decode cX4_pass 37 = .ok (.dup, 1) := by decide +kernel
theorem dX4_pass_38 : decode cX4_pass 38 = .ok (.getfield 106, 3) := by decide +kernel
theorem dX4_pass_41 : decode cX4_pass 41 = .ok (.iconst 1, 1) := by decide +kernel
theorem dX4_pass_42 : decode cX4_pass 42 = .ok (.iadd, 1) := by decide +kernel
theorem dX4_pass_43 : decode cX4_pass 43 = .ok (.putfield 106, 3) := by decide +kernel
theorem dX4_pass_46 : decode cX4_pass 46 = .ok (.iload_n 2, 1) := by decide +kernel
theorem dX4_pass_47 : decode cX4_pass 47 = .ok (.aload_n 0, 1) := by decide +kernel
theorem dX4_pass_48 : decode cX4_pass 48 = .ok (.iconst 0, 1) := by decide +kernel
theorem dX4_pass_49 : decode cX4_pass 49 = .ok (.invokevirtual 117, 3) := by decide +kernel
theorem dX4_pass_52 : decode cX4_pass 52 = .ok (.iadd, 1) := by decide +kernel
theorem dX4_pass_53 : decode cX4_pass 53 = .ok (.istore_n 2, 1) := by decide +kernel
theorem dX4_pass_54 : decode cX4_pass 54 = .ok (.iload_n 2, 1) := by decide +kernel
theorem dX4_pass_55 : decode cX4_pass 55 = .ok (.aload_n 0, 1) := by decide +kernel
theorem dX4_pass_56 : decode cX4_pass 56 = .ok (.iconst 1, 1) := by decide +kernel
theorem dX4_pass_57 : decode cX4_pass 57 = .ok (.invokevirtual 117, 3) := by decide +kernel
theorem dX4_pass_60 : decode cX4_pass 60 = .ok (.iadd, 1) := by decide +kernel
theorem dX4_pass_61 : decode cX4_pass 61 = .ok (.istore_n 2, 1) := by decide +kernel
theorem dX4_pass_62 : decode cX4_pass 62 = .ok (.iinc 3 1, 3) := by decide +kernel
theorem dX4_pass_65 : decode cX4_pass 65 = .ok (.goto (-41), 3) := by decide +kernel
theorem dX4_pass_68 : decode cX4_pass 68 = .ok (.iload_n 2, 1) := by decide +kernel
theorem dX4_pass_69 : decode cX4_pass 69 = .ok (.ireturn, 1) := by decide +kernel
set_option maxRecDepth 20000 in
theorem ggX4_running_X4_isList : GoodIn wsX4_running wsX4_isList := goodIn_r _ [6, 7, 8, 5, 9] (by decide +kernel) (by decide +kernel)
set_option maxRecDepth 20000 in
theorem gX4_running_X4_isList : GoodIn wsX4_running (va_wsS RX4 99 yX4_isList wsX4_isList) := goodIn_app (goodIn_of _ (by decide +kernel)) ggX4_running_X4_isList
theorem dX4_running_0 : decode cX4_running 0 = .ok (.aload_n 0, 1) := by decide +kernel
theorem dX4_running_1 : decode cX4_running 1 = .ok (.iload_n 1, 1) := by decide +kernel
theorem dX4_running_2 : decode cX4_running 2 = .ok (.invokestatic 99, 3) := by decide +kernel
theorem dX4_running_5 : decode cX4_running 5 = .ok (.ifCond .eq 7, 3) := by decide +kernel
theorem dX4_running_8 : decode cX4_running 8 = .ok (.iconst 0, 1) := by decide +kernel
theorem dX4_running_9 : decode cX4_running 9 = .ok (.goto 4, 3) := by decide +kernel
theorem dX4_running_12 : decode cX4_running 12 = .ok (.iconst 1, 1) := by decide +kernel
theorem dX4_running_13 : decode cX4_running 13 = .ok (.putfield 64, 3) := by decide +kernel
theorem dX4_running_16 : decode cX4_running 16 = .ok (.aload_n 0, 1) := by decide +kernel
theorem dX4_running_17 : decode cX4_running 17 = .ok (.getfield 64, 3) := by decide +kernel
theorem dX4_running_20 : decode cX4_running 20 = .ok (.ifCond .ne 12, 3) := by decide +kernel
theorem dX4_running_23 : decode cX4_running 23 = .ok (.aload_n 0, 1) := by decide +kernel
theorem dX4_running_24 : decode cX4_running 24 = .ok (.getfield 40, 3) := by decide +kernel
theorem dX4_running_27 : decode cX4_running 27 = .ok (.iload_n 1, 1) := by decide +kernel
theorem dX4_running_28 : decode cX4_running 28 = .ok (.iaload, 1) := by decide +kernel
theorem dX4_running_29 : decode cX4_running 29 = .ok (.goto 4, 3) := by decide +kernel
theorem dX4_running_32 : decode cX4_running 32 = .ok (.iconst 0, 1) := by decide +kernel
theorem dX4_running_33 : decode cX4_running 33 = .ok (.ireturn, 1) := by decide +kernel
set_option maxRecDepth 20000 in
theorem ggX4_level_X4_isList : GoodIn wsX4_level wsX4_isList := goodIn_r _ [5, 6, 7, 4, 8] (by decide +kernel) (by decide +kernel)
set_option maxRecDepth 20000 in
theorem gX4_level_X4_isList : GoodIn wsX4_level (va_wsS RX4 99 yX4_isList wsX4_isList) := goodIn_app (goodIn_of _ (by decide +kernel)) ggX4_level_X4_isList
set_option maxRecDepth 20000 in
theorem ggX4_level_X4_isChannel : GoodIn wsX4_level wsX4_isChannel := goodIn_r _ [11, 6, 7, 4, 8] (by decide +kernel) (by decide +kernel)
set_option maxRecDepth 20000 in
theorem gX4_level_X4_isChannel : GoodIn wsX4_level (va_wsS RX4 93 yX4_isChannel wsX4_isChannel) := goodIn_app (goodIn_of _ (by decide +kernel)) ggX4_level_X4_isChannel
set_option maxRecDepth 20000 in
theorem ggX4_level_X4_levelOf : GoodIn wsX4_level wsX4_levelOf := goodIn_r _ [15, 16, 17, 18, 19, 20, 21, 22, 23, 24, 25, 26, 27, 28, 29, 30, 31, 32, 33, 34, 35, 36, 37, 38, 39, 40, 41, 42, 43, 44, 45] (by decide +kernel) (by decide +kernel)
set_option maxRecDepth 20000 in
theorem gX4_level_X4_levelOf : GoodIn wsX4_level (wsV RX4 109 RX4 yX4_levelOf wsX4_levelOf) := goodIn_app (goodIn_of _ (by decide +kernel)) ggX4_level_X4_levelOf
theorem dX4_level_0 : decode cX4_level 0 = .ok (.aload_n 0, 1) := by decide +kernel
theorem dX4_level_1 : decode cX4_level 1 = .ok (.iload_n 1, 1) := by decide +kernel
theorem dX4_level_2 : decode cX4_level 2 = .ok (.invokestatic 99, 3) := by decide +kernel
theorem dX4_level_5 : decode cX4_level 5 = .ok (.ifCond .eq 14, 3) := by decide +kernel
theorem dX4_level_8 : decode cX4_level 8 = .ok (.iload_n 2, 1) := by decide +kernel
theorem dX4_level_9 : decode cX4_level 9 = .ok (.invokestatic 93, 3) := by decide +kernel
theorem dX4_level_12 : decode cX4_level 12 = .ok (.ifCond .eq 7, 3) := by decide +kernel
theorem dX4_level_15 : decode cX4_level 15 = .ok (.iconst 0, 1) := by decide +kernel
theorem dX4_level_16 : decode cX4_level 16 = .ok (.goto 4, 3) := by decide +kernel
theorem dX4_level_19 : decode cX4_level 19 = .ok (.iconst 1, 1) := by decide +kernel
theorem dX4_level_20 : decode cX4_level 20 = .ok (.putfield 64, 3) := by decide +kernel
theorem dX4_level_23 : decode cX4_level 23 = .ok (.aload_n 0, 1) := by decide +kernel
theorem dX4_level_24 : decode cX4_level 24 = .ok (.getfield 64, 3) := by decide +kernel
theorem dX4_level_27 : decode cX4_level 27 = .ok (.ifCond .ne 12, 3) := by decide +kernel
theorem dX4_level_30 : decode cX4_level 30 = .ok (.aload_n 0, 1) := by decide +kernel
theorem dX4_level_31 : decode cX4_level 31 = .ok (.iload_n 1, 1) := by decide +kernel
theorem dX4_level_32 : decode cX4_level 32 = .ok (.iload_n 2, 1) := by decide +kernel
theorem dX4_level_33 : decode cX4_level 33 = .ok (.invokevirtual 109, 3) := by decide +kernel
theorem dX4_level_36 : decode cX4_level 36 = .ok (.goto 4, 3) := by decide +kernel
theorem dX4_level_39 : decode cX4_level 39 = .ok (.iconst 0, 1) := by decide +kernel
theorem dX4_level_40 : decode cX4_level 40 = .ok (.ireturn, 1) := by decide +kernel
set_option maxRecDepth 20000 in
theorem ggX4_mergedOf_X4_levelOf : GoodIn wsX4_mergedOf wsX4_levelOf := goodIn_r _ [7, 8, 9, 10, 11, 12, 13, 14, 15, 16, 17, 18, 19, 20, 21, 22, 23, 24, 25, 26, 27, 28, 29, 30, 31, 32, 33, 34, 35, 36, 37] (by decide +kernel) (by decide +kernel)
set_option maxRecDepth 20000 in
theorem gX4_mergedOf_X4_levelOf : GoodIn wsX4_mergedOf (wsV RX4 109 RX4 yX4_levelOf wsX4_levelOf) := goodIn_app (goodIn_of _ (by decide +kernel)) ggX4_mergedOf_X4_levelOf
theorem dX4_mergedOf_0 : decode cX4_mergedOf 0 = .ok (.aload_n 0, 1) := by decide +kernel
theorem dX4_mergedOf_1 : decode cX4_mergedOf 1 = .ok (.iconst 0, 1) := by decide +kernel
theorem dX4_mergedOf_2 : decode cX4_mergedOf 2 = .ok (.iload_n 1, 1) := by decide +kernel
theorem dX4_mergedOf_3 : decode cX4_mergedOf 3 = .ok (.invokevirtual 109, 3) := by decide +kernel
theorem dX4_mergedOf_6 : decode cX4_mergedOf 6 = .ok (.istore_n 2, 1) := by decide +kernel
theorem dX4_mergedOf_7 : decode cX4_mergedOf 7 = .ok (.aload_n 0, 1) := by decide +kernel
theorem dX4_mergedOf_8 : decode cX4_mergedOf 8 = .ok (.iconst 1, 1) := by decide +kernel
theorem dX4_mergedOf_9 : decode cX4_mergedOf 9 = .ok (.iload_n 1, 1) := by decide +kernel
theorem dX4_mergedOf_10 : decode cX4_mergedOf 10 = .ok (.invokevirtual 109, 3) := by decide +kernel
theorem dX4_mergedOf_13 : decode cX4_mergedOf 13 = .ok (.istore_n 3, 1) := by decide +kernel
theorem dX4_mergedOf_14 : decode cX4_mergedOf 14 = .ok (.aload_n 0, 1) := by decide +kernel
theorem dX4_mergedOf_15 : decode cX4_mergedOf 15 = .ok (.getfield 19, 3) := by decide +kernel
theorem dX4_mergedOf_18 : decode cX4_mergedOf 18 = .ok (.iload_n 1, 1) := by decide +kernel
theorem dX4_mergedOf_19 : decode cX4_mergedOf 19 = .ok (.iaload, 1) := by decide +kernel
theorem dX4_mergedOf_20 : decode cX4_mergedOf 20 = .ok (.iconst 1, 1) := by decide +kernel
theorem dX4_mergedOf_21 : decode cX4_mergedOf 21 = .ok (.if_icmp .ne 18, 3) := by decide +kernel
theorem dX4_mergedOf_24 : decode cX4_mergedOf 24 = .ok (.aload_n 0, 1) := by decide +kernel
theorem dX4_mergedOf_25 : decode cX4_mergedOf 25 = .ok (.getfield 22, 3) := by decide +kernel
theorem dX4_mergedOf_28 : decode cX4_mergedOf 28 = .ok (.iload_n 1, 1) := by decide +kernel
theorem dX4_mergedOf_29 : decode cX4_mergedOf 29 = .ok (.iaload, 1) := by decide +kernel
theorem dX4_mergedOf_30 : decode cX4_mergedOf 30 = .ok (.ifCond .ne 7, 3) := by decide +kernel
theorem dX4_mergedOf_33 : decode cX4_mergedOf 33 = .ok (.iload_n 2, 1) := by decide +kernel
theorem dX4_mergedOf_34 : decode cX4_mergedOf 34 = .ok (.goto 4, 3) := by decide +kernel
theorem dX4_mergedOf_37 : decode cX4_mergedOf 37 = .ok (.iload_n 3, 1) := by decide +kernel
theorem dX4_mergedOf_38 : decode cX4_mergedOf 38 = .ok (.ireturn, 1) := by decide +kernel
theorem dX4_mergedOf_39 : decode cX4_mergedOf 39 = .ok (.iload_n 2, 1) := by decide +kernel
theorem dX4_mergedOf_40 : decode cX4_mergedOf 40 = .ok (.iload_n 3, 1) := by decide +kernel
theorem dX4_mergedOf_41 : decode cX4_mergedOf 41 = .ok (.if_icmp .le 7, 3) := by decide +kernel
theorem dX4_mergedOf_44 : decode cX4_mergedOf 44 = .ok (.iload_n 2, 1) := by decide +kernel
theorem dX4_mergedOf_45 : decode cX4_mergedOf 45 = .ok (.goto 4, 3) := by decide +kernel
theorem dX4_mergedOf_48 : decode cX4_mergedOf 48 = .ok (.iload_n 3, 1) := by decide +kernel
theorem dX4_mergedOf_49 : decode cX4_mergedOf 49 = .ok (.ireturn, 1) := by decide +kernel
set_option maxRecDepth 20000 in
theorem ggX4_merged_X4_isChannel : GoodIn wsX4_merged wsX4_isChannel := goodIn_r _ [5, 6, 7, 4, 8] (by decide +kernel) (by decide +kernel)
set_option maxRecDepth 20000 in
theorem gX4_merged_X4_isChannel : GoodIn wsX4_merged (va_wsS RX4 93 yX4_isChannel wsX4_isChannel) := goodIn_app (goodIn_of _ (by decide +kernel)) ggX4_merged_X4_isChannel
set_option maxRecDepth 20000 in
theorem ggX4_merged_X4_mergedOf : GoodIn wsX4_merged wsX4_mergedOf := goodIn_r _ [12, 13, 14, 15, 16, 17, 4, 18, 19, 20, 21, 22, 23, 24, 25, 26, 27, 28, 29, 30, 31, 32, 33, 34, 35, 36, 37, 38, 39, 40, 41, 42, 43, 44, 45, 46, 47, 48] (by decide +kernel) (by decide +kernel)
set_option maxRecDepth 20000 in
theorem gX4_merged_X4_mergedOf : GoodIn wsX4_merged (wsV RX4 120 RX4 yX4_mergedOf wsX4_mergedOf) := goodIn_app (goodIn_of _ (by decide +kernel)) ggX4_merged_X4_mergedOf
theorem dX4_merged_0 : decode cX4_merged 0 = .ok (.aload_n 0, 1) := by decide +kernel
theorem dX4_merged_1 : decode cX4_merged 1 = .ok (.iload_n 1, 1) := by decide +kernel
theorem dX4_merged_2 : decode cX4_merged 2 = .ok (.invokestatic 93, 3) := by decide +kernel
theorem dX4_merged_5 : decode cX4_merged 5 = .ok (.ifCond .eq 7, 3) := by decide +kernel
theorem dX4_merged_8 : decode cX4_merged 8 = .ok (.iconst 0, 1) := by decide +kernel
theorem dX4_merged_9 : decode cX4_merged 9 = .ok (.goto 4, 3) := by decide +kernel
theorem dX4_merged_12 : decode cX4_merged 12 = .ok (.iconst 1, 1) := by decide +kernel
theorem dX4_merged_13 : decode cX4_merged 13 = .ok (.putfield 64, 3) := by decide +kernel
theorem dX4_merged_16 : decode cX4_merged 16 = .ok (.aload_n 0, 1) := by decide +kernel
theorem dX4_merged_17 : decode cX4_merged 17 = .ok (.getfield 64, 3) := by decide +kernel
theorem dX4_merged_20 : decode cX4_merged 20 = .ok (.ifCond .ne 11, 3) := by decide +kernel
theorem dX4_merged_23 : decode cX4_merged 23 = .ok (.aload_n 0, 1) := by decide +kernel
theorem dX4_merged_24 : decode cX4_merged 24 = .ok (.iload_n 1, 1) := by decide +kernel
theorem dX4_merged_25 : decode cX4_merged 25 = .ok (.invokevirtual 120, 3) := by decide +kernel
theorem dX4_merged_28 : decode cX4_merged 28 = .ok (.goto 4, 3) := by decide +kernel
theorem dX4_merged_31 : decode cX4_merged 31 = .ok (.iconst 0, 1) := by decide +kernel
theorem dX4_merged_32 : decode cX4_merged 32 = .ok (.ireturn, 1) := by decide +kernel
theorem dX4_through_0 : decode cX4_through 0 = .ok (.iload_n 0, 1) := by decide +kernel
theorem dX4_through_1 : decode cX4_through 1 = .ok (.iload_n 2, 1) := by decide +kernel
theorem dX4_through_2 : decode cX4_through 2 = .ok (.imul, 1) := by decide +kernel
theorem dX4_through_3 : decode cX4_through 3 = .ok (.bipush 100, 2) := by decide +kernel
theorem dX4_through_5 : decode cX4_through 5 = .ok (.iconst 5, 1) := by decide +kernel
theorem dX4_through_6 : decode cX4_through 6 = .ok (.iload_n 1, 1) := by decide +kernel
theorem dX4_through_7 : decode cX4_through 7 = .ok (.imul, 1) := by decide +kernel
theorem dX4_through_8 : decode cX4_through 8 = .ok (.isub, 1) := by decide +kernel
theorem dX4_through_9 : decode cX4_through 9 = .ok (.imul, 1) := by decide +kernel
theorem dX4_through_10 : decode cX4_through 10 = .ok (.bipush 100, 2) := by decide +kernel
theorem dX4_through_12 : decode cX4_through 12 = .ok (.idiv, 1) := by decide +kernel
theorem dX4_through_13 : decode cX4_through 13 = .ok (.ireturn, 1) := by decide +kernel
set_option maxRecDepth 20000 in
theorem ggX4_lightOf_X4_through : GoodIn wsX4_lightOf wsX4_through := goodIn_r _ [8] (by decide +kernel) (by decide +kernel)
set_option maxRecDepth 20000 in
theorem gX4_lightOf_X4_through : GoodIn wsX4_lightOf (va_wsS RX4 123 yX4_through wsX4_through) := goodIn_app (goodIn_of _ (by decide +kernel)) ggX4_lightOf_X4_through
theorem dX4_lightOf_0 : decode cX4_lightOf 0 = .ok (.iconst 0, 1) := by decide +kernel
theorem dX4_lightOf_1 : decode cX4_lightOf 1 = .ok (.istore 4, 2) := by decide +kernel
theorem dX4_lightOf_3 : decode cX4_lightOf 3 = .ok (.iconst 0, 1) := by decide +kernel
theorem dX4_lightOf_4 : decode cX4_lightOf 4 = .ok (.istore 5, 2) := by decide +kernel
theorem dX4_lightOf_6 : decode cX4_lightOf 6 = .ok (.iload 5, 2) := by decide +kernel
theorem dX4_lightOf_8 : decode cX4_lightOf 8 = .ok (.aload_n 0, 1) := by decide +kernel
theorem dX4_lightOf_9 : decode cX4_lightOf 9 = .ok (.getfield 72, 3) := by decide +kernel
theorem dX4_lightOf_12 : decode cX4_lightOf 12 = .ok (.if_icmp .ge 54, 3) := by decide +kernel
theorem dX4_lightOf_15 : decode cX4_lightOf 15 = .ok (.iload 4, 2) := by decide +kernel
theorem dX4_lightOf_17 : decode cX4_lightOf 17 = .ok (.aload_n 0, 1) := by decide +kernel
theorem dX4_lightOf_18 : decode cX4_lightOf 18 = .ok (.getfield 16, 3) := by decide +kernel
theorem dX4_lightOf_21 : decode cX4_lightOf 21 = .ok (.bipush 20, 2) := by decide +kernel
theorem dX4_lightOf_23 : decode cX4_lightOf 23 = .ok (.iload_n 1, 1) := by decide +kernel
theorem dX4_lightOf_24 : decode cX4_lightOf 24 = .ok (.imul, 1) := by decide +kernel
theorem dX4_lightOf_25 : decode cX4_lightOf 25 = .ok (.iload 5, 2) := by decide +kernel
theorem dX4_lightOf_27 : decode cX4_lightOf 27 = .ok (.iadd, 1) := by decide +kernel
theorem dX4_lightOf_28 : decode cX4_lightOf 28 = .ok (.iaload, 1) := by decide +kernel
theorem dX4_lightOf_29 : decode cX4_lightOf 29 = .ok (.iload_n 2, 1) := by decide +kernel
theorem dX4_lightOf_30 : decode cX4_lightOf 30 = .ok (.iconst 1, 1) := by decide +kernel
theorem dX4_lightOf_31 : decode cX4_lightOf 31 = .ok (.iadd, 1) := by decide +kernel
theorem dX4_lightOf_32 : decode cX4_lightOf 32 = .ok (.if_icmp .ne 24, 3) := by decide +kernel
theorem dX4_lightOf_35 : decode cX4_lightOf 35 = .ok (.aload_n 0, 1) := by decide +kernel
theorem dX4_lightOf_36 : decode cX4_lightOf 36 = .ok (.getfield 7, 3) := by decide +kernel
theorem dX4_lightOf_39 : decode cX4_lightOf 39 = .ok (.iload 5, 2) := by decide +kernel
theorem dX4_lightOf_41 : decode cX4_lightOf 41 = .ok (.iaload, 1) := by decide +kernel
theorem dX4_lightOf_42 : decode cX4_lightOf 42 = .ok (.aload_n 0, 1) := by decide +kernel
theorem dX4_lightOf_43 : decode cX4_lightOf 43 = .ok (.getfield 13, 3) := by decide +kernel
theorem dX4_lightOf_46 : decode cX4_lightOf 46 = .ok (.iload 5, 2) := by decide +kernel
end
section
theorem dX4_lightOf_48 : decode cX4_lightOf 48 = .ok (.iaload, 1) := by decide +kernel
theorem dX4_lightOf_49 : decode cX4_lightOf 49 = .ok (.iload_n 3, 1) := by decide +kernel
theorem dX4_lightOf_50 : decode cX4_lightOf 50 = .ok (.invokestatic 123, 3) := by decide +kernel
theorem dX4_lightOf_53 : decode cX4_lightOf 53 = .ok (.goto 4, 3) := by decide +kernel
theorem dX4_lightOf_56 : decode cX4_lightOf 56 = .ok (.iconst 0, 1) := by decide +kernel
theorem dX4_lightOf_57 : decode cX4_lightOf 57 = .ok (.iadd, 1) := by decide +kernel
theorem dX4_lightOf_58 : decode cX4_lightOf 58 = .ok (.istore 4, 2) := by decide +kernel
theorem dX4_lightOf_60 : decode cX4_lightOf 60 = .ok (.iinc 5 1, 3) := by decide +kernel
theorem dX4_lightOf_63 : decode cX4_lightOf 63 = .ok (.goto (-57), 3) := by decide +kernel
theorem dX4_lightOf_66 : decode cX4_lightOf 66 = .ok (.iload 4, 2) := by decide +kernel
theorem dX4_lightOf_68 : decode cX4_lightOf 68 = .ok (.ireturn, 1) := by decide +kernel
set_option maxRecDepth 20000 in
theorem ggX4_light_X4_isChannel : GoodIn wsX4_light wsX4_isChannel := goodIn_r _ [6, 7, 8, 5, 9] (by decide +kernel) (by decide +kernel)
set_option maxRecDepth 20000 in
theorem gX4_light_X4_isChannel : GoodIn wsX4_light (va_wsS RX4 93 yX4_isChannel wsX4_isChannel) := goodIn_app (goodIn_of _ (by decide +kernel)) ggX4_light_X4_isChannel
set_option maxRecDepth 20000 in
theorem ggX4_light_X4_mergedOf : GoodIn wsX4_light wsX4_mergedOf := goodIn_r _ [13, 14, 15, 16, 17, 18, 5, 19, 20, 21, 22, 23, 24, 25, 26, 38, 39, 40, 41, 42, 43, 44, 45, 46, 47, 48, 49, 50, 51, 52, 53, 54, 55, 56, 57, 58, 59, 60] (by decide +kernel) (by decide +kernel)
set_option maxRecDepth 20000 in
theorem gX4_light_X4_mergedOf : GoodIn wsX4_light (wsV RX4 120 RX4 yX4_mergedOf wsX4_mergedOf) := goodIn_app (goodIn_of _ (by decide +kernel)) ggX4_light_X4_mergedOf
set_option maxRecDepth 20000 in
theorem ggX4_light_X4_lightOf : GoodIn wsX4_light wsX4_lightOf := goodIn_r _ [30, 31, 32, 33, 34, 35, 36, 5, 37, 38, 39, 40, 41, 42, 43, 44, 45, 46, 47, 48, 49, 50, 51, 52, 53, 54, 55, 56, 57, 58, 59, 60] (by decide +kernel) (by decide +kernel)
set_option maxRecDepth 20000 in
theorem gX4_light_X4_lightOf : GoodIn wsX4_light (wsV RX4 127 RX4 yX4_lightOf wsX4_lightOf) := goodIn_app (goodIn_of _ (by decide +kernel)) ggX4_light_X4_lightOf
theorem dX4_light_0 : decode cX4_light 0 = .ok (.aload_n 0, 1) := by decide +kernel
theorem dX4_light_1 : decode cX4_light 1 = .ok (.iload_n 1, 1) := by decide +kernel
theorem dX4_light_2 : decode cX4_light 2 = .ok (.invokestatic 93, 3) := by decide +kernel
theorem dX4_light_5 : decode cX4_light 5 = .ok (.ifCond .eq 7, 3) := by decide +kernel
theorem dX4_light_8 : decode cX4_light 8 = .ok (.iconst 0, 1) := by decide +kernel
theorem dX4_light_9 : decode cX4_light 9 = .ok (.goto 4, 3) := by decide +kernel
theorem dX4_light_12 : decode cX4_light 12 = .ok (.iconst 1, 1) := by decide +kernel
theorem dX4_light_13 : decode cX4_light 13 = .ok (.putfield 64, 3) := by decide +kernel
theorem dX4_light_16 : decode cX4_light 16 = .ok (.aload_n 0, 1) := by decide +kernel
theorem dX4_light_17 : decode cX4_light 17 = .ok (.getfield 64, 3) := by decide +kernel
theorem dX4_light_20 : decode cX4_light 20 = .ok (.ifCond .ne 20, 3) := by decide +kernel
theorem dX4_light_23 : decode cX4_light 23 = .ok (.aload_n 0, 1) := by decide +kernel
theorem dX4_light_24 : decode cX4_light 24 = .ok (.aload_n 0, 1) := by decide +kernel
theorem dX4_light_25 : decode cX4_light 25 = .ok (.getfield 96, 3) := by decide +kernel
theorem dX4_light_28 : decode cX4_light 28 = .ok (.iload_n 1, 1) := by decide +kernel
theorem dX4_light_29 : decode cX4_light 29 = .ok (.aload_n 0, 1) := by decide +kernel
theorem dX4_light_30 : decode cX4_light 30 = .ok (.iload_n 1, 1) := by decide +kernel
theorem dX4_light_31 : decode cX4_light 31 = .ok (.invokevirtual 120, 3) := by decide +kernel
theorem dX4_light_34 : decode cX4_light 34 = .ok (.invokevirtual 127, 3) := by decide +kernel
theorem dX4_light_37 : decode cX4_light 37 = .ok (.goto 4, 3) := by decide +kernel
theorem dX4_light_40 : decode cX4_light 40 = .ok (.iconst 0, 1) := by decide +kernel
theorem dX4_light_41 : decode cX4_light 41 = .ok (.ireturn, 1) := by decide +kernel
set_option maxRecDepth 20000 in
theorem ggX4_allLight_X4_mergedOf : GoodIn wsX4_allLight wsX4_mergedOf := goodIn_r _ [7, 8, 9, 10, 11, 12, 6, 13, 14, 15, 16, 17, 18, 19, 20, 32, 33, 34, 35, 36, 37, 38, 39, 40, 41, 42, 43, 44, 45, 46, 47, 48, 49, 50, 51, 52, 53, 54] (by decide +kernel) (by decide +kernel)
set_option maxRecDepth 20000 in
theorem gX4_allLight_X4_mergedOf : GoodIn wsX4_allLight (wsV RX4 120 RX4 yX4_mergedOf wsX4_mergedOf) := goodIn_app (goodIn_of _ (by decide +kernel)) ggX4_allLight_X4_mergedOf
set_option maxRecDepth 20000 in
theorem ggX4_allLight_X4_lightOf : GoodIn wsX4_allLight wsX4_lightOf := goodIn_r _ [24, 25, 26, 27, 28, 29, 30, 6, 31, 32, 33, 34, 35, 36, 37, 38, 39, 40, 41, 42, 43, 44, 45, 46, 47, 48, 49, 50, 51, 52, 53, 54] (by decide +kernel) (by decide +kernel)
set_option maxRecDepth 20000 in
theorem gX4_allLight_X4_lightOf : GoodIn wsX4_allLight (wsV RX4 127 RX4 yX4_lightOf wsX4_lightOf) := goodIn_app (goodIn_of _ (by decide +kernel)) ggX4_allLight_X4_lightOf
theorem dX4_allLight_0 : decode cX4_allLight 0 = .ok (.aload_n 0, 1) := by decide +kernel
theorem dX4_allLight_1 : decode cX4_allLight 1 = .ok (.iconst 0, 1) := by decide +kernel
theorem dX4_allLight_2 : decode cX4_allLight 2 = .ok (.putfield 64, 3) := by decide +kernel
theorem dX4_allLight_5 : decode cX4_allLight 5 = .ok (.iconst 0, 1) := by decide +kernel
theorem dX4_allLight_6 : decode cX4_allLight 6 = .ok (.istore_n 1, 1) := by decide +kernel
theorem dX4_allLight_7 : decode cX4_allLight 7 = .ok (.iconst 0, 1) := by decide +kernel
theorem dX4_allLight_8 : decode cX4_allLight 8 = .ok (.istore_n 2, 1) := by decide +kernel
theorem dX4_allLight_9 : decode cX4_allLight 9 = .ok (.iload_n 2, 1) := by decide +kernel
theorem dX4_allLight_10 : decode cX4_allLight 10 = .ok (.bipush 12, 2) := by decide +kernel
theorem dX4_allLight_12 : decode cX4_allLight 12 = .ok (.if_icmp .ge 26, 3) := by decide +kernel
theorem dX4_allLight_15 : decode cX4_allLight 15 = .ok (.iload_n 1, 1) := by decide +kernel
theorem dX4_allLight_16 : decode cX4_allLight 16 = .ok (.aload_n 0, 1) := by decide +kernel
theorem dX4_allLight_17 : decode cX4_allLight 17 = .ok (.aload_n 0, 1) := by decide +kernel
theorem dX4_allLight_18 : decode cX4_allLight 18 = .ok (.getfield 96, 3) := by decide +kernel
theorem dX4_allLight_21 : decode cX4_allLight 21 = .ok (.iload_n 2, 1) := by decide +kernel
theorem dX4_allLight_22 : decode cX4_allLight 22 = .ok (.aload_n 0, 1) := by decide +kernel
theorem dX4_allLight_23 : decode cX4_allLight 23 = .ok (.iload_n 2, 1) := by decide +kernel
theorem dX4_allLight_24 : decode cX4_allLight 24 = .ok (.invokevirtual 120, 3) := by decide +kernel
theorem dX4_allLight_27 : decode cX4_allLight 27 = .ok (.invokevirtual 127, 3) := by decide +kernel
theorem dX4_allLight_30 : decode cX4_allLight 30 = .ok (.iadd, 1) := by decide +kernel
theorem dX4_allLight_31 : decode cX4_allLight 31 = .ok (.istore_n 1, 1) := by decide +kernel
theorem dX4_allLight_32 : decode cX4_allLight 32 = .ok (.iinc 2 1, 3) := by decide +kernel
theorem dX4_allLight_35 : decode cX4_allLight 35 = .ok (.goto (-26), 3) := by decide +kernel
theorem dX4_allLight_38 : decode cX4_allLight 38 = .ok (.iload_n 1, 1) := by decide +kernel
theorem dX4_allLight_39 : decode cX4_allLight 39 = .ok (.ireturn, 1) := by decide +kernel
set_option maxRecDepth 20000 in
theorem ggX4_shown_X4_lightOf : GoodIn wsX4_shown wsX4_lightOf := goodIn_r _ [6, 7, 8, 9, 10, 11, 12, 5, 13, 14, 15, 16, 17, 18, 19, 20, 21, 22, 23, 24, 25, 26, 27, 28, 29, 30, 31, 32, 33, 34, 35, 36] (by decide +kernel) (by decide +kernel)
set_option maxRecDepth 20000 in
theorem gX4_shown_X4_lightOf : GoodIn wsX4_shown (wsV RX4 127 RX4 yX4_lightOf wsX4_lightOf) := goodIn_app (goodIn_of _ (by decide +kernel)) ggX4_shown_X4_lightOf
theorem dX4_shown_0 : decode cX4_shown 0 = .ok (.iconst 0, 1) := by decide +kernel
theorem dX4_shown_1 : decode cX4_shown 1 = .ok (.istore 4, 2) := by decide +kernel
theorem dX4_shown_3 : decode cX4_shown 3 = .ok (.iconst 0, 1) := by decide +kernel
theorem dX4_shown_4 : decode cX4_shown 4 = .ok (.istore 5, 2) := by decide +kernel
theorem dX4_shown_6 : decode cX4_shown 6 = .ok (.iload 5, 2) := by decide +kernel
theorem dX4_shown_8 : decode cX4_shown 8 = .ok (.bipush 12, 2) := by decide +kernel
theorem dX4_shown_10 : decode cX4_shown 10 = .ok (.if_icmp .ge 53, 3) := by decide +kernel
theorem dX4_shown_13 : decode cX4_shown 13 = .ok (.aload_n 0, 1) := by decide +kernel
theorem dX4_shown_14 : decode cX4_shown 14 = .ok (.getfield 37, 3) := by decide +kernel
theorem dX4_shown_17 : decode cX4_shown 17 = .ok (.bipush 12, 2) := by decide +kernel
theorem dX4_shown_19 : decode cX4_shown 19 = .ok (.bipush 10, 2) := by decide +kernel
theorem dX4_shown_21 : decode cX4_shown 21 = .ok (.iload_n 1, 1) := by decide +kernel
theorem dX4_shown_22 : decode cX4_shown 22 = .ok (.imul, 1) := by decide +kernel
theorem dX4_shown_23 : decode cX4_shown 23 = .ok (.iload_n 2, 1) := by decide +kernel
theorem dX4_shown_24 : decode cX4_shown 24 = .ok (.iadd, 1) := by decide +kernel
theorem dX4_shown_25 : decode cX4_shown 25 = .ok (.imul, 1) := by decide +kernel
theorem dX4_shown_26 : decode cX4_shown 26 = .ok (.iload 5, 2) := by decide +kernel
theorem dX4_shown_28 : decode cX4_shown 28 = .ok (.iadd, 1) := by decide +kernel
theorem dX4_shown_29 : decode cX4_shown 29 = .ok (.iaload, 1) := by decide +kernel
theorem dX4_shown_30 : decode cX4_shown 30 = .ok (.istore 6, 2) := by decide +kernel
theorem dX4_shown_32 : decode cX4_shown 32 = .ok (.iload 4, 2) := by decide +kernel
theorem dX4_shown_34 : decode cX4_shown 34 = .ok (.iload 6, 2) := by decide +kernel
theorem dX4_shown_36 : decode cX4_shown 36 = .ok (.ifCond .le 17, 3) := by decide +kernel
theorem dX4_shown_39 : decode cX4_shown 39 = .ok (.aload_n 0, 1) := by decide +kernel
theorem dX4_shown_40 : decode cX4_shown 40 = .ok (.iload_n 3, 1) := by decide +kernel
theorem dX4_shown_41 : decode cX4_shown 41 = .ok (.iload 5, 2) := by decide +kernel
theorem dX4_shown_43 : decode cX4_shown 43 = .ok (.iload 6, 2) := by decide +kernel
theorem dX4_shown_45 : decode cX4_shown 45 = .ok (.iconst 1, 1) := by decide +kernel
theorem dX4_shown_46 : decode cX4_shown 46 = .ok (.isub, 1) := by decide +kernel
theorem dX4_shown_47 : decode cX4_shown 47 = .ok (.invokevirtual 127, 3) := by decide +kernel
theorem dX4_shown_50 : decode cX4_shown 50 = .ok (.goto 4, 3) := by decide +kernel
theorem dX4_shown_53 : decode cX4_shown 53 = .ok (.iconst 0, 1) := by decide +kernel
theorem dX4_shown_54 : decode cX4_shown 54 = .ok (.iadd, 1) := by decide +kernel
theorem dX4_shown_55 : decode cX4_shown 55 = .ok (.istore 4, 2) := by decide +kernel
theorem dX4_shown_57 : decode cX4_shown 57 = .ok (.iinc 5 1, 3) := by decide +kernel
theorem dX4_shown_60 : decode cX4_shown 60 = .ok (.goto (-54), 3) := by decide +kernel
theorem dX4_shown_63 : decode cX4_shown 63 = .ok (.iload 4, 2) := by decide +kernel
theorem dX4_shown_65 : decode cX4_shown 65 = .ok (.ireturn, 1) := by decide +kernel
set_option maxRecDepth 20000 in
theorem ggX4_preview_X4_isList : GoodIn wsX4_preview wsX4_isList := goodIn_r _ [6, 7, 8, 5, 9] (by decide +kernel) (by decide +kernel)
set_option maxRecDepth 20000 in
theorem gX4_preview_X4_isList : GoodIn wsX4_preview (va_wsS RX4 99 yX4_isList wsX4_isList) := goodIn_app (goodIn_of _ (by decide +kernel)) ggX4_preview_X4_isList
set_option maxRecDepth 20000 in
theorem ggX4_preview_X4_isNight : GoodIn wsX4_preview wsX4_isNight := goodIn_r _ [12, 7, 8, 5, 9] (by decide +kernel) (by decide +kernel)
set_option maxRecDepth 20000 in
theorem gX4_preview_X4_isNight : GoodIn wsX4_preview (va_wsS RX4 90 yX4_isNight wsX4_isNight) := goodIn_app (goodIn_of _ (by decide +kernel)) ggX4_preview_X4_isNight
set_option maxRecDepth 20000 in
theorem ggX4_preview_X4_in : GoodIn wsX4_preview wsX4_in := goodIn_r _ [9] (by decide +kernel) (by decide +kernel)
set_option maxRecDepth 20000 in
theorem gX4_preview_X4_in : GoodIn wsX4_preview (va_wsS RX4 68 yX4_in wsX4_in) := goodIn_app (goodIn_of _ (by decide +kernel)) ggX4_preview_X4_in
set_option maxRecDepth 20000 in
theorem ggX4_preview_X4_shown : GoodIn wsX4_preview wsX4_shown := goodIn_r _ [16, 17, 18, 19, 20, 5, 21, 22, 23, 24, 25, 26, 27, 28, 29, 30, 31, 32, 33, 34, 35, 36, 37, 38, 39, 40, 41, 42, 43, 44, 45, 46, 47, 48, 49, 50, 51] (by decide +kernel) (by decide +kernel)
set_option maxRecDepth 20000 in
theorem gX4_preview_X4_shown : GoodIn wsX4_preview (wsV RX4 130 RX4 yX4_shown wsX4_shown) := goodIn_app (goodIn_of _ (by decide +kernel)) ggX4_preview_X4_shown
theorem dX4_preview_0 : decode cX4_preview 0 = .ok (.aload_n 0, 1) := by decide +kernel
theorem dX4_preview_1 : decode cX4_preview 1 = .ok (.iload_n 1, 1) := by decide +kernel
theorem dX4_preview_2 : decode cX4_preview 2 = .ok (.invokestatic 99, 3) := by decide +kernel
theorem dX4_preview_5 : decode cX4_preview 5 = .ok (.ifCond .eq 10, 3) := by decide +kernel
theorem dX4_preview_8 : decode cX4_preview 8 = .ok (.iload_n 3, 1) := by decide +kernel
theorem dX4_preview_9 : decode cX4_preview 9 = .ok (.invokestatic 90, 3) := by decide +kernel
theorem dX4_preview_12 : decode cX4_preview 12 = .ok (.ifCond .ne 7, 3) := by decide +kernel
theorem dX4_preview_15 : decode cX4_preview 15 = .ok (.iconst 1, 1) := by decide +kernel
theorem dX4_preview_16 : decode cX4_preview 16 = .ok (.goto 24, 3) := by decide +kernel
theorem dX4_preview_19 : decode cX4_preview 19 = .ok (.iload_n 2, 1) := by decide +kernel
theorem dX4_preview_20 : decode cX4_preview 20 = .ok (.iconst 0, 1) := by decide +kernel
theorem dX4_preview_21 : decode cX4_preview 21 = .ok (.aload_n 0, 1) := by decide +kernel
theorem dX4_preview_22 : decode cX4_preview 22 = .ok (.getfield 25, 3) := by decide +kernel
theorem dX4_preview_25 : decode cX4_preview 25 = .ok (.iload_n 1, 1) := by decide +kernel
theorem dX4_preview_26 : decode cX4_preview 26 = .ok (.iaload, 1) := by decide +kernel
theorem dX4_preview_27 : decode cX4_preview 27 = .ok (.iconst 1, 1) := by decide +kernel
theorem dX4_preview_28 : decode cX4_preview 28 = .ok (.isub, 1) := by decide +kernel
theorem dX4_preview_29 : decode cX4_preview 29 = .ok (.invokestatic 68, 3) := by decide +kernel
theorem dX4_preview_32 : decode cX4_preview 32 = .ok (.ifCond .ne 7, 3) := by decide +kernel
theorem dX4_preview_35 : decode cX4_preview 35 = .ok (.iconst 2, 1) := by decide +kernel
theorem dX4_preview_36 : decode cX4_preview 36 = .ok (.goto 4, 3) := by decide +kernel
theorem dX4_preview_39 : decode cX4_preview 39 = .ok (.iconst 0, 1) := by decide +kernel
theorem dX4_preview_40 : decode cX4_preview 40 = .ok (.putfield 64, 3) := by decide +kernel
theorem dX4_preview_43 : decode cX4_preview 43 = .ok (.aload_n 0, 1) := by decide +kernel
theorem dX4_preview_44 : decode cX4_preview 44 = .ok (.getfield 64, 3) := by decide +kernel
theorem dX4_preview_47 : decode cX4_preview 47 = .ok (.ifCond .ne 13, 3) := by decide +kernel
theorem dX4_preview_50 : decode cX4_preview 50 = .ok (.aload_n 0, 1) := by decide +kernel
theorem dX4_preview_51 : decode cX4_preview 51 = .ok (.iload_n 1, 1) := by decide +kernel
theorem dX4_preview_52 : decode cX4_preview 52 = .ok (.iload_n 2, 1) := by decide +kernel
theorem dX4_preview_53 : decode cX4_preview 53 = .ok (.iload_n 3, 1) := by decide +kernel
theorem dX4_preview_54 : decode cX4_preview 54 = .ok (.invokevirtual 130, 3) := by decide +kernel
theorem dX4_preview_57 : decode cX4_preview 57 = .ok (.goto 4, 3) := by decide +kernel
theorem dX4_preview_60 : decode cX4_preview 60 = .ok (.iconst 0, 1) := by decide +kernel
theorem dX4_preview_61 : decode cX4_preview 61 = .ok (.ireturn, 1) := by decide +kernel
set_option maxRecDepth 20000 in
theorem ggX4_touched_X4_isLamp : GoodIn wsX4_touched wsX4_isLamp := goodIn_r _ [11, 12, 13, 14, 10, 15, 25, 26, 27, 28, 29, 30, 31, 32, 33, 34, 35, 36, 37, 38, 39, 40, 41, 42, 43, 44, 45, 46, 47] (by decide +kernel) (by decide +kernel)
set_option maxRecDepth 20000 in
theorem gX4_touched_X4_isLamp : GoodIn wsX4_touched (wsV RX4 82 RX4 yX4_isLamp wsX4_isLamp) := goodIn_app (goodIn_of _ (by decide +kernel)) ggX4_touched_X4_isLamp
set_option maxRecDepth 20000 in
theorem ggX4_touched_X4_isMade : GoodIn wsX4_touched wsX4_isMade := goodIn_r _ [18, 13, 14, 10, 15] (by decide +kernel) (by decide +kernel)
set_option maxRecDepth 20000 in
theorem gX4_touched_X4_isMade : GoodIn wsX4_touched (va_wsS RX4 78 yX4_isMade wsX4_isMade) := goodIn_app (goodIn_of _ (by decide +kernel)) ggX4_touched_X4_isMade
set_option maxRecDepth 20000 in
theorem ggX4_touched_X4_isNight : GoodIn wsX4_touched wsX4_isNight := goodIn_r _ [21, 13, 14, 10, 15] (by decide +kernel) (by decide +kernel)
set_option maxRecDepth 20000 in
theorem gX4_touched_X4_isNight : GoodIn wsX4_touched (va_wsS RX4 90 yX4_isNight wsX4_isNight) := goodIn_app (goodIn_of _ (by decide +kernel)) ggX4_touched_X4_isNight
set_option maxRecDepth 20000 in
theorem ggX4_touched_X4_through : GoodIn wsX4_touched wsX4_through := goodIn_r _ [24] (by decide +kernel) (by decide +kernel)
set_option maxRecDepth 20000 in
theorem gX4_touched_X4_through : GoodIn wsX4_touched (va_wsS RX4 123 yX4_through wsX4_through) := goodIn_app (goodIn_of _ (by decide +kernel)) ggX4_touched_X4_through
theorem dX4_touched_0 : decode cX4_touched 0 = .ok (.aload_n 0, 1) := by decide +kernel
theorem dX4_touched_1 : decode cX4_touched 1 = .ok (.aload_n 0, 1) := by decide +kernel
theorem dX4_touched_2 : decode cX4_touched 2 = .ok (.iload_n 1, 1) := by decide +kernel
theorem dX4_touched_3 : decode cX4_touched 3 = .ok (.invokevirtual 82, 3) := by decide +kernel
theorem dX4_touched_6 : decode cX4_touched 6 = .ok (.ifCond .ne 7, 3) := by decide +kernel
theorem dX4_touched_9 : decode cX4_touched 9 = .ok (.iconst 1, 1) := by decide +kernel
theorem dX4_touched_10 : decode cX4_touched 10 = .ok (.goto 24, 3) := by decide +kernel
theorem dX4_touched_13 : decode cX4_touched 13 = .ok (.iload_n 2, 1) := by decide +kernel
theorem dX4_touched_14 : decode cX4_touched 14 = .ok (.iload_n 3, 1) := by decide +kernel
theorem dX4_touched_15 : decode cX4_touched 15 = .ok (.invokestatic 78, 3) := by decide +kernel
theorem dX4_touched_18 : decode cX4_touched 18 = .ok (.ifCond .eq 11, 3) := by decide +kernel
theorem dX4_touched_21 : decode cX4_touched 21 = .ok (.iload 4, 2) := by decide +kernel
theorem dX4_touched_23 : decode cX4_touched 23 = .ok (.invokestatic 90, 3) := by decide +kernel
theorem dX4_touched_26 : decode cX4_touched 26 = .ok (.ifCond .ne 7, 3) := by decide +kernel
theorem dX4_touched_29 : decode cX4_touched 29 = .ok (.iconst 2, 1) := by decide +kernel
theorem dX4_touched_30 : decode cX4_touched 30 = .ok (.goto 4, 3) := by decide +kernel
theorem dX4_touched_33 : decode cX4_touched 33 = .ok (.iconst 0, 1) := by decide +kernel
theorem dX4_touched_34 : decode cX4_touched 34 = .ok (.putfield 64, 3) := by decide +kernel
theorem dX4_touched_37 : decode cX4_touched 37 = .ok (.iconst 0, 1) := by decide +kernel
theorem dX4_touched_38 : decode cX4_touched 38 = .ok (.istore 5, 2) := by decide +kernel
theorem dX4_touched_40 : decode cX4_touched 40 = .ok (.iconst 0, 1) := by decide +kernel
theorem dX4_touched_41 : decode cX4_touched 41 = .ok (.istore 6, 2) := by decide +kernel
theorem dX4_touched_43 : decode cX4_touched 43 = .ok (.iload 6, 2) := by decide +kernel
theorem dX4_touched_45 : decode cX4_touched 45 = .ok (.bipush 20, 2) := by decide +kernel
theorem dX4_touched_47 : decode cX4_touched 47 = .ok (.if_icmp .ge 132, 3) := by decide +kernel
theorem dX4_touched_50 : decode cX4_touched 50 = .ok (.aload_n 0, 1) := by decide +kernel
theorem dX4_touched_51 : decode cX4_touched 51 = .ok (.getfield 64, 3) := by decide +kernel
theorem dX4_touched_54 : decode cX4_touched 54 = .ok (.ifCond .ne 125, 3) := by decide +kernel
theorem dX4_touched_57 : decode cX4_touched 57 = .ok (.aload_n 0, 1) := by decide +kernel
theorem dX4_touched_58 : decode cX4_touched 58 = .ok (.getfield 16, 3) := by decide +kernel
theorem dX4_touched_61 : decode cX4_touched 61 = .ok (.bipush 20, 2) := by decide +kernel
theorem dX4_touched_63 : decode cX4_touched 63 = .ok (.iload 4, 2) := by decide +kernel
theorem dX4_touched_65 : decode cX4_touched 65 = .ok (.imul, 1) := by decide +kernel
theorem dX4_touched_66 : decode cX4_touched 66 = .ok (.iload_n 1, 1) := by decide +kernel
theorem dX4_touched_67 : decode cX4_touched 67 = .ok (.iadd, 1) := by decide +kernel
theorem dX4_touched_68 : decode cX4_touched 68 = .ok (.iaload, 1) := by decide +kernel
theorem dX4_touched_69 : decode cX4_touched 69 = .ok (.iconst 1, 1) := by decide +kernel
theorem dX4_touched_70 : decode cX4_touched 70 = .ok (.isub, 1) := by decide +kernel
theorem dX4_touched_71 : decode cX4_touched 71 = .ok (.istore 7, 2) := by decide +kernel
theorem dX4_touched_73 : decode cX4_touched 73 = .ok (.iload 6, 2) := by decide +kernel
theorem dX4_touched_75 : decode cX4_touched 75 = .ok (.bipush 10, 2) := by decide +kernel
theorem dX4_touched_77 : decode cX4_touched 77 = .ok (.irem, 1) := by decide +kernel
theorem dX4_touched_78 : decode cX4_touched 78 = .ok (.aload_n 0, 1) := by decide +kernel
theorem dX4_touched_79 : decode cX4_touched 79 = .ok (.getfield 25, 3) := by decide +kernel
theorem dX4_touched_82 : decode cX4_touched 82 = .ok (.iload 6, 2) := by decide +kernel
theorem dX4_touched_84 : decode cX4_touched 84 = .ok (.bipush 10, 2) := by decide +kernel
theorem dX4_touched_86 : decode cX4_touched 86 = .ok (.idiv, 1) := by decide +kernel
theorem dX4_touched_87 : decode cX4_touched 87 = .ok (.iaload, 1) := by decide +kernel
theorem dX4_touched_88 : decode cX4_touched 88 = .ok (.if_icmp .ge 13, 3) := by decide +kernel
theorem dX4_touched_91 : decode cX4_touched 91 = .ok (.iload 7, 2) := by decide +kernel
theorem dX4_touched_93 : decode cX4_touched 93 = .ok (.iconst (-1), 1) := by decide +kernel
theorem dX4_touched_94 : decode cX4_touched 94 = .ok (.if_icmp .eq 7, 3) := by decide +kernel
theorem dX4_touched_97 : decode cX4_touched 97 = .ok (.iconst 1, 1) := by decide +kernel
theorem dX4_touched_98 : decode cX4_touched 98 = .ok (.goto 4, 3) := by decide +kernel
theorem dX4_touched_101 : decode cX4_touched 101 = .ok (.iconst 0, 1) := by decide +kernel
theorem dX4_touched_102 : decode cX4_touched 102 = .ok (.istore 8, 2) := by decide +kernel
theorem dX4_touched_104 : decode cX4_touched 104 = .ok (.iload 8, 2) := by decide +kernel
theorem dX4_touched_106 : decode cX4_touched 106 = .ok (.ifCond .eq 21, 3) := by decide +kernel
theorem dX4_touched_109 : decode cX4_touched 109 = .ok (.aload_n 0, 1) := by decide +kernel
theorem dX4_touched_110 : decode cX4_touched 110 = .ok (.getfield 37, 3) := by decide +kernel
theorem dX4_touched_113 : decode cX4_touched 113 = .ok (.bipush 12, 2) := by decide +kernel
theorem dX4_touched_115 : decode cX4_touched 115 = .ok (.iload 6, 2) := by decide +kernel
theorem dX4_touched_117 : decode cX4_touched 117 = .ok (.imul, 1) := by decide +kernel
theorem dX4_touched_118 : decode cX4_touched 118 = .ok (.iload 7, 2) := by decide +kernel
theorem dX4_touched_120 : decode cX4_touched 120 = .ok (.iadd, 1) := by decide +kernel
theorem dX4_touched_121 : decode cX4_touched 121 = .ok (.iaload, 1) := by decide +kernel
theorem dX4_touched_122 : decode cX4_touched 122 = .ok (.iconst 1, 1) := by decide +kernel
theorem dX4_touched_123 : decode cX4_touched 123 = .ok (.isub, 1) := by decide +kernel
theorem dX4_touched_124 : decode cX4_touched 124 = .ok (.goto 4, 3) := by decide +kernel
theorem dX4_touched_127 : decode cX4_touched 127 = .ok (.iconst (-1), 1) := by decide +kernel
theorem dX4_touched_128 : decode cX4_touched 128 = .ok (.istore 9, 2) := by decide +kernel
theorem dX4_touched_130 : decode cX4_touched 130 = .ok (.iload 5, 2) := by decide +kernel
theorem dX4_touched_132 : decode cX4_touched 132 = .ok (.iload 9, 2) := by decide +kernel
theorem dX4_touched_134 : decode cX4_touched 134 = .ok (.iconst (-1), 1) := by decide +kernel
theorem dX4_touched_135 : decode cX4_touched 135 = .ok (.if_icmp .eq 34, 3) := by decide +kernel
theorem dX4_touched_138 : decode cX4_touched 138 = .ok (.iload_n 2, 1) := by decide +kernel
theorem dX4_touched_139 : decode cX4_touched 139 = .ok (.iload_n 3, 1) := by decide +kernel
theorem dX4_touched_140 : decode cX4_touched 140 = .ok (.iload 9, 2) := by decide +kernel
theorem dX4_touched_142 : decode cX4_touched 142 = .ok (.invokestatic 123, 3) := by decide +kernel
theorem dX4_touched_145 : decode cX4_touched 145 = .ok (.aload_n 0, 1) := by decide +kernel
theorem dX4_touched_146 : decode cX4_touched 146 = .ok (.getfield 7, 3) := by decide +kernel
theorem dX4_touched_149 : decode cX4_touched 149 = .ok (.iload_n 1, 1) := by decide +kernel
theorem dX4_touched_150 : decode cX4_touched 150 = .ok (.iaload, 1) := by decide +kernel
theorem dX4_touched_151 : decode cX4_touched 151 = .ok (.aload_n 0, 1) := by decide +kernel
theorem dX4_touched_152 : decode cX4_touched 152 = .ok (.getfield 13, 3) := by decide +kernel
theorem dX4_touched_155 : decode cX4_touched 155 = .ok (.iload_n 1, 1) := by decide +kernel
theorem dX4_touched_156 : decode cX4_touched 156 = .ok (.iaload, 1) := by decide +kernel
theorem dX4_touched_157 : decode cX4_touched 157 = .ok (.iload 9, 2) := by decide +kernel
theorem dX4_touched_159 : decode cX4_touched 159 = .ok (.invokestatic 123, 3) := by decide +kernel
theorem dX4_touched_162 : decode cX4_touched 162 = .ok (.if_icmp .eq 7, 3) := by decide +kernel
theorem dX4_touched_165 : decode cX4_touched 165 = .ok (.iconst 1, 1) := by decide +kernel
theorem dX4_touched_166 : decode cX4_touched 166 = .ok (.goto 4, 3) := by decide +kernel
theorem dX4_touched_169 : decode cX4_touched 169 = .ok (.iconst 0, 1) := by decide +kernel
theorem dX4_touched_170 : decode cX4_touched 170 = .ok (.iadd, 1) := by decide +kernel
theorem dX4_touched_171 : decode cX4_touched 171 = .ok (.istore 5, 2) := by decide +kernel
theorem dX4_touched_173 : decode cX4_touched 173 = .ok (.iinc 6 1, 3) := by decide +kernel
theorem dX4_touched_176 : decode cX4_touched 176 = .ok (.goto (-133), 3) := by decide +kernel
theorem dX4_touched_179 : decode cX4_touched 179 = .ok (.iload 5, 2) := by decide +kernel
theorem dX4_touched_181 : decode cX4_touched 181 = .ok (.ireturn, 1) := by decide +kernel
theorem dJ9_max_7cf53_0 : decode cJ9_max_7cf53 0 = .ok (.iload_n 0, 1) := by decide +kernel
theorem dJ9_max_7cf53_1 : decode cJ9_max_7cf53 1 = .ok (.iload_n 1, 1) := by decide +kernel
theorem dJ9_max_7cf53_2 : decode cJ9_max_7cf53 2 = .ok (.if_icmp .lt 7, 3) := by decide +kernel
theorem dJ9_max_7cf53_5 : decode cJ9_max_7cf53 5 = .ok (.iload_n 0, 1) := by decide +kernel
theorem dJ9_max_7cf53_6 : decode cJ9_max_7cf53 6 = .ok (.goto 4, 3) := by decide +kernel
theorem dJ9_max_7cf53_9 : decode cJ9_max_7cf53 9 = .ok (.iload_n 1, 1) := by decide +kernel
theorem dJ9_max_7cf53_10 : decode cJ9_max_7cf53 10 = .ok (.ireturn, 1) := by decide +kernel
theorem dJ9_min_7cf53_0 : decode cJ9_min_7cf53 0 = .ok (.iload_n 0, 1) := by decide +kernel
theorem dJ9_min_7cf53_1 : decode cJ9_min_7cf53 1 = .ok (.iload_n 1, 1) := by decide +kernel
theorem dJ9_min_7cf53_2 : decode cJ9_min_7cf53 2 = .ok (.if_icmp .gt 7, 3) := by decide +kernel
theorem dJ9_min_7cf53_5 : decode cJ9_min_7cf53 5 = .ok (.iload_n 0, 1) := by decide +kernel
theorem dJ9_min_7cf53_6 : decode cJ9_min_7cf53 6 = .ok (.goto 4, 3) := by decide +kernel
theorem dJ9_min_7cf53_9 : decode cJ9_min_7cf53 9 = .ok (.iload_n 1, 1) := by decide +kernel
theorem dJ9_min_7cf53_10 : decode cJ9_min_7cf53 10 = .ok (.ireturn, 1) := by decide +kernel
theorem dJ7_fill_53178_0 : decode cJ7_fill_53178 0 = .ok (.iconst 0, 1) := by decide +kernel
theorem dJ7_fill_53178_1 : decode cJ7_fill_53178 1 = .ok (.istore_n 2, 1) := by decide +kernel
theorem dJ7_fill_53178_2 : decode cJ7_fill_53178 2 = .ok (.aload_n 0, 1) := by decide +kernel
theorem dJ7_fill_53178_3 : decode cJ7_fill_53178 3 = .ok (.arraylength, 1) := by decide +kernel
theorem dJ7_fill_53178_4 : decode cJ7_fill_53178 4 = .ok (.istore_n 3, 1) := by decide +kernel
theorem dJ7_fill_53178_5 : decode cJ7_fill_53178 5 = .ok (.iload_n 2, 1) := by decide +kernel
theorem dJ7_fill_53178_6 : decode cJ7_fill_53178 6 = .ok (.iload_n 3, 1) := by decide +kernel
theorem dJ7_fill_53178_7 : decode cJ7_fill_53178 7 = .ok (.if_icmp .ge 13, 3) := by decide +kernel
theorem dJ7_fill_53178_10 : decode cJ7_fill_53178 10 = .ok (.aload_n 0, 1) := by decide +kernel
theorem dJ7_fill_53178_11 : decode cJ7_fill_53178 11 = .ok (.iload_n 2, 1) := by decide +kernel
theorem dJ7_fill_53178_12 : decode cJ7_fill_53178 12 = .ok (.iload_n 1, 1) := by decide +kernel
theorem dJ7_fill_53178_13 : decode cJ7_fill_53178 13 = .ok (.iastore, 1) := by decide +kernel
theorem dJ7_fill_53178_14 : decode cJ7_fill_53178 14 = .ok (.iinc 2 1, 3) := by decide +kernel
theorem dJ7_fill_53178_17 : decode cJ7_fill_53178 17 = .ok (.goto (-12), 3) := by decide +kernel
theorem dJ7_fill_53178_20 : decode cJ7_fill_53178 20 = .ok (.return_, 1) := by decide +kernel
set_option maxRecDepth 20000 in
theorem ggL_addLamp_X3_addLamp : GoodIn wsL_addLamp wsX3_addLamp := goodIn_ca (goodIn_ca (goodIn_r _ [7, 8, 9, 10, 11, 12, 6, 13, 14, 15, 16, 17, 18, 19, 20, 21, 22, 23, 24, 25, 26, 27, 28, 29, 30, 31, 32, 33, 34, 35, 36, 37, 38, 39, 40, 41, 42, 43, 44, 45, 46] (by decide +kernel) (by decide +kernel)) (goodIn_sub (fun _ h => List.mem_cons_of_mem _ (List.mem_append_left _ (List.mem_append_right _ h))) (by decide +kernel))) (goodIn_sub (fun _ h => List.mem_cons_of_mem _ (List.mem_append_right _ h)) (by decide +kernel))
set_option maxRecDepth 20000 in
theorem gL_addLamp_X3_addLamp : GoodIn wsL_addLamp (wsV RL 7 RX3 yX3_addLamp wsX3_addLamp) := goodIn_app (goodIn_of _ (by decide +kernel)) ggL_addLamp_X3_addLamp
theorem dL_addLamp_0 : decode cL_addLamp 0 = .ok (.aload_n 3, 1) := by decide +kernel
theorem dL_addLamp_1 : decode cL_addLamp 1 = .ok (.iconst 0, 1) := by decide +kernel
theorem dL_addLamp_2 : decode cL_addLamp 2 = .ok (.aload_n 0, 1) := by decide +kernel
theorem dL_addLamp_3 : decode cL_addLamp 3 = .ok (.iload_n 1, 1) := by decide +kernel
theorem dL_addLamp_4 : decode cL_addLamp 4 = .ok (.iload_n 2, 1) := by decide +kernel
theorem dL_addLamp_5 : decode cL_addLamp 5 = .ok (.invokevirtual 7, 3) := by decide +kernel
theorem dL_addLamp_8 : decode cL_addLamp 8 = .ok (.i2l, 1) := by decide +kernel
theorem dL_addLamp_9 : decode cL_addLamp 9 = .ok (.lastore, 1) := by decide +kernel
theorem dL_addLamp_10 : decode cL_addLamp 10 = .ok (.goto 11, 3) := by decide +kernel
theorem dL_addLamp_13 : decode cL_addLamp 13 = .ok (.astore 4, 2) := by decide +kernel
theorem dL_addLamp_15 : decode cL_addLamp 15 = .ok (.iconst 1, 1) := by decide +kernel
theorem dL_addLamp_16 : decode cL_addLamp 16 = .ok (.ireturn, 1) := by decide +kernel
theorem dL_addLamp_17 : decode cL_addLamp 17 = .ok (.astore 4, 2) := by decide +kernel
theorem dL_addLamp_19 : decode cL_addLamp 19 = .ok (.iconst 2, 1) := by decide +kernel
theorem dL_addLamp_20 : decode cL_addLamp 20 = .ok (.ireturn, 1) := by decide +kernel
theorem dL_addLamp_21 : decode cL_addLamp 21 = .ok (.iconst 0, 1) := by decide +kernel
theorem dL_addLamp_22 : decode cL_addLamp 22 = .ok (.ireturn, 1) := by decide +kernel
set_option maxRecDepth 20000 in
theorem ggL_swap_X3_swap : GoodIn wsL_swap wsX3_swap := goodIn_ca (goodIn_ca (goodIn_r _ [7, 8, 9, 10, 11, 12, 6, 13, 14, 15, 16, 17, 18, 19, 20, 21, 22, 23, 24, 25, 26, 27, 28, 29, 30, 31, 32, 33, 34, 35, 36, 37, 38, 39, 40, 41, 42, 43, 44, 45, 46, 47, 48, 49, 50, 51, 52, 53, 54, 55, 56, 57, 58, 59, 60, 61, 62, 63, 64, 65, 66, 67, 68, 69, 70, 71, 72, 73, 74] (by decide +kernel) (by decide +kernel)) (goodIn_sub (fun _ h => List.mem_cons_of_mem _ (List.mem_append_left _ (List.mem_append_right _ h))) (by decide +kernel))) (goodIn_sub (fun _ h => List.mem_cons_of_mem _ (List.mem_append_right _ h)) (by decide +kernel))
set_option maxRecDepth 20000 in
theorem gL_swap_X3_swap : GoodIn wsL_swap (wsV RL 17 RX3 yX3_swap wsX3_swap) := goodIn_app (goodIn_of _ (by decide +kernel)) ggL_swap_X3_swap
theorem dL_swap_0 : decode cL_swap 0 = .ok (.aload_n 0, 1) := by decide +kernel
theorem dL_swap_1 : decode cL_swap 1 = .ok (.iload_n 1, 1) := by decide +kernel
theorem dL_swap_2 : decode cL_swap 2 = .ok (.iload_n 2, 1) := by decide +kernel
theorem dL_swap_3 : decode cL_swap 3 = .ok (.iload_n 3, 1) := by decide +kernel
theorem dL_swap_4 : decode cL_swap 4 = .ok (.invokevirtual 17, 3) := by decide +kernel
theorem dL_swap_7 : decode cL_swap 7 = .ok (.goto 11, 3) := by decide +kernel
theorem dL_swap_10 : decode cL_swap 10 = .ok (.astore 4, 2) := by decide +kernel
theorem dL_swap_12 : decode cL_swap 12 = .ok (.iconst 1, 1) := by decide +kernel
theorem dL_swap_13 : decode cL_swap 13 = .ok (.ireturn, 1) := by decide +kernel
theorem dL_swap_14 : decode cL_swap 14 = .ok (.astore 4, 2) := by decide +kernel
theorem dL_swap_16 : decode cL_swap 16 = .ok (.iconst 2, 1) := by decide +kernel
theorem dL_swap_17 : decode cL_swap 17 = .ok (.ireturn, 1) := by decide +kernel
theorem dL_swap_18 : decode cL_swap 18 = .ok (.iconst 0, 1) := by decide +kernel
theorem dL_swap_19 : decode cL_swap 19 = .ok (.ireturn, 1) := by decide +kernel
set_option maxRecDepth 20000 in
theorem ggL_hang_X3_hang : GoodIn wsL_hang wsX3_hang := goodIn_ca (goodIn_ca (goodIn_r _ [7, 8, 9, 10, 11, 12, 6, 13, 14, 15, 16, 17, 18, 19, 20, 21, 22, 23, 24, 25, 26, 27, 28, 29, 30, 31, 32, 33, 34, 35, 36, 37, 38, 39, 40, 41, 42, 43, 44, 45, 46, 47, 48, 49, 50, 51, 52, 53, 54, 55, 56, 57, 58, 59, 60, 61, 62, 63, 64, 65, 66, 67, 68, 69, 70, 71, 72, 73, 74, 75, 76, 77, 78, 79, 80, 81] (by decide +kernel) (by decide +kernel)) (goodIn_sub (fun _ h => List.mem_cons_of_mem _ (List.mem_append_left _ (List.mem_append_right _ h))) (by decide +kernel))) (goodIn_sub (fun _ h => List.mem_cons_of_mem _ (List.mem_append_right _ h)) (by decide +kernel))
set_option maxRecDepth 20000 in
theorem gL_hang_X3_hang : GoodIn wsL_hang (wsV RL 23 RX3 yX3_hang wsX3_hang) := goodIn_app (goodIn_of _ (by decide +kernel)) ggL_hang_X3_hang
theorem dL_hang_0 : decode cL_hang 0 = .ok (.aload 4, 2) := by decide +kernel
theorem dL_hang_2 : decode cL_hang 2 = .ok (.iconst 0, 1) := by decide +kernel
theorem dL_hang_3 : decode cL_hang 3 = .ok (.aload_n 0, 1) := by decide +kernel
theorem dL_hang_4 : decode cL_hang 4 = .ok (.iload_n 1, 1) := by decide +kernel
theorem dL_hang_5 : decode cL_hang 5 = .ok (.iload_n 2, 1) := by decide +kernel
theorem dL_hang_6 : decode cL_hang 6 = .ok (.iload_n 3, 1) := by decide +kernel
theorem dL_hang_7 : decode cL_hang 7 = .ok (.invokevirtual 23, 3) := by decide +kernel
theorem dL_hang_10 : decode cL_hang 10 = .ok (.i2l, 1) := by decide +kernel
theorem dL_hang_11 : decode cL_hang 11 = .ok (.lastore, 1) := by decide +kernel
theorem dL_hang_12 : decode cL_hang 12 = .ok (.goto 11, 3) := by decide +kernel
theorem dL_hang_15 : decode cL_hang 15 = .ok (.astore 5, 2) := by decide +kernel
theorem dL_hang_17 : decode cL_hang 17 = .ok (.iconst 1, 1) := by decide +kernel
theorem dL_hang_18 : decode cL_hang 18 = .ok (.ireturn, 1) := by decide +kernel
theorem dL_hang_19 : decode cL_hang 19 = .ok (.astore 5, 2) := by decide +kernel
theorem dL_hang_21 : decode cL_hang 21 = .ok (.iconst 2, 1) := by decide +kernel
theorem dL_hang_22 : decode cL_hang 22 = .ok (.ireturn, 1) := by decide +kernel
theorem dL_hang_23 : decode cL_hang 23 = .ok (.iconst 0, 1) := by decide +kernel
theorem dL_hang_24 : decode cL_hang 24 = .ok (.ireturn, 1) := by decide +kernel
set_option maxRecDepth 20000 in
theorem ggL_setNight_X3_setNight : GoodIn wsL_setNight wsX3_setNight := goodIn_ca (goodIn_r _ [6, 7, 8, 9, 5, 10, 11, 12, 13, 14, 15, 16, 17, 18, 19, 20, 21, 22] (by decide +kernel) (by decide +kernel)) (goodIn_sub (fun _ h => List.mem_cons_of_mem _ (List.mem_append_right _ h)) (by decide +kernel))
set_option maxRecDepth 20000 in
theorem gL_setNight_X3_setNight : GoodIn wsL_setNight (wsV RL 27 RX3 yX3_setNight wsX3_setNight) := goodIn_app (goodIn_of _ (by decide +kernel)) ggL_setNight_X3_setNight
theorem dL_setNight_0 : decode cL_setNight 0 = .ok (.aload_n 2, 1) := by decide +kernel
theorem dL_setNight_1 : decode cL_setNight 1 = .ok (.iconst 0, 1) := by decide +kernel
theorem dL_setNight_2 : decode cL_setNight 2 = .ok (.aload_n 0, 1) := by decide +kernel
theorem dL_setNight_3 : decode cL_setNight 3 = .ok (.iload_n 1, 1) := by decide +kernel
theorem dL_setNight_4 : decode cL_setNight 4 = .ok (.invokevirtual 27, 3) := by decide +kernel
theorem dL_setNight_7 : decode cL_setNight 7 = .ok (.i2l, 1) := by decide +kernel
theorem dL_setNight_8 : decode cL_setNight 8 = .ok (.lastore, 1) := by decide +kernel
theorem dL_setNight_9 : decode cL_setNight 9 = .ok (.goto 6, 3) := by decide +kernel
theorem dL_setNight_12 : decode cL_setNight 12 = .ok (.astore_n 3, 1) := by decide +kernel
theorem dL_setNight_13 : decode cL_setNight 13 = .ok (.iconst 1, 1) := by decide +kernel
theorem dL_setNight_14 : decode cL_setNight 14 = .ok (.ireturn, 1) := by decide +kernel
theorem dL_setNight_15 : decode cL_setNight 15 = .ok (.iconst 0, 1) := by decide +kernel
theorem dL_setNight_16 : decode cL_setNight 16 = .ok (.ireturn, 1) := by decide +kernel
set_option maxRecDepth 20000 in
theorem ggL_setLatest_X3_setLatest : GoodIn wsL_setLatest wsX3_setLatest := goodIn_ca (goodIn_r _ [6, 7, 8, 9, 5, 10, 11, 12, 13, 14, 15, 16, 17, 18, 19, 20, 21, 22] (by decide +kernel) (by decide +kernel)) (goodIn_sub (fun _ h => List.mem_cons_of_mem _ (List.mem_append_right _ h)) (by decide +kernel))
set_option maxRecDepth 20000 in
theorem gL_setLatest_X3_setLatest : GoodIn wsL_setLatest (wsV RL 31 RX3 yX3_setLatest wsX3_setLatest) := goodIn_app (goodIn_of _ (by decide +kernel)) ggL_setLatest_X3_setLatest
theorem dL_setLatest_0 : decode cL_setLatest 0 = .ok (.aload_n 3, 1) := by decide +kernel
theorem dL_setLatest_1 : decode cL_setLatest 1 = .ok (.iconst 0, 1) := by decide +kernel
theorem dL_setLatest_2 : decode cL_setLatest 2 = .ok (.aload_n 0, 1) := by decide +kernel
theorem dL_setLatest_3 : decode cL_setLatest 3 = .ok (.iload_n 1, 1) := by decide +kernel
theorem dL_setLatest_4 : decode cL_setLatest 4 = .ok (.iload_n 2, 1) := by decide +kernel
theorem dL_setLatest_5 : decode cL_setLatest 5 = .ok (.invokevirtual 31, 3) := by decide +kernel
theorem dL_setLatest_8 : decode cL_setLatest 8 = .ok (.ifCond .eq 7, 3) := by decide +kernel
theorem dL_setLatest_11 : decode cL_setLatest 11 = .ok (.lconst 1, 1) := by decide +kernel
theorem dL_setLatest_12 : decode cL_setLatest 12 = .ok (.goto 4, 3) := by decide +kernel
theorem dL_setLatest_15 : decode cL_setLatest 15 = .ok (.lconst 0, 1) := by decide +kernel
theorem dL_setLatest_16 : decode cL_setLatest 16 = .ok (.lastore, 1) := by decide +kernel
theorem dL_setLatest_17 : decode cL_setLatest 17 = .ok (.goto 7, 3) := by decide +kernel
theorem dL_setLatest_20 : decode cL_setLatest 20 = .ok (.astore 4, 2) := by decide +kernel
theorem dL_setLatest_22 : decode cL_setLatest 22 = .ok (.iconst 1, 1) := by decide +kernel
theorem dL_setLatest_23 : decode cL_setLatest 23 = .ok (.ireturn, 1) := by decide +kernel
theorem dL_setLatest_24 : decode cL_setLatest 24 = .ok (.iconst 0, 1) := by decide +kernel
theorem dL_setLatest_25 : decode cL_setLatest 25 = .ok (.ireturn, 1) := by decide +kernel
set_option maxRecDepth 20000 in
theorem ggL_addCue_X3_addCue : GoodIn wsL_addCue wsX3_addCue := goodIn_ca (goodIn_ca (goodIn_r _ [7, 8, 9, 10, 11, 6, 12, 13, 14, 15, 16, 17, 18, 19, 20, 21, 22, 23, 24, 25, 26, 27, 28, 29, 30, 31, 32, 33, 34, 35, 36, 37, 38, 39, 40, 41, 42, 43, 44, 45, 46, 47, 48, 49, 50, 51, 52] (by decide +kernel) (by decide +kernel)) (goodIn_sub (fun _ h => List.mem_cons_of_mem _ (List.mem_append_left _ (List.mem_append_right _ h))) (by decide +kernel))) (goodIn_sub (fun _ h => List.mem_cons_of_mem _ (List.mem_append_right _ h)) (by decide +kernel))
set_option maxRecDepth 20000 in
theorem gL_addCue_X3_addCue : GoodIn wsL_addCue (wsV RL 35 RX3 yX3_addCue wsX3_addCue) := goodIn_app (goodIn_of _ (by decide +kernel)) ggL_addCue_X3_addCue
theorem dL_addCue_0 : decode cL_addCue 0 = .ok (.aload 5, 2) := by decide +kernel
theorem dL_addCue_2 : decode cL_addCue 2 = .ok (.iconst 0, 1) := by decide +kernel
theorem dL_addCue_3 : decode cL_addCue 3 = .ok (.aload_n 0, 1) := by decide +kernel
theorem dL_addCue_4 : decode cL_addCue 4 = .ok (.iload_n 1, 1) := by decide +kernel
theorem dL_addCue_5 : decode cL_addCue 5 = .ok (.iload_n 2, 1) := by decide +kernel
theorem dL_addCue_6 : decode cL_addCue 6 = .ok (.iload_n 3, 1) := by decide +kernel
theorem dL_addCue_7 : decode cL_addCue 7 = .ok (.iload 4, 2) := by decide +kernel
theorem dL_addCue_9 : decode cL_addCue 9 = .ok (.invokevirtual 35, 3) := by decide +kernel
theorem dL_addCue_12 : decode cL_addCue 12 = .ok (.i2l, 1) := by decide +kernel
theorem dL_addCue_13 : decode cL_addCue 13 = .ok (.lastore, 1) := by decide +kernel
theorem dL_addCue_14 : decode cL_addCue 14 = .ok (.goto 11, 3) := by decide +kernel
theorem dL_addCue_17 : decode cL_addCue 17 = .ok (.astore 6, 2) := by decide +kernel
theorem dL_addCue_19 : decode cL_addCue 19 = .ok (.iconst 1, 1) := by decide +kernel
theorem dL_addCue_20 : decode cL_addCue 20 = .ok (.ireturn, 1) := by decide +kernel
theorem dL_addCue_21 : decode cL_addCue 21 = .ok (.astore 6, 2) := by decide +kernel
theorem dL_addCue_23 : decode cL_addCue 23 = .ok (.iconst 2, 1) := by decide +kernel
theorem dL_addCue_24 : decode cL_addCue 24 = .ok (.ireturn, 1) := by decide +kernel
theorem dL_addCue_25 : decode cL_addCue 25 = .ok (.iconst 0, 1) := by decide +kernel
theorem dL_addCue_26 : decode cL_addCue 26 = .ok (.ireturn, 1) := by decide +kernel
set_option maxRecDepth 20000 in
theorem ggL_setLevel_X3_setLevel : GoodIn wsL_setLevel wsX3_setLevel := goodIn_ca (goodIn_ca (goodIn_r _ [7, 8, 9, 10, 6, 11, 12, 13, 14, 15, 16, 17, 18, 19, 20, 21, 22, 23, 24, 25, 26, 27, 28, 29, 30, 31, 32, 33, 34, 35, 36, 37, 38, 39, 40, 41, 42, 43, 44, 45, 46, 47, 48, 49, 50, 51, 52, 53, 54, 55, 56, 57, 58, 59, 60, 61, 62, 63, 64, 65, 66, 67, 68, 69, 70, 71, 72, 73, 74, 75, 76, 77, 78, 79, 80, 81, 82, 83, 84, 85, 86, 87, 88] (by decide +kernel) (by decide +kernel)) (goodIn_sub (fun _ h => List.mem_cons_of_mem _ (List.mem_append_left _ (List.mem_append_right _ h))) (by decide +kernel))) (goodIn_sub (fun _ h => List.mem_cons_of_mem _ (List.mem_append_right _ h)) (by decide +kernel))
set_option maxRecDepth 20000 in
theorem gL_setLevel_X3_setLevel : GoodIn wsL_setLevel (wsV RL 39 RX3 yX3_setLevel wsX3_setLevel) := goodIn_app (goodIn_of _ (by decide +kernel)) ggL_setLevel_X3_setLevel
theorem dL_setLevel_0 : decode cL_setLevel 0 = .ok (.aload 5, 2) := by decide +kernel
theorem dL_setLevel_2 : decode cL_setLevel 2 = .ok (.iconst 0, 1) := by decide +kernel
theorem dL_setLevel_3 : decode cL_setLevel 3 = .ok (.aload_n 0, 1) := by decide +kernel
theorem dL_setLevel_4 : decode cL_setLevel 4 = .ok (.iload_n 1, 1) := by decide +kernel
theorem dL_setLevel_5 : decode cL_setLevel 5 = .ok (.iload_n 2, 1) := by decide +kernel
theorem dL_setLevel_6 : decode cL_setLevel 6 = .ok (.iload_n 3, 1) := by decide +kernel
theorem dL_setLevel_7 : decode cL_setLevel 7 = .ok (.iload 4, 2) := by decide +kernel
theorem dL_setLevel_9 : decode cL_setLevel 9 = .ok (.invokevirtual 39, 3) := by decide +kernel
theorem dL_setLevel_12 : decode cL_setLevel 12 = .ok (.i2l, 1) := by decide +kernel
theorem dL_setLevel_13 : decode cL_setLevel 13 = .ok (.lastore, 1) := by decide +kernel
theorem dL_setLevel_14 : decode cL_setLevel 14 = .ok (.goto 11, 3) := by decide +kernel
theorem dL_setLevel_17 : decode cL_setLevel 17 = .ok (.astore 6, 2) := by decide +kernel
theorem dL_setLevel_19 : decode cL_setLevel 19 = .ok (.iconst 1, 1) := by decide +kernel
theorem dL_setLevel_20 : decode cL_setLevel 20 = .ok (.ireturn, 1) := by decide +kernel
theorem dL_setLevel_21 : decode cL_setLevel 21 = .ok (.astore 6, 2) := by decide +kernel
theorem dL_setLevel_23 : decode cL_setLevel 23 = .ok (.iconst 2, 1) := by decide +kernel
theorem dL_setLevel_24 : decode cL_setLevel 24 = .ok (.ireturn, 1) := by decide +kernel
theorem dL_setLevel_25 : decode cL_setLevel 25 = .ok (.iconst 0, 1) := by decide +kernel
theorem dL_setLevel_26 : decode cL_setLevel 26 = .ok (.ireturn, 1) := by decide +kernel
set_option maxRecDepth 20000 in
theorem ggL_undo_X3_undo : GoodIn wsL_undo wsX3_undo := goodIn_ca (goodIn_r _ [6, 7, 8, 9, 10, 11, 12, 13, 14, 15, 16, 17, 18, 5, 19, 20, 21, 22, 23, 24, 25, 26, 27, 28, 29, 30, 31, 32, 33, 34, 35, 36, 37, 38, 39, 40, 41, 42, 43, 44, 45, 46, 47, 48, 49, 50, 51, 52, 53, 54, 55, 56, 57, 58, 59, 60, 61, 62, 63, 64, 65, 66, 67, 68, 69, 70, 71, 72, 73, 74, 75, 76, 77, 78, 79, 80, 81, 82, 83, 84, 85, 86, 87, 88, 89, 90, 91, 92, 93, 94, 95, 96, 97, 98, 99, 100, 101, 102, 103, 104, 105, 106] (by decide +kernel) (by decide +kernel)) (goodIn_sub (fun _ h => List.mem_cons_of_mem _ (List.mem_append_right _ h)) (by decide +kernel))
set_option maxRecDepth 20000 in
theorem gL_undo_X3_undo : GoodIn wsL_undo (wsV RL 43 RX3 yX3_undo wsX3_undo) := goodIn_app (goodIn_of _ (by decide +kernel)) ggL_undo_X3_undo
theorem dL_undo_0 : decode cL_undo 0 = .ok (.aload_n 1, 1) := by decide +kernel
theorem dL_undo_1 : decode cL_undo 1 = .ok (.iconst 0, 1) := by decide +kernel
theorem dL_undo_2 : decode cL_undo 2 = .ok (.aload_n 0, 1) := by decide +kernel
theorem dL_undo_3 : decode cL_undo 3 = .ok (.invokevirtual 43, 3) := by decide +kernel
theorem dL_undo_6 : decode cL_undo 6 = .ok (.i2l, 1) := by decide +kernel
theorem dL_undo_7 : decode cL_undo 7 = .ok (.lastore, 1) := by decide +kernel
theorem dL_undo_8 : decode cL_undo 8 = .ok (.goto 6, 3) := by decide +kernel
theorem dL_undo_11 : decode cL_undo 11 = .ok (.astore_n 2, 1) := by decide +kernel
theorem dL_undo_12 : decode cL_undo 12 = .ok (.iconst 1, 1) := by decide +kernel
theorem dL_undo_13 : decode cL_undo 13 = .ok (.ireturn, 1) := by decide +kernel
theorem dL_undo_14 : decode cL_undo 14 = .ok (.iconst 0, 1) := by decide +kernel
theorem dL_undo_15 : decode cL_undo 15 = .ok (.ireturn, 1) := by decide +kernel
set_option maxRecDepth 20000 in
theorem ggL_go_X3_go : GoodIn wsL_go wsX3_go := goodIn_ca (goodIn_ca (goodIn_r _ [7, 8, 9, 6, 10, 11, 12, 13, 14, 15, 16, 17, 18, 19, 20, 21, 22, 23, 24, 25, 26, 27, 28, 29, 30, 31, 32, 33, 34, 35, 36, 37, 38, 39, 40, 41, 42, 43, 44, 45, 46, 47, 48, 49, 50, 51, 52, 53, 54, 55, 56, 57, 58, 59, 60, 61, 62, 63, 64, 65, 66, 67, 68, 69, 70, 71, 72, 73, 74, 75, 76, 77, 78, 79, 80, 81, 82, 83, 84, 85, 86, 87, 88, 89, 90, 91] (by decide +kernel) (by decide +kernel)) (goodIn_sub (fun _ h => List.mem_cons_of_mem _ (List.mem_append_left _ (List.mem_append_right _ h))) (by decide +kernel))) (goodIn_sub (fun _ h => List.mem_cons_of_mem _ (List.mem_append_right _ h)) (by decide +kernel))
set_option maxRecDepth 20000 in
theorem gL_go_X3_go : GoodIn wsL_go (wsV RL 47 RX3 yX3_go wsX3_go) := goodIn_app (goodIn_of _ (by decide +kernel)) ggL_go_X3_go
theorem dL_go_0 : decode cL_go 0 = .ok (.aload_n 3, 1) := by decide +kernel
theorem dL_go_1 : decode cL_go 1 = .ok (.iconst 0, 1) := by decide +kernel
theorem dL_go_2 : decode cL_go 2 = .ok (.aload_n 0, 1) := by decide +kernel
theorem dL_go_3 : decode cL_go 3 = .ok (.iload_n 1, 1) := by decide +kernel
theorem dL_go_4 : decode cL_go 4 = .ok (.iload_n 2, 1) := by decide +kernel
theorem dL_go_5 : decode cL_go 5 = .ok (.invokevirtual 47, 3) := by decide +kernel
theorem dL_go_8 : decode cL_go 8 = .ok (.i2l, 1) := by decide +kernel
theorem dL_go_9 : decode cL_go 9 = .ok (.lastore, 1) := by decide +kernel
theorem dL_go_10 : decode cL_go 10 = .ok (.goto 11, 3) := by decide +kernel
theorem dL_go_13 : decode cL_go 13 = .ok (.astore 4, 2) := by decide +kernel
theorem dL_go_15 : decode cL_go 15 = .ok (.iconst 1, 1) := by decide +kernel
theorem dL_go_16 : decode cL_go 16 = .ok (.ireturn, 1) := by decide +kernel
theorem dL_go_17 : decode cL_go 17 = .ok (.astore 4, 2) := by decide +kernel
theorem dL_go_19 : decode cL_go 19 = .ok (.iconst 2, 1) := by decide +kernel
theorem dL_go_20 : decode cL_go 20 = .ok (.ireturn, 1) := by decide +kernel
theorem dL_go_21 : decode cL_go 21 = .ok (.iconst 0, 1) := by decide +kernel
theorem dL_go_22 : decode cL_go 22 = .ok (.ireturn, 1) := by decide +kernel
set_option maxRecDepth 20000 in
theorem ggL_pass_X3_pass : GoodIn wsL_pass wsX3_pass := goodIn_ca (goodIn_r _ [6, 7, 8, 9, 10, 11, 5, 12, 13, 14, 15, 16, 17, 18, 19, 20, 21, 22, 23, 24, 25, 26, 27, 28, 29, 30, 31, 32, 33, 34, 35, 36, 37, 38, 39, 40, 41, 42, 43, 44, 45, 46, 47, 48, 49, 50, 51, 52, 53, 54, 55, 56, 57, 58, 59, 60, 61, 62, 63, 64, 65, 66, 67, 68, 69, 70, 71, 72, 73, 74, 75, 76, 77, 78, 79, 80, 81, 82, 83, 84, 85] (by decide +kernel) (by decide +kernel)) (goodIn_sub (fun _ h => List.mem_cons_of_mem _ (List.mem_append_right _ h)) (by decide +kernel))
set_option maxRecDepth 20000 in
theorem gL_pass_X3_pass : GoodIn wsL_pass (wsV RL 50 RX3 yX3_pass wsX3_pass) := goodIn_app (goodIn_of _ (by decide +kernel)) ggL_pass_X3_pass
theorem dL_pass_0 : decode cL_pass 0 = .ok (.aload_n 2, 1) := by decide +kernel
theorem dL_pass_1 : decode cL_pass 1 = .ok (.iconst 0, 1) := by decide +kernel
theorem dL_pass_2 : decode cL_pass 2 = .ok (.aload_n 0, 1) := by decide +kernel
theorem dL_pass_3 : decode cL_pass 3 = .ok (.iload_n 1, 1) := by decide +kernel
theorem dL_pass_4 : decode cL_pass 4 = .ok (.invokevirtual 50, 3) := by decide +kernel
theorem dL_pass_7 : decode cL_pass 7 = .ok (.i2l, 1) := by decide +kernel
theorem dL_pass_8 : decode cL_pass 8 = .ok (.lastore, 1) := by decide +kernel
theorem dL_pass_9 : decode cL_pass 9 = .ok (.goto 6, 3) := by decide +kernel
theorem dL_pass_12 : decode cL_pass 12 = .ok (.astore_n 3, 1) := by decide +kernel
theorem dL_pass_13 : decode cL_pass 13 = .ok (.iconst 1, 1) := by decide +kernel
theorem dL_pass_14 : decode cL_pass 14 = .ok (.ireturn, 1) := by decide +kernel
theorem dL_pass_15 : decode cL_pass 15 = .ok (.iconst 0, 1) := by decide +kernel
theorem dL_pass_16 : decode cL_pass 16 = .ok (.ireturn, 1) := by decide +kernel
set_option maxRecDepth 20000 in
theorem ggL_running_X3_running : GoodIn wsL_running wsX3_running := goodIn_ca (goodIn_r _ [6, 7, 8, 5, 9, 10, 11, 12, 13, 14, 15, 16, 17, 18, 19, 20, 21, 22, 23, 24, 25, 26, 27, 28, 29, 30, 31, 32, 33, 34, 35, 36, 37, 38, 39] (by decide +kernel) (by decide +kernel)) (goodIn_sub (fun _ h => List.mem_cons_of_mem _ (List.mem_append_right _ h)) (by decide +kernel))
set_option maxRecDepth 20000 in
theorem gL_running_X3_running : GoodIn wsL_running (wsV RL 53 RX3 yX3_running wsX3_running) := goodIn_app (goodIn_of _ (by decide +kernel)) ggL_running_X3_running
theorem dL_running_0 : decode cL_running 0 = .ok (.aload_n 2, 1) := by decide +kernel
theorem dL_running_1 : decode cL_running 1 = .ok (.iconst 0, 1) := by decide +kernel
theorem dL_running_2 : decode cL_running 2 = .ok (.aload_n 0, 1) := by decide +kernel
theorem dL_running_3 : decode cL_running 3 = .ok (.iload_n 1, 1) := by decide +kernel
theorem dL_running_4 : decode cL_running 4 = .ok (.invokevirtual 53, 3) := by decide +kernel
theorem dL_running_7 : decode cL_running 7 = .ok (.i2l, 1) := by decide +kernel
theorem dL_running_8 : decode cL_running 8 = .ok (.lastore, 1) := by decide +kernel
theorem dL_running_9 : decode cL_running 9 = .ok (.goto 6, 3) := by decide +kernel
theorem dL_running_12 : decode cL_running 12 = .ok (.astore_n 3, 1) := by decide +kernel
theorem dL_running_13 : decode cL_running 13 = .ok (.iconst 1, 1) := by decide +kernel
theorem dL_running_14 : decode cL_running 14 = .ok (.ireturn, 1) := by decide +kernel
theorem dL_running_15 : decode cL_running 15 = .ok (.iconst 0, 1) := by decide +kernel
theorem dL_running_16 : decode cL_running 16 = .ok (.ireturn, 1) := by decide +kernel
set_option maxRecDepth 20000 in
theorem ggL_level_X3_level : GoodIn wsL_level wsX3_level := goodIn_ca (goodIn_r _ [6, 7, 8, 5, 9, 10, 11, 12, 13, 14, 15, 16, 17, 18, 19, 20, 21, 22, 23, 24, 25, 26, 27, 28, 29, 30, 31, 32, 33, 34, 35, 36, 37, 38, 39, 40, 41, 42, 43, 44, 45, 46, 47, 48, 49, 50, 51, 52, 53, 54, 55] (by decide +kernel) (by decide +kernel)) (goodIn_sub (fun _ h => List.mem_cons_of_mem _ (List.mem_append_right _ h)) (by decide +kernel))
set_option maxRecDepth 20000 in
theorem gL_level_X3_level : GoodIn wsL_level (wsV RL 56 RX3 yX3_level wsX3_level) := goodIn_app (goodIn_of _ (by decide +kernel)) ggL_level_X3_level
theorem dL_level_0 : decode cL_level 0 = .ok (.aload_n 3, 1) := by decide +kernel
theorem dL_level_1 : decode cL_level 1 = .ok (.iconst 0, 1) := by decide +kernel
theorem dL_level_2 : decode cL_level 2 = .ok (.aload_n 0, 1) := by decide +kernel
theorem dL_level_3 : decode cL_level 3 = .ok (.iload_n 1, 1) := by decide +kernel
theorem dL_level_4 : decode cL_level 4 = .ok (.iload_n 2, 1) := by decide +kernel
theorem dL_level_5 : decode cL_level 5 = .ok (.invokevirtual 56, 3) := by decide +kernel
theorem dL_level_8 : decode cL_level 8 = .ok (.i2l, 1) := by decide +kernel
theorem dL_level_9 : decode cL_level 9 = .ok (.lastore, 1) := by decide +kernel
theorem dL_level_10 : decode cL_level 10 = .ok (.goto 7, 3) := by decide +kernel
theorem dL_level_13 : decode cL_level 13 = .ok (.astore 4, 2) := by decide +kernel
theorem dL_level_15 : decode cL_level 15 = .ok (.iconst 1, 1) := by decide +kernel
theorem dL_level_16 : decode cL_level 16 = .ok (.ireturn, 1) := by decide +kernel
theorem dL_level_17 : decode cL_level 17 = .ok (.iconst 0, 1) := by decide +kernel
theorem dL_level_18 : decode cL_level 18 = .ok (.ireturn, 1) := by decide +kernel
set_option maxRecDepth 20000 in
theorem ggL_merged_X3_merged : GoodIn wsL_merged wsX3_merged := goodIn_ca (goodIn_r _ [6, 7, 8, 5, 9, 10, 11, 12, 13, 14, 15, 16, 17, 18, 19, 20, 21, 22, 23, 24, 25, 26, 27, 28, 29, 30, 31, 32, 33, 34, 35, 36, 37, 38, 39, 40, 41, 42, 43, 44, 45, 46, 47, 48, 49, 50, 51, 52, 53, 54, 55, 56, 57, 58] (by decide +kernel) (by decide +kernel)) (goodIn_sub (fun _ h => List.mem_cons_of_mem _ (List.mem_append_right _ h)) (by decide +kernel))
set_option maxRecDepth 20000 in
theorem gL_merged_X3_merged : GoodIn wsL_merged (wsV RL 59 RX3 yX3_merged wsX3_merged) := goodIn_app (goodIn_of _ (by decide +kernel)) ggL_merged_X3_merged
theorem dL_merged_0 : decode cL_merged 0 = .ok (.aload_n 2, 1) := by decide +kernel
theorem dL_merged_1 : decode cL_merged 1 = .ok (.iconst 0, 1) := by decide +kernel
theorem dL_merged_2 : decode cL_merged 2 = .ok (.aload_n 0, 1) := by decide +kernel
theorem dL_merged_3 : decode cL_merged 3 = .ok (.iload_n 1, 1) := by decide +kernel
theorem dL_merged_4 : decode cL_merged 4 = .ok (.invokevirtual 59, 3) := by decide +kernel
theorem dL_merged_7 : decode cL_merged 7 = .ok (.i2l, 1) := by decide +kernel
theorem dL_merged_8 : decode cL_merged 8 = .ok (.lastore, 1) := by decide +kernel
theorem dL_merged_9 : decode cL_merged 9 = .ok (.goto 6, 3) := by decide +kernel
theorem dL_merged_12 : decode cL_merged 12 = .ok (.astore_n 3, 1) := by decide +kernel
theorem dL_merged_13 : decode cL_merged 13 = .ok (.iconst 1, 1) := by decide +kernel
theorem dL_merged_14 : decode cL_merged 14 = .ok (.ireturn, 1) := by decide +kernel
theorem dL_merged_15 : decode cL_merged 15 = .ok (.iconst 0, 1) := by decide +kernel
theorem dL_merged_16 : decode cL_merged 16 = .ok (.ireturn, 1) := by decide +kernel
set_option maxRecDepth 20000 in
theorem ggL_light_X3_light : GoodIn wsL_light wsX3_light := goodIn_ca (goodIn_r _ [6, 7, 8, 9, 10, 5, 11, 12, 13, 14, 15, 16, 17, 18, 19, 20, 21, 22, 23, 24, 25, 26, 27, 28, 29, 30, 31, 32, 33, 34, 35, 36, 37, 38, 39, 40, 41, 42, 43, 44, 45, 46, 47, 48, 49, 50, 51, 52, 53, 54, 55, 56, 57, 58, 59, 60, 61, 62, 63, 64, 65, 66, 67, 68, 69, 70, 71, 72, 73, 74, 75, 76, 77, 78, 79, 80, 81, 82, 83, 84, 85, 86, 87, 88, 89, 90, 91, 92, 93, 94, 95, 96, 97, 98] (by decide +kernel) (by decide +kernel)) (goodIn_sub (fun _ h => List.mem_cons_of_mem _ (List.mem_append_right _ h)) (by decide +kernel))
set_option maxRecDepth 20000 in
theorem gL_light_X3_light : GoodIn wsL_light (wsV RL 62 RX3 yX3_light wsX3_light) := goodIn_app (goodIn_of _ (by decide +kernel)) ggL_light_X3_light
theorem dL_light_0 : decode cL_light 0 = .ok (.aload_n 2, 1) := by decide +kernel
theorem dL_light_1 : decode cL_light 1 = .ok (.iconst 0, 1) := by decide +kernel
theorem dL_light_2 : decode cL_light 2 = .ok (.aload_n 0, 1) := by decide +kernel
theorem dL_light_3 : decode cL_light 3 = .ok (.iload_n 1, 1) := by decide +kernel
theorem dL_light_4 : decode cL_light 4 = .ok (.invokevirtual 62, 3) := by decide +kernel
theorem dL_light_7 : decode cL_light 7 = .ok (.i2l, 1) := by decide +kernel
theorem dL_light_8 : decode cL_light 8 = .ok (.lastore, 1) := by decide +kernel
theorem dL_light_9 : decode cL_light 9 = .ok (.goto 6, 3) := by decide +kernel
theorem dL_light_12 : decode cL_light 12 = .ok (.astore_n 3, 1) := by decide +kernel
theorem dL_light_13 : decode cL_light 13 = .ok (.iconst 1, 1) := by decide +kernel
theorem dL_light_14 : decode cL_light 14 = .ok (.ireturn, 1) := by decide +kernel
theorem dL_light_15 : decode cL_light 15 = .ok (.iconst 0, 1) := by decide +kernel
theorem dL_light_16 : decode cL_light 16 = .ok (.ireturn, 1) := by decide +kernel
set_option maxRecDepth 20000 in
theorem ggL_preview_X3_preview : GoodIn wsL_preview wsX3_preview := goodIn_ca (goodIn_ca (goodIn_r _ [7, 8, 9, 10, 6, 11, 12, 13, 14, 15, 16, 17, 18, 19, 20, 21, 22, 23, 24, 25, 26, 27, 28, 29, 30, 31, 32, 33, 34, 35, 36, 37, 38, 39, 40, 41, 42, 43, 44, 45, 46, 47, 48, 49, 50, 51, 52, 53, 54, 55, 56, 57, 58, 59, 60, 61, 62, 63, 64, 65, 66, 67, 68, 69, 70, 71, 72, 73, 74, 75, 76, 77, 78, 79, 80, 81, 82, 83, 84, 85, 86, 87, 88, 89, 90, 91, 92, 93, 94, 95, 96, 97, 98, 99, 100, 101, 102, 103, 104, 105] (by decide +kernel) (by decide +kernel)) (goodIn_sub (fun _ h => List.mem_cons_of_mem _ (List.mem_append_left _ (List.mem_append_right _ h))) (by decide +kernel))) (goodIn_sub (fun _ h => List.mem_cons_of_mem _ (List.mem_append_right _ h)) (by decide +kernel))
set_option maxRecDepth 20000 in
theorem gL_preview_X3_preview : GoodIn wsL_preview (wsV RL 65 RX3 yX3_preview wsX3_preview) := goodIn_app (goodIn_of _ (by decide +kernel)) ggL_preview_X3_preview
theorem dL_preview_0 : decode cL_preview 0 = .ok (.aload 4, 2) := by decide +kernel
theorem dL_preview_2 : decode cL_preview 2 = .ok (.iconst 0, 1) := by decide +kernel
theorem dL_preview_3 : decode cL_preview 3 = .ok (.aload_n 0, 1) := by decide +kernel
theorem dL_preview_4 : decode cL_preview 4 = .ok (.iload_n 1, 1) := by decide +kernel
theorem dL_preview_5 : decode cL_preview 5 = .ok (.iload_n 2, 1) := by decide +kernel
theorem dL_preview_6 : decode cL_preview 6 = .ok (.iload_n 3, 1) := by decide +kernel
theorem dL_preview_7 : decode cL_preview 7 = .ok (.invokevirtual 65, 3) := by decide +kernel
theorem dL_preview_10 : decode cL_preview 10 = .ok (.i2l, 1) := by decide +kernel
theorem dL_preview_11 : decode cL_preview 11 = .ok (.lastore, 1) := by decide +kernel
theorem dL_preview_12 : decode cL_preview 12 = .ok (.goto 11, 3) := by decide +kernel
theorem dL_preview_15 : decode cL_preview 15 = .ok (.astore 5, 2) := by decide +kernel
theorem dL_preview_17 : decode cL_preview 17 = .ok (.iconst 1, 1) := by decide +kernel
theorem dL_preview_18 : decode cL_preview 18 = .ok (.ireturn, 1) := by decide +kernel
theorem dL_preview_19 : decode cL_preview 19 = .ok (.astore 5, 2) := by decide +kernel
theorem dL_preview_21 : decode cL_preview 21 = .ok (.iconst 2, 1) := by decide +kernel
theorem dL_preview_22 : decode cL_preview 22 = .ok (.ireturn, 1) := by decide +kernel
theorem dL_preview_23 : decode cL_preview 23 = .ok (.iconst 0, 1) := by decide +kernel
theorem dL_preview_24 : decode cL_preview 24 = .ok (.ireturn, 1) := by decide +kernel
set_option maxRecDepth 20000 in
theorem ggL_touched_X3_touched : GoodIn wsL_touched wsX3_touched := goodIn_ca (goodIn_ca (goodIn_r _ [7, 8, 9, 10, 11, 12, 13, 6, 14, 15, 16, 17, 18, 19, 20, 21, 22, 23, 24, 25, 26, 27, 28, 29, 30, 31, 32, 33, 34, 35, 36, 37, 38, 39, 40, 41, 42, 43, 44, 45, 46, 47, 48, 49, 50, 51, 52, 53, 54, 55, 56, 57, 58, 59, 60, 61, 62, 63, 64, 65, 66, 67, 68, 69, 70, 71, 72, 73, 74, 75, 76, 77, 78, 79, 80, 81, 82, 83, 84, 85, 86, 87, 88, 89, 90, 91, 92, 93, 94, 95, 96, 97, 98, 99, 100, 101, 102, 103, 104, 105, 106] (by decide +kernel) (by decide +kernel)) (goodIn_sub (fun _ h => List.mem_cons_of_mem _ (List.mem_append_left _ (List.mem_append_right _ h))) (by decide +kernel))) (goodIn_sub (fun _ h => List.mem_cons_of_mem _ (List.mem_append_right _ h)) (by decide +kernel))
set_option maxRecDepth 20000 in
theorem gL_touched_X3_touched : GoodIn wsL_touched (wsV RL 68 RX3 yX3_touched wsX3_touched) := goodIn_app (goodIn_of _ (by decide +kernel)) ggL_touched_X3_touched
theorem dL_touched_0 : decode cL_touched 0 = .ok (.aload 5, 2) := by decide +kernel
theorem dL_touched_2 : decode cL_touched 2 = .ok (.iconst 0, 1) := by decide +kernel
theorem dL_touched_3 : decode cL_touched 3 = .ok (.aload_n 0, 1) := by decide +kernel
theorem dL_touched_4 : decode cL_touched 4 = .ok (.iload_n 1, 1) := by decide +kernel
theorem dL_touched_5 : decode cL_touched 5 = .ok (.iload_n 2, 1) := by decide +kernel
theorem dL_touched_6 : decode cL_touched 6 = .ok (.iload_n 3, 1) := by decide +kernel
theorem dL_touched_7 : decode cL_touched 7 = .ok (.iload 4, 2) := by decide +kernel
theorem dL_touched_9 : decode cL_touched 9 = .ok (.invokevirtual 68, 3) := by decide +kernel
theorem dL_touched_12 : decode cL_touched 12 = .ok (.i2l, 1) := by decide +kernel
theorem dL_touched_13 : decode cL_touched 13 = .ok (.lastore, 1) := by decide +kernel
theorem dL_touched_14 : decode cL_touched 14 = .ok (.goto 11, 3) := by decide +kernel
theorem dL_touched_17 : decode cL_touched 17 = .ok (.astore 6, 2) := by decide +kernel
theorem dL_touched_19 : decode cL_touched 19 = .ok (.iconst 1, 1) := by decide +kernel
theorem dL_touched_20 : decode cL_touched 20 = .ok (.ireturn, 1) := by decide +kernel
theorem dL_touched_21 : decode cL_touched 21 = .ok (.astore 6, 2) := by decide +kernel
theorem dL_touched_23 : decode cL_touched 23 = .ok (.iconst 2, 1) := by decide +kernel
theorem dL_touched_24 : decode cL_touched 24 = .ok (.ireturn, 1) := by decide +kernel
theorem dL_touched_25 : decode cL_touched 25 = .ok (.iconst 0, 1) := by decide +kernel
theorem dL_touched_26 : decode cL_touched 26 = .ok (.ireturn, 1) := by decide +kernel
set_option maxRecDepth 20000 in
theorem ggL_law_X3_init : GoodIn wsL_law wsX3_init := goodIn_r _ [9, 10, 11, 12, 13, 14, 15, 16, 17, 18, 19, 20, 21, 22, 23, 24, 25, 26, 27, 28, 29, 30, 31, 32, 33, 34, 35, 36, 37, 38, 39, 40, 41, 42, 43, 44, 45, 46, 47, 48, 49, 50, 51, 52, 53, 54, 55, 56, 57, 58, 59, 588, 589, 590, 591, 558, 559, 560, 561, 562, 563, 564, 592, 593, 594, 595, 596, 597, 598, 599, 600, 601, 602, 603] (by decide +kernel) (by decide +kernel)
set_option maxRecDepth 20000 in
theorem gL_law_X3_init : GoodIn wsL_law (wsX3_init) := ggL_law_X3_init
set_option maxRecDepth 20000 in
theorem ggL_law_X4_init : GoodIn wsL_law wsX4_init := goodIn_r _ [62, 63, 11, 12, 28, 64, 65, 66, 67, 68, 69, 70, 71, 72, 73, 74, 75, 76, 77, 78, 79, 80, 81, 565, 566, 567, 568, 569, 570, 571, 572, 573, 574, 575, 576, 577, 578, 579, 580, 581, 582, 583, 584, 585, 586, 587] (by decide +kernel) (by decide +kernel)
set_option maxRecDepth 20000 in
theorem gL_law_X4_init : GoodIn wsL_law (wsX4_init) := ggL_law_X4_init
set_option maxRecDepth 20000 in
theorem ggL_law_L_addLamp : GoodIn wsL_law wsL_addLamp := goodIn_ca (goodIn_ca (goodIn_r _ [85, 86, 87, 88, 89, 90, 2, 91, 92, 93, 16, 94, 95, 96, 97, 98, 99, 100, 101, 15, 102, 103, 104, 105, 106, 107, 108, 109, 110, 111, 34, 35, 112, 113, 114, 115, 558, 559, 560, 561, 562, 563, 564, 588, 589, 590, 591] (by decide +kernel) (by decide +kernel)) (goodIn_sub (fun _ h => List.mem_append_left _ (List.mem_append_left _ (List.mem_append_right _ h))) (by decide +kernel))) (goodIn_sub (fun _ h => List.mem_append_left _ (List.mem_append_right _ h)) (by decide +kernel))
set_option maxRecDepth 20000 in
theorem gL_law_L_addLamp : GoodIn wsL_law (va_wsS RL 75 yL_addLamp wsL_addLamp) := goodIn_app (goodIn_of _ (by decide +kernel)) ggL_law_L_addLamp
set_option maxRecDepth 20000 in
theorem ggL_law_X4_addLamp : GoodIn wsL_law wsX4_addLamp := goodIn_r _ [119, 120, 121, 64, 65, 122, 123, 5, 124, 125, 126, 127, 565, 566, 567, 568, 569, 570, 571, 572, 573, 574, 575, 576, 577, 578, 579, 580, 581, 582, 583, 584, 585, 586, 587] (by decide +kernel) (by decide +kernel)
set_option maxRecDepth 20000 in
theorem gL_law_X4_addLamp : GoodIn wsL_law (wsV RL 80 RX4 yX4_addLamp wsX4_addLamp) := goodIn_app (goodIn_of _ (by decide +kernel)) ggL_law_X4_addLamp
set_option maxRecDepth 20000 in
theorem ggL_law_X4_thrown : GoodIn wsL_law wsX4_thrown := goodIn_r _ [131, 121, 565, 566, 567, 568, 569, 570, 571, 572, 573, 574, 575, 576, 577, 578, 579, 580, 581, 582, 583, 584, 585, 586, 587] (by decide +kernel) (by decide +kernel)
set_option maxRecDepth 20000 in
theorem gL_law_X4_thrown : GoodIn wsL_law (wsV RL 81 RX4 yX4_thrown wsX4_thrown) := goodIn_app (goodIn_of _ (by decide +kernel)) ggL_law_X4_thrown
set_option maxRecDepth 20000 in
theorem ggL_law_L_swap : GoodIn wsL_law wsL_swap := goodIn_ca (goodIn_ca (goodIn_r _ [134, 135, 86, 136, 137, 138, 2, 139, 25, 16, 140, 141, 142, 143, 144, 145, 146, 113, 114, 15, 115, 103, 94, 95, 96, 97, 98, 147, 148, 149, 150, 34, 112, 151, 152, 153, 154, 35, 155, 156, 157, 24, 158, 159, 160, 161, 162, 163, 164, 165, 166, 167, 168, 59, 169, 170, 171, 172, 109, 110, 111, 558, 559, 560, 561, 562, 563, 564, 588, 589, 590, 591, 601, 602, 603] (by decide +kernel) (by decide +kernel)) (goodIn_sub (fun _ h => List.mem_append_right _ h) (by decide +kernel))) (goodIn_sub (fun _ h => List.mem_append_left _ (List.mem_append_right _ h)) (by decide +kernel))
set_option maxRecDepth 20000 in
theorem gL_law_L_swap : GoodIn wsL_law (va_wsS RL 84 yL_swap wsL_swap) := goodIn_app (goodIn_of _ (by decide +kernel)) ggL_law_L_swap
set_option maxRecDepth 20000 in
theorem ggL_law_X4_swap : GoodIn wsL_law wsX4_swap := goodIn_r _ [176, 121, 64, 65, 177, 178, 179, 5, 180, 120, 125, 126, 127, 122, 123, 124, 181, 182, 183, 184, 185, 78, 79, 80, 81, 565, 566, 567, 568, 569, 570, 571, 572, 573, 574, 575, 576, 577, 578, 579, 580, 581, 582, 583, 584, 585, 586, 587] (by decide +kernel) (by decide +kernel)
set_option maxRecDepth 20000 in
theorem gL_law_X4_swap : GoodIn wsL_law (wsV RL 87 RX4 yX4_swap wsX4_swap) := goodIn_app (goodIn_of _ (by decide +kernel)) ggL_law_X4_swap
set_option maxRecDepth 20000 in
theorem ggL_law_L_hang : GoodIn wsL_law wsL_hang := goodIn_ca (goodIn_ca (goodIn_r _ [188, 135, 86, 189, 190, 191, 2, 192, 16, 25, 140, 141, 142, 143, 144, 145, 146, 113, 114, 15, 115, 103, 193, 194, 195, 97, 98, 196, 197, 198, 199, 200, 201, 202, 203, 204, 205, 206, 207, 208, 209, 210, 211, 37, 112, 155, 156, 157, 24, 158, 159, 160, 161, 162, 163, 164, 165, 166, 167, 168, 59, 169, 170, 171, 212, 213, 214, 215, 558, 559, 560, 561, 562, 563, 564, 588, 589, 590, 591, 601, 602, 603] (by decide +kernel) (by decide +kernel)) (goodIn_sub (fun _ h => List.mem_append_right _ h) (by decide +kernel))) (goodIn_sub (fun _ h => List.mem_append_left _ (List.mem_append_right _ h)) (by decide +kernel))
set_option maxRecDepth 20000 in
theorem gL_law_L_hang : GoodIn wsL_law (va_wsS RL 88 yL_hang wsL_hang) := goodIn_app (goodIn_of _ (by decide +kernel)) ggL_law_L_hang
set_option maxRecDepth 20000 in
theorem ggL_law_X4_hang : GoodIn wsL_law wsX4_hang := goodIn_r _ [219, 121, 66, 177, 178, 179, 5, 180, 120, 125, 126, 127, 220, 221, 222, 223, 224, 225, 181, 182, 183, 184, 185, 78, 79, 80, 81, 565, 566, 567, 568, 569, 570, 571, 572, 573, 574, 575, 576, 577, 578, 579, 580, 581, 582, 583, 584, 585, 586, 587] (by decide +kernel) (by decide +kernel)
set_option maxRecDepth 20000 in
theorem gL_law_X4_hang : GoodIn wsL_law (wsV RL 91 RX4 yX4_hang wsX4_hang) := goodIn_app (goodIn_of _ (by decide +kernel)) ggL_law_X4_hang
set_option maxRecDepth 20000 in
theorem ggL_law_L_setNight : GoodIn wsL_law wsL_setNight := goodIn_ca (goodIn_r _ [228, 86, 229, 230, 231, 2, 232, 233, 193, 194, 195, 97, 98, 196, 197, 198, 558, 559, 560, 561, 562, 563, 564] (by decide +kernel) (by decide +kernel)) (goodIn_sub (fun _ h => List.mem_append_left _ (List.mem_append_right _ h)) (by decide +kernel))
set_option maxRecDepth 20000 in
theorem gL_law_L_setNight : GoodIn wsL_law (va_wsS RL 92 yL_setNight wsL_setNight) := goodIn_app (goodIn_of _ (by decide +kernel)) ggL_law_L_setNight
set_option maxRecDepth 20000 in
theorem ggL_law_X4_setNight : GoodIn wsL_law wsX4_setNight := goodIn_r _ [237, 121, 238, 220, 221, 5, 222, 125, 126, 127, 565, 566, 567, 568, 569, 570, 571, 572, 573, 574, 575, 576, 577, 578, 579, 580, 581, 582, 583, 584, 585, 586, 587] (by decide +kernel) (by decide +kernel)
set_option maxRecDepth 20000 in
theorem gL_law_X4_setNight : GoodIn wsL_law (wsV RL 95 RX4 yX4_setNight wsX4_setNight) := goodIn_app (goodIn_of _ (by decide +kernel)) ggL_law_X4_setNight
set_option maxRecDepth 20000 in
theorem ggL_law_L_setLatest : GoodIn wsL_law wsL_setLatest := goodIn_ca (goodIn_r _ [241, 86, 242, 243, 244, 2, 245, 27, 202, 203, 204, 97, 98, 205, 206, 207, 558, 559, 560, 561, 562, 563, 564] (by decide +kernel) (by decide +kernel)) (goodIn_sub (fun _ h => List.mem_append_left _ (List.mem_append_right _ h)) (by decide +kernel))
set_option maxRecDepth 20000 in
theorem gL_law_L_setLatest : GoodIn wsL_law (va_wsS RL 96 yL_setLatest wsL_setLatest) := goodIn_app (goodIn_of _ (by decide +kernel)) ggL_law_L_setLatest
set_option maxRecDepth 20000 in
theorem ggL_law_X4_setLatest : GoodIn wsL_law wsX4_setLatest := goodIn_r _ [249, 121, 67, 223, 224, 5, 225, 125, 126, 127, 565, 566, 567, 568, 569, 570, 571, 572, 573, 574, 575, 576, 577, 578, 579, 580, 581, 582, 583, 584, 585, 586, 587] (by decide +kernel) (by decide +kernel)
set_option maxRecDepth 20000 in
theorem gL_law_X4_setLatest : GoodIn wsL_law (wsV RL 99 RX4 yX4_setLatest wsX4_setLatest) := goodIn_app (goodIn_of _ (by decide +kernel)) ggL_law_X4_setLatest
set_option maxRecDepth 20000 in
theorem ggL_law_L_addCue : GoodIn wsL_law wsL_addCue := goodIn_ca (goodIn_ca (goodIn_r _ [252, 86, 87, 253, 254, 255, 2, 256, 92, 93, 257, 258, 259, 97, 98, 260, 261, 262, 263, 264, 265, 266, 20, 21, 267, 268, 269, 19, 270, 271, 272, 273, 274, 275, 46, 47, 48, 558, 559, 560, 561, 562, 563, 564, 592, 593, 594, 595, 596, 597, 598, 599, 600] (by decide +kernel) (by decide +kernel)) (goodIn_sub (fun _ h => List.mem_append_left _ (List.mem_append_left _ (List.mem_append_right _ h))) (by decide +kernel))) (goodIn_sub (fun _ h => List.mem_append_left _ (List.mem_append_right _ h)) (by decide +kernel))
set_option maxRecDepth 20000 in
theorem gL_law_L_addCue : GoodIn wsL_law (va_wsS RL 100 yL_addCue wsL_addCue) := goodIn_app (goodIn_of _ (by decide +kernel)) ggL_law_L_addCue
set_option maxRecDepth 20000 in
theorem ggL_law_X4_addCue : GoodIn wsL_law wsX4_addCue := goodIn_r _ [279, 121, 69, 70, 71, 72, 280, 281, 5, 282, 125, 126, 127, 283, 284, 285, 286, 565, 566, 567, 568, 569, 570, 571, 572, 573, 574, 575, 576, 577, 578, 579, 580, 581, 582, 583, 584, 585, 586, 587] (by decide +kernel) (by decide +kernel)
set_option maxRecDepth 20000 in
theorem gL_law_X4_addCue : GoodIn wsL_law (wsV RL 103 RX4 yX4_addCue wsX4_addCue) := goodIn_app (goodIn_of _ (by decide +kernel)) ggL_law_X4_addCue
set_option maxRecDepth 20000 in
theorem ggL_law_L_setLevel : GoodIn wsL_law wsL_setLevel := goodIn_ca (goodIn_ca (goodIn_r _ [289, 86, 135, 290, 291, 292, 2, 293, 25, 257, 258, 259, 97, 98, 202, 203, 204, 205, 206, 207, 294, 295, 296, 297, 298, 299, 300, 144, 145, 263, 264, 265, 266, 20, 21, 301, 302, 303, 19, 304, 271, 305, 306, 307, 308, 50, 309, 155, 156, 157, 24, 158, 159, 160, 161, 162, 163, 164, 165, 166, 167, 168, 59, 169, 170, 171, 310, 311, 312, 313, 558, 559, 560, 561, 562, 563, 564, 592, 593, 594, 595, 596, 597, 598, 599, 600, 601, 602, 603] (by decide +kernel) (by decide +kernel)) (goodIn_sub (fun _ h => List.mem_append_left _ (List.mem_append_right _ h)) (by decide +kernel))) (goodIn_sub (fun _ h => List.mem_append_right _ h) (by decide +kernel))
set_option maxRecDepth 20000 in
theorem gL_law_L_setLevel : GoodIn wsL_law (va_wsS RL 104 yL_setLevel wsL_setLevel) := goodIn_app (goodIn_of _ (by decide +kernel)) ggL_law_L_setLevel
set_option maxRecDepth 20000 in
theorem ggL_law_X4_setLevel : GoodIn wsL_law wsX4_setLevel := goodIn_r _ [317, 69, 121, 73, 280, 281, 5, 282, 125, 126, 127, 223, 224, 225, 181, 182, 183, 184, 185, 78, 79, 80, 81, 565, 566, 567, 568, 569, 570, 571, 572, 573, 574, 575, 576, 577, 578, 579, 580, 581, 582, 583, 584, 585, 586, 587] (by decide +kernel) (by decide +kernel)
set_option maxRecDepth 20000 in
theorem gL_law_X4_setLevel : GoodIn wsL_law (wsV RL 107 RX4 yX4_setLevel wsX4_setLevel) := goodIn_app (goodIn_of _ (by decide +kernel)) ggL_law_X4_setLevel
set_option maxRecDepth 20000 in
theorem ggL_law_L_undo : GoodIn wsL_law wsL_undo := goodIn_ca (goodIn_r _ [320, 87, 321, 322, 323, 2, 324, 92, 93, 25, 325, 326, 327, 24, 328, 160, 329, 330, 331, 332, 16, 333, 334, 335, 336, 59, 337, 338, 339, 340, 159, 169, 170, 171, 172, 109, 110, 15, 111, 34, 35, 112, 113, 114, 115, 103, 212, 213, 214, 215, 37, 197, 198, 263, 264, 265, 266, 20, 21, 310, 311, 312, 19, 313, 50, 309, 302, 303, 304, 271, 206, 207, 341, 342, 343, 344, 345, 346, 163, 347, 348, 349, 350, 351, 558, 559, 560, 561, 562, 563, 564, 601, 602, 603, 588, 589, 590, 591, 592, 593, 594, 595, 596, 597, 598, 599, 600] (by decide +kernel) (by decide +kernel)) (goodIn_sub (fun _ h => List.mem_append_left _ (List.mem_append_left _ (List.mem_append_right _ h))) (by decide +kernel))
set_option maxRecDepth 20000 in
theorem gL_law_L_undo : GoodIn wsL_law (va_wsS RL 108 yL_undo wsL_undo) := goodIn_app (goodIn_of _ (by decide +kernel)) ggL_law_L_undo
set_option maxRecDepth 20000 in
theorem ggL_law_X4_undo : GoodIn wsL_law wsX4_undo := goodIn_r _ [355, 185, 121, 79, 78, 64, 80, 65, 81, 66, 73, 565, 566, 567, 568, 569, 570, 571, 572, 573, 574, 575, 576, 577, 578, 579, 580, 581, 582, 583, 584, 585, 586, 587] (by decide +kernel) (by decide +kernel)
set_option maxRecDepth 20000 in
theorem gL_law_X4_undo : GoodIn wsL_law (wsV RL 111 RX4 yX4_undo wsX4_undo) := goodIn_app (goodIn_of _ (by decide +kernel)) ggL_law_X4_undo
set_option maxRecDepth 20000 in
theorem ggL_law_L_go : GoodIn wsL_law wsL_go := goodIn_ca (goodIn_ca (goodIn_r _ [358, 86, 135, 359, 360, 361, 2, 362, 257, 258, 259, 97, 98, 297, 298, 299, 300, 144, 145, 263, 264, 265, 266, 20, 21, 301, 302, 303, 19, 304, 271, 363, 364, 365, 366, 367, 306, 307, 308, 50, 309, 206, 207, 368, 369, 370, 371, 372, 373, 374, 375, 51, 52, 53, 376, 377, 378, 379, 380, 47, 46, 381, 382, 383, 384, 29, 305, 385, 386, 387, 388, 389, 390, 391, 392, 48, 558, 559, 560, 561, 562, 563, 564, 592, 593, 594, 595, 596, 597, 598, 599, 600] (by decide +kernel) (by decide +kernel)) (goodIn_sub (fun _ h => List.mem_append_left _ (List.mem_append_right _ h)) (by decide +kernel))) (goodIn_sub (fun _ h => List.mem_append_right _ h) (by decide +kernel))
set_option maxRecDepth 20000 in
theorem gL_law_L_go : GoodIn wsL_law (va_wsS RL 112 yL_go wsL_go) := goodIn_app (goodIn_of _ (by decide +kernel)) ggL_law_L_go
set_option maxRecDepth 20000 in
theorem ggL_law_X4_go : GoodIn wsL_law wsX4_go := goodIn_r _ [396, 69, 121, 73, 280, 281, 5, 282, 125, 126, 127, 397, 398, 399, 400, 76, 77, 68, 74, 75, 401, 402, 403, 404, 405, 70, 71, 406, 407, 408, 409, 72, 565, 566, 567, 568, 569, 570, 571, 572, 573, 574, 575, 576, 577, 578, 579, 580, 581, 582, 583, 584, 585, 586, 587] (by decide +kernel) (by decide +kernel)
set_option maxRecDepth 20000 in
theorem gL_law_X4_go : GoodIn wsL_law (wsV RL 114 RX4 yX4_go wsX4_go) := goodIn_app (goodIn_of _ (by decide +kernel)) ggL_law_X4_go
set_option maxRecDepth 20000 in
theorem ggL_law_L_pass : GoodIn wsL_law wsL_pass := goodIn_ca (goodIn_r _ [412, 86, 413, 414, 415, 2, 416, 97, 98, 417, 418, 419, 420, 263, 264, 265, 266, 20, 21, 421, 422, 423, 19, 424, 376, 425, 386, 387, 388, 53, 46, 47, 309, 302, 303, 304, 271, 389, 390, 391, 392, 48, 368, 369, 370, 371, 372, 373, 374, 375, 51, 52, 377, 378, 379, 380, 206, 207, 367, 306, 307, 308, 50, 381, 382, 383, 384, 29, 305, 385, 558, 559, 560, 561, 562, 563, 564, 592, 593, 594, 595, 596, 597, 598, 599, 600] (by decide +kernel) (by decide +kernel)) (goodIn_sub (fun _ h => List.mem_append_left _ (List.mem_append_right _ h)) (by decide +kernel))
set_option maxRecDepth 20000 in
theorem gL_law_L_pass : GoodIn wsL_law (va_wsS RL 115 yL_pass wsL_pass) := goodIn_app (goodIn_of _ (by decide +kernel)) ggL_law_L_pass
set_option maxRecDepth 20000 in
theorem ggL_law_X4_pass : GoodIn wsL_law wsX4_pass := goodIn_r _ [429, 121, 401, 125, 126, 5, 127, 406, 407, 408, 409, 74, 75, 70, 71, 69, 72, 397, 398, 399, 400, 76, 77, 73, 68, 402, 403, 404, 405, 565, 566, 567, 568, 569, 570, 571, 572, 573, 574, 575, 576, 577, 578, 579, 580, 581, 582, 583, 584, 585, 586, 587] (by decide +kernel) (by decide +kernel)
set_option maxRecDepth 20000 in
theorem gL_law_X4_pass : GoodIn wsL_law (wsV RL 117 RX4 yX4_pass wsX4_pass) := goodIn_app (goodIn_of _ (by decide +kernel)) ggL_law_X4_pass
set_option maxRecDepth 20000 in
theorem ggL_law_L_running : GoodIn wsL_law wsL_running := goodIn_ca (goodIn_r _ [432, 86, 433, 434, 435, 2, 436, 257, 258, 259, 97, 98, 263, 264, 265, 266, 20, 21, 437, 438, 439, 19, 440, 53, 558, 559, 560, 561, 562, 563, 564, 592, 593, 594, 595, 596, 597, 598, 599, 600] (by decide +kernel) (by decide +kernel)) (goodIn_sub (fun _ h => List.mem_append_left _ (List.mem_append_right _ h)) (by decide +kernel))
set_option maxRecDepth 20000 in
theorem gL_law_L_running : GoodIn wsL_law (va_wsS RL 118 yL_running wsL_running) := goodIn_app (goodIn_of _ (by decide +kernel)) ggL_law_L_running
set_option maxRecDepth 20000 in
theorem ggL_law_X4_running : GoodIn wsL_law wsX4_running := goodIn_r _ [444, 121, 74, 280, 281, 5, 282, 125, 126, 127, 565, 566, 567, 568, 569, 570, 571, 572, 573, 574, 575, 576, 577, 578, 579, 580, 581, 582, 583, 584, 585, 586, 587] (by decide +kernel) (by decide +kernel)
set_option maxRecDepth 20000 in
theorem gL_law_X4_running : GoodIn wsL_law (wsV RL 120 RX4 yX4_running wsX4_running) := goodIn_app (goodIn_of _ (by decide +kernel)) ggL_law_X4_running
set_option maxRecDepth 20000 in
theorem ggL_law_L_level : GoodIn wsL_law wsL_level := goodIn_ca (goodIn_r _ [447, 86, 448, 449, 450, 2, 451, 257, 258, 259, 97, 98, 202, 203, 204, 205, 206, 207, 263, 264, 265, 266, 20, 21, 452, 378, 379, 19, 380, 53, 47, 376, 46, 51, 52, 309, 302, 303, 304, 271, 558, 559, 560, 561, 562, 563, 564, 592, 593, 594, 595, 596, 597, 598, 599, 600] (by decide +kernel) (by decide +kernel)) (goodIn_sub (fun _ h => List.mem_append_left _ (List.mem_append_right _ h)) (by decide +kernel))
set_option maxRecDepth 20000 in
theorem gL_law_L_level : GoodIn wsL_law (va_wsS RL 121 yL_level wsL_level) := goodIn_app (goodIn_of _ (by decide +kernel)) ggL_law_L_level
set_option maxRecDepth 20000 in
theorem ggL_law_X4_level : GoodIn wsL_law wsX4_level := goodIn_r _ [456, 121, 280, 281, 5, 282, 125, 126, 127, 223, 224, 225, 402, 403, 404, 405, 77, 76, 74, 401, 75, 70, 71, 565, 566, 567, 568, 569, 570, 571, 572, 573, 574, 575, 576, 577, 578, 579, 580, 581, 582, 583, 584, 585, 586, 587] (by decide +kernel) (by decide +kernel)
set_option maxRecDepth 20000 in
theorem gL_law_X4_level : GoodIn wsL_law (wsV RL 123 RX4 yX4_level wsX4_level) := goodIn_app (goodIn_of _ (by decide +kernel)) ggL_law_X4_level
set_option maxRecDepth 20000 in
theorem ggL_law_L_merged : GoodIn wsL_law wsL_merged := goodIn_ca (goodIn_r _ [459, 86, 460, 461, 462, 2, 463, 202, 203, 204, 97, 98, 205, 206, 207, 464, 465, 466, 467, 20, 21, 27, 29, 468, 346, 163, 347, 452, 378, 379, 19, 380, 53, 47, 376, 46, 51, 52, 309, 302, 303, 304, 271, 558, 559, 560, 561, 562, 563, 564, 592, 593, 594, 595, 596, 597, 598, 599, 600] (by decide +kernel) (by decide +kernel)) (goodIn_sub (fun _ h => List.mem_append_left _ (List.mem_append_right _ h)) (by decide +kernel))
set_option maxRecDepth 20000 in
theorem gL_law_L_merged : GoodIn wsL_law (va_wsS RL 124 yL_merged wsL_merged) := goodIn_app (goodIn_of _ (by decide +kernel)) ggL_law_L_merged
set_option maxRecDepth 20000 in
theorem ggL_law_X4_merged : GoodIn wsL_law wsX4_merged := goodIn_r _ [472, 121, 223, 224, 5, 225, 125, 126, 127, 473, 474, 475, 476, 67, 68, 402, 403, 404, 405, 77, 76, 74, 401, 75, 70, 71, 565, 566, 567, 568, 569, 570, 571, 572, 573, 574, 575, 576, 577, 578, 579, 580, 581, 582, 583, 584, 585, 586, 587] (by decide +kernel) (by decide +kernel)
set_option maxRecDepth 20000 in
theorem gL_law_X4_merged : GoodIn wsL_law (wsV RL 126 RX4 yX4_merged wsX4_merged) := goodIn_app (goodIn_of _ (by decide +kernel)) ggL_law_X4_merged
set_option maxRecDepth 20000 in
theorem ggL_law_L_light : GoodIn wsL_law wsL_light := goodIn_ca (goodIn_r _ [479, 86, 480, 481, 482, 2, 483, 16, 233, 202, 203, 204, 97, 98, 205, 206, 207, 464, 465, 466, 467, 20, 21, 27, 29, 468, 346, 163, 347, 452, 378, 379, 19, 380, 53, 47, 376, 46, 51, 52, 309, 302, 303, 304, 271, 484, 485, 486, 15, 487, 103, 488, 209, 210, 211, 37, 197, 198, 112, 113, 114, 115, 489, 490, 491, 492, 493, 148, 149, 150, 34, 494, 152, 153, 154, 35, 495, 496, 497, 558, 559, 560, 561, 562, 563, 564, 592, 593, 594, 595, 596, 597, 598, 599, 600, 588, 589, 590, 591] (by decide +kernel) (by decide +kernel)) (goodIn_sub (fun _ h => List.mem_append_left _ (List.mem_append_right _ h)) (by decide +kernel))
set_option maxRecDepth 20000 in
theorem gL_law_L_light : GoodIn wsL_law (va_wsS RL 127 yL_light wsL_light) := goodIn_app (goodIn_of _ (by decide +kernel)) ggL_law_L_light
set_option maxRecDepth 20000 in
theorem ggL_law_X4_light : GoodIn wsL_law wsX4_light := goodIn_r _ [501, 121, 238, 223, 224, 5, 225, 125, 126, 127, 473, 474, 475, 476, 67, 68, 402, 403, 404, 405, 77, 76, 74, 401, 75, 70, 71, 502, 503, 504, 505, 120, 66, 64, 65, 506, 507, 508, 565, 566, 567, 568, 569, 570, 571, 572, 573, 574, 575, 576, 577, 578, 579, 580, 581, 582, 583, 584, 585, 586, 587] (by decide +kernel) (by decide +kernel)
set_option maxRecDepth 20000 in
theorem gL_law_X4_light : GoodIn wsL_law (wsV RL 129 RX4 yX4_light wsX4_light) := goodIn_app (goodIn_of _ (by decide +kernel)) ggL_law_X4_light
set_option maxRecDepth 20000 in
theorem ggL_law_X3_allLight : GoodIn wsL_law wsX3_allLight := goodIn_r _ [512, 16, 233, 464, 465, 466, 2, 467, 20, 21, 27, 29, 468, 346, 163, 347, 452, 378, 379, 19, 380, 53, 47, 376, 46, 51, 52, 309, 302, 303, 304, 271, 206, 207, 205, 484, 485, 486, 15, 487, 103, 488, 209, 210, 211, 37, 197, 198, 112, 113, 114, 115, 489, 490, 491, 492, 493, 148, 149, 150, 34, 494, 152, 153, 154, 35, 495, 496, 497, 558, 559, 560, 561, 562, 563, 564, 592, 593, 594, 595, 596, 597, 598, 599, 600, 588, 589, 590, 591] (by decide +kernel) (by decide +kernel)
set_option maxRecDepth 20000 in
theorem gL_law_X3_allLight : GoodIn wsL_law (wsV RL 130 RX3 yX3_allLight wsX3_allLight) := goodIn_app (goodIn_of _ (by decide +kernel)) ggL_law_X3_allLight
set_option maxRecDepth 20000 in
theorem ggL_law_X4_allLight : GoodIn wsL_law wsX4_allLight := goodIn_r _ [516, 121, 238, 473, 474, 475, 5, 476, 67, 68, 402, 403, 404, 405, 77, 76, 74, 401, 75, 70, 71, 502, 503, 504, 505, 120, 66, 64, 65, 506, 507, 508, 565, 566, 567, 568, 569, 570, 571, 572, 573, 574, 575, 576, 577, 578, 579, 580, 581, 582, 583, 584, 585, 586, 587] (by decide +kernel) (by decide +kernel)
set_option maxRecDepth 20000 in
theorem gL_law_X4_allLight : GoodIn wsL_law (wsV RL 133 RX4 yX4_allLight wsX4_allLight) := goodIn_app (goodIn_of _ (by decide +kernel)) ggL_law_X4_allLight
set_option maxRecDepth 20000 in
theorem ggL_law_L_preview : GoodIn wsL_law wsL_preview := goodIn_ca (goodIn_ca (goodIn_r _ [519, 86, 135, 520, 521, 522, 2, 523, 16, 257, 258, 259, 97, 98, 193, 194, 195, 196, 197, 198, 297, 298, 299, 300, 144, 145, 263, 264, 265, 266, 20, 21, 301, 302, 303, 19, 304, 271, 524, 525, 526, 527, 528, 346, 163, 347, 367, 306, 307, 308, 50, 309, 206, 207, 484, 485, 486, 15, 487, 103, 488, 209, 210, 211, 37, 112, 113, 114, 115, 489, 490, 491, 492, 493, 148, 149, 150, 34, 494, 152, 153, 154, 35, 495, 496, 497, 558, 559, 560, 561, 562, 563, 564, 592, 593, 594, 595, 596, 597, 598, 599, 600, 588, 589, 590, 591] (by decide +kernel) (by decide +kernel)) (goodIn_sub (fun _ h => List.mem_append_left _ (List.mem_append_right _ h)) (by decide +kernel))) (goodIn_sub (fun _ h => List.mem_append_right _ h) (by decide +kernel))
set_option maxRecDepth 20000 in
theorem gL_law_L_preview : GoodIn wsL_law (va_wsS RL 134 yL_preview wsL_preview) := goodIn_app (goodIn_of _ (by decide +kernel)) ggL_law_L_preview
set_option maxRecDepth 20000 in
theorem ggL_law_X4_preview : GoodIn wsL_law wsX4_preview := goodIn_r _ [532, 69, 121, 280, 281, 5, 282, 125, 126, 127, 220, 221, 222, 533, 534, 535, 536, 73, 502, 503, 504, 505, 120, 66, 64, 65, 506, 507, 508, 565, 566, 567, 568, 569, 570, 571, 572, 573, 574, 575, 576, 577, 578, 579, 580, 581, 582, 583, 584, 585, 586, 587] (by decide +kernel) (by decide +kernel)
set_option maxRecDepth 20000 in
theorem gL_law_X4_preview : GoodIn wsL_law (wsV RL 136 RX4 yX4_preview wsX4_preview) := goodIn_app (goodIn_of _ (by decide +kernel)) ggL_law_X4_preview
set_option maxRecDepth 20000 in
theorem ggL_law_L_touched : GoodIn wsL_law wsL_touched := goodIn_ca (goodIn_ca (goodIn_r _ [539, 135, 86, 540, 541, 542, 2, 543, 16, 20, 21, 140, 141, 142, 143, 144, 145, 146, 113, 114, 15, 115, 103, 94, 95, 96, 97, 98, 193, 194, 195, 196, 197, 198, 208, 209, 210, 211, 37, 112, 544, 545, 546, 547, 548, 549, 550, 19, 551, 271, 524, 525, 526, 527, 528, 346, 163, 347, 367, 306, 307, 308, 50, 309, 302, 303, 304, 206, 207, 552, 490, 491, 492, 493, 148, 149, 150, 34, 494, 152, 153, 154, 35, 495, 496, 497, 553, 558, 559, 560, 561, 562, 563, 564, 588, 589, 590, 591, 592, 593, 594, 595, 596, 597, 598, 599, 600] (by decide +kernel) (by decide +kernel)) (goodIn_sub (fun _ h => List.mem_append_right _ h) (by decide +kernel))) (goodIn_sub (fun _ h => List.mem_append_left _ (List.mem_append_right _ h)) (by decide +kernel))
set_option maxRecDepth 20000 in
theorem gL_law_L_touched : GoodIn wsL_law (va_wsS RL 137 yL_touched wsL_touched) := goodIn_app (goodIn_of _ (by decide +kernel)) ggL_law_L_touched
set_option maxRecDepth 20000 in
theorem ggL_law_X4_touched : GoodIn wsL_law wsX4_touched := goodIn_r _ [557, 121, 66, 69, 73, 64, 65, 177, 178, 179, 5, 180, 120, 125, 126, 127, 122, 123, 124, 220, 221, 222, 506, 507, 508, 565, 566, 567, 568, 569, 570, 571, 572, 573, 574, 575, 576, 577, 578, 579, 580, 581, 582, 583, 584, 585, 586, 587] (by decide +kernel) (by decide +kernel)
set_option maxRecDepth 20000 in
theorem gL_law_X4_touched : GoodIn wsL_law (wsV RL 139 RX4 yX4_touched wsX4_touched) := goodIn_app (goodIn_of _ (by decide +kernel)) ggL_law_X4_touched
theorem dL_law_0 : decode cL_law 0 = .ok (.new 8, 3) := by decide +kernel
theorem dL_law_3 : decode cL_law 3 = .ok (.dup, 1) := by decide +kernel
theorem dL_law_4 : decode cL_law 4 = .ok (.invokespecial 71, 3) := by decide +kernel
theorem dL_law_7 : decode cL_law 7 = .ok (.astore_n 1, 1) := by decide +kernel
theorem dL_law_8 : decode cL_law 8 = .ok (.new 72, 3) := by decide +kernel
theorem dL_law_11 : decode cL_law 11 = .ok (.dup, 1) := by decide +kernel
theorem dL_law_12 : decode cL_law 12 = .ok (.invokespecial 74, 3) := by decide +kernel
theorem dL_law_15 : decode cL_law 15 = .ok (.astore_n 2, 1) := by decide +kernel
theorem dL_law_16 : decode cL_law 16 = .ok (.iconst 1, 1) := by decide +kernel
theorem dL_law_17 : decode cL_law 17 = .ok (.newarray .long, 2) := by decide +kernel
theorem dL_law_19 : decode cL_law 19 = .ok (.astore_n 3, 1) := by decide +kernel
theorem dL_law_20 : decode cL_law 20 = .ok (.iconst 0, 1) := by decide +kernel
theorem dL_law_21 : decode cL_law 21 = .ok (.istore 4, 2) := by decide +kernel
theorem dL_law_23 : decode cL_law 23 = .ok (.iload 4, 2) := by decide +kernel
theorem dL_law_25 : decode cL_law 25 = .ok (.aload_n 0, 1) := by decide +kernel
theorem dL_law_26 : decode cL_law 26 = .ok (.arraylength, 1) := by decide +kernel
theorem dL_law_27 : decode cL_law 27 = .ok (.iconst 5, 1) := by decide +kernel
theorem dL_law_28 : decode cL_law 28 = .ok (.isub, 1) := by decide +kernel
theorem dL_law_29 : decode cL_law 29 = .ok (.if_icmp .gt 1241, 3) := by decide +kernel
theorem dL_law_32 : decode cL_law 32 = .ok (.aload_n 0, 1) := by decide +kernel
theorem dL_law_33 : decode cL_law 33 = .ok (.iload 4, 2) := by decide +kernel
theorem dL_law_35 : decode cL_law 35 = .ok (.iaload, 1) := by decide +kernel
theorem dL_law_36 : decode cL_law 36 = .ok (.bipush 31, 2) := by decide +kernel
theorem dL_law_38 : decode cL_law 38 = .ok (.iand, 1) := by decide +kernel
theorem dL_law_39 : decode cL_law 39 = .ok (.tableswitch 1225 0 16 #[81, 149, 209, 289, 345, 436, 544, 636, 680, 748, 804, 860, 928, 984, 1040, 1053, 1133], 81) := by decide +kernel
theorem dL_law_120 : decode cL_law 120 = .ok (.aload_n 1, 1) := by decide +kernel
theorem dL_law_121 : decode cL_law 121 = .ok (.aload_n 0, 1) := by decide +kernel
theorem dL_law_122 : decode cL_law 122 = .ok (.iload 4, 2) := by decide +kernel
theorem dL_law_124 : decode cL_law 124 = .ok (.iconst 1, 1) := by decide +kernel
theorem dL_law_125 : decode cL_law 125 = .ok (.iadd, 1) := by decide +kernel
theorem dL_law_126 : decode cL_law 126 = .ok (.iaload, 1) := by decide +kernel
theorem dL_law_127 : decode cL_law 127 = .ok (.aload_n 0, 1) := by decide +kernel
theorem dL_law_128 : decode cL_law 128 = .ok (.iload 4, 2) := by decide +kernel
theorem dL_law_130 : decode cL_law 130 = .ok (.iconst 2, 1) := by decide +kernel
theorem dL_law_131 : decode cL_law 131 = .ok (.iadd, 1) := by decide +kernel
theorem dL_law_132 : decode cL_law 132 = .ok (.iaload, 1) := by decide +kernel
theorem dL_law_133 : decode cL_law 133 = .ok (.aload_n 3, 1) := by decide +kernel
theorem dL_law_134 : decode cL_law 134 = .ok (.invokestatic 75, 3) := by decide +kernel
theorem dL_law_137 : decode cL_law 137 = .ok (.istore 5, 2) := by decide +kernel
theorem dL_law_139 : decode cL_law 139 = .ok (.aload_n 2, 1) := by decide +kernel
theorem dL_law_140 : decode cL_law 140 = .ok (.aload_n 0, 1) := by decide +kernel
theorem dL_law_141 : decode cL_law 141 = .ok (.iload 4, 2) := by decide +kernel
theorem dL_law_143 : decode cL_law 143 = .ok (.iconst 1, 1) := by decide +kernel
theorem dL_law_144 : decode cL_law 144 = .ok (.iadd, 1) := by decide +kernel
theorem dL_law_145 : decode cL_law 145 = .ok (.iaload, 1) := by decide +kernel
theorem dL_law_146 : decode cL_law 146 = .ok (.aload_n 0, 1) := by decide +kernel
theorem dL_law_147 : decode cL_law 147 = .ok (.iload 4, 2) := by decide +kernel
theorem dL_law_149 : decode cL_law 149 = .ok (.iconst 2, 1) := by decide +kernel
theorem dL_law_150 : decode cL_law 150 = .ok (.iadd, 1) := by decide +kernel
theorem dL_law_151 : decode cL_law 151 = .ok (.iaload, 1) := by decide +kernel
theorem dL_law_152 : decode cL_law 152 = .ok (.invokevirtual 80, 3) := by decide +kernel
theorem dL_law_155 : decode cL_law 155 = .ok (.istore 6, 2) := by decide +kernel
theorem dL_law_157 : decode cL_law 157 = .ok (.aload_n 2, 1) := by decide +kernel
theorem dL_law_158 : decode cL_law 158 = .ok (.invokevirtual 81, 3) := by decide +kernel
theorem dL_law_161 : decode cL_law 161 = .ok (.iload 5, 2) := by decide +kernel
theorem dL_law_163 : decode cL_law 163 = .ok (.if_icmp .eq 5, 3) := by decide +kernel
theorem dL_law_166 : decode cL_law 166 = .ok (.iconst 0, 1) := by decide +kernel
theorem dL_law_167 : decode cL_law 167 = .ok (.ireturn, 1) := by decide +kernel
theorem dL_law_168 : decode cL_law 168 = .ok (.iload 5, 2) := by decide +kernel
theorem dL_law_170 : decode cL_law 170 = .ok (.ifCond .ne 15, 3) := by decide +kernel
theorem dL_law_173 : decode cL_law 173 = .ok (.aload_n 3, 1) := by decide +kernel
theorem dL_law_174 : decode cL_law 174 = .ok (.iconst 0, 1) := by decide +kernel
theorem dL_law_175 : decode cL_law 175 = .ok (.laload, 1) := by decide +kernel
theorem dL_law_176 : decode cL_law 176 = .ok (.iload 6, 2) := by decide +kernel
theorem dL_law_178 : decode cL_law 178 = .ok (.i2l, 1) := by decide +kernel
theorem dL_law_179 : decode cL_law 179 = .ok (.lcmp, 1) := by decide +kernel
theorem dL_law_180 : decode cL_law 180 = .ok (.ifCond .eq 5, 3) := by decide +kernel
theorem dL_law_183 : decode cL_law 183 = .ok (.iconst 0, 1) := by decide +kernel
theorem dL_law_184 : decode cL_law 184 = .ok (.ireturn, 1) := by decide +kernel
theorem dL_law_185 : decode cL_law 185 = .ok (.goto 1079, 3) := by decide +kernel
theorem dL_law_188 : decode cL_law 188 = .ok (.aload_n 1, 1) := by decide +kernel
theorem dL_law_189 : decode cL_law 189 = .ok (.aload_n 0, 1) := by decide +kernel
theorem dL_law_190 : decode cL_law 190 = .ok (.iload 4, 2) := by decide +kernel
theorem dL_law_192 : decode cL_law 192 = .ok (.iconst 1, 1) := by decide +kernel
theorem dL_law_193 : decode cL_law 193 = .ok (.iadd, 1) := by decide +kernel
theorem dL_law_194 : decode cL_law 194 = .ok (.iaload, 1) := by decide +kernel
theorem dL_law_195 : decode cL_law 195 = .ok (.aload_n 0, 1) := by decide +kernel
theorem dL_law_196 : decode cL_law 196 = .ok (.iload 4, 2) := by decide +kernel
theorem dL_law_198 : decode cL_law 198 = .ok (.iconst 2, 1) := by decide +kernel
theorem dL_law_199 : decode cL_law 199 = .ok (.iadd, 1) := by decide +kernel
theorem dL_law_200 : decode cL_law 200 = .ok (.iaload, 1) := by decide +kernel
theorem dL_law_201 : decode cL_law 201 = .ok (.aload_n 0, 1) := by decide +kernel
theorem dL_law_202 : decode cL_law 202 = .ok (.iload 4, 2) := by decide +kernel
theorem dL_law_204 : decode cL_law 204 = .ok (.iconst 3, 1) := by decide +kernel
theorem dL_law_205 : decode cL_law 205 = .ok (.iadd, 1) := by decide +kernel
theorem dL_law_206 : decode cL_law 206 = .ok (.iaload, 1) := by decide +kernel
theorem dL_law_207 : decode cL_law 207 = .ok (.invokestatic 84, 3) := by decide +kernel
theorem dL_law_210 : decode cL_law 210 = .ok (.istore 5, 2) := by decide +kernel
theorem dL_law_212 : decode cL_law 212 = .ok (.aload_n 2, 1) := by decide +kernel
theorem dL_law_213 : decode cL_law 213 = .ok (.aload_n 0, 1) := by decide +kernel
theorem dL_law_214 : decode cL_law 214 = .ok (.iload 4, 2) := by decide +kernel
theorem dL_law_216 : decode cL_law 216 = .ok (.iconst 1, 1) := by decide +kernel
theorem dL_law_217 : decode cL_law 217 = .ok (.iadd, 1) := by decide +kernel
theorem dL_law_218 : decode cL_law 218 = .ok (.iaload, 1) := by decide +kernel
theorem dL_law_219 : decode cL_law 219 = .ok (.aload_n 0, 1) := by decide +kernel
theorem dL_law_220 : decode cL_law 220 = .ok (.iload 4, 2) := by decide +kernel
theorem dL_law_222 : decode cL_law 222 = .ok (.iconst 2, 1) := by decide +kernel
theorem dL_law_223 : decode cL_law 223 = .ok (.iadd, 1) := by decide +kernel
theorem dL_law_224 : decode cL_law 224 = .ok (.iaload, 1) := by decide +kernel
theorem dL_law_225 : decode cL_law 225 = .ok (.aload_n 0, 1) := by decide +kernel
theorem dL_law_226 : decode cL_law 226 = .ok (.iload 4, 2) := by decide +kernel
theorem dL_law_228 : decode cL_law 228 = .ok (.iconst 3, 1) := by decide +kernel
theorem dL_law_229 : decode cL_law 229 = .ok (.iadd, 1) := by decide +kernel
theorem dL_law_230 : decode cL_law 230 = .ok (.iaload, 1) := by decide +kernel
theorem dL_law_231 : decode cL_law 231 = .ok (.invokevirtual 87, 3) := by decide +kernel
theorem dL_law_234 : decode cL_law 234 = .ok (.aload_n 2, 1) := by decide +kernel
theorem dL_law_235 : decode cL_law 235 = .ok (.invokevirtual 81, 3) := by decide +kernel
theorem dL_law_238 : decode cL_law 238 = .ok (.iload 5, 2) := by decide +kernel
theorem dL_law_240 : decode cL_law 240 = .ok (.if_icmp .eq 5, 3) := by decide +kernel
theorem dL_law_243 : decode cL_law 243 = .ok (.iconst 0, 1) := by decide +kernel
theorem dL_law_244 : decode cL_law 244 = .ok (.ireturn, 1) := by decide +kernel
theorem dL_law_245 : decode cL_law 245 = .ok (.goto 1019, 3) := by decide +kernel
theorem dL_law_248 : decode cL_law 248 = .ok (.aload_n 1, 1) := by decide +kernel
theorem dL_law_249 : decode cL_law 249 = .ok (.aload_n 0, 1) := by decide +kernel
theorem dL_law_250 : decode cL_law 250 = .ok (.iload 4, 2) := by decide +kernel
theorem dL_law_252 : decode cL_law 252 = .ok (.iconst 1, 1) := by decide +kernel
theorem dL_law_253 : decode cL_law 253 = .ok (.iadd, 1) := by decide +kernel
theorem dL_law_254 : decode cL_law 254 = .ok (.iaload, 1) := by decide +kernel
theorem dL_law_255 : decode cL_law 255 = .ok (.aload_n 0, 1) := by decide +kernel
theorem dL_law_256 : decode cL_law 256 = .ok (.iload 4, 2) := by decide +kernel
theorem dL_law_258 : decode cL_law 258 = .ok (.iconst 2, 1) := by decide +kernel
theorem dL_law_259 : decode cL_law 259 = .ok (.iadd, 1) := by decide +kernel
theorem dL_law_260 : decode cL_law 260 = .ok (.iaload, 1) := by decide +kernel
theorem dL_law_261 : decode cL_law 261 = .ok (.aload_n 0, 1) := by decide +kernel
theorem dL_law_262 : decode cL_law 262 = .ok (.iload 4, 2) := by decide +kernel
theorem dL_law_264 : decode cL_law 264 = .ok (.iconst 3, 1) := by decide +kernel
theorem dL_law_265 : decode cL_law 265 = .ok (.iadd, 1) := by decide +kernel
theorem dL_law_266 : decode cL_law 266 = .ok (.iaload, 1) := by decide +kernel
theorem dL_law_267 : decode cL_law 267 = .ok (.aload_n 3, 1) := by decide +kernel
theorem dL_law_268 : decode cL_law 268 = .ok (.invokestatic 88, 3) := by decide +kernel
theorem dL_law_271 : decode cL_law 271 = .ok (.istore 5, 2) := by decide +kernel
theorem dL_law_273 : decode cL_law 273 = .ok (.aload_n 2, 1) := by decide +kernel
theorem dL_law_274 : decode cL_law 274 = .ok (.aload_n 0, 1) := by decide +kernel
theorem dL_law_275 : decode cL_law 275 = .ok (.iload 4, 2) := by decide +kernel
theorem dL_law_277 : decode cL_law 277 = .ok (.iconst 1, 1) := by decide +kernel
theorem dL_law_278 : decode cL_law 278 = .ok (.iadd, 1) := by decide +kernel
theorem dL_law_279 : decode cL_law 279 = .ok (.iaload, 1) := by decide +kernel
theorem dL_law_280 : decode cL_law 280 = .ok (.aload_n 0, 1) := by decide +kernel
theorem dL_law_281 : decode cL_law 281 = .ok (.iload 4, 2) := by decide +kernel
theorem dL_law_283 : decode cL_law 283 = .ok (.iconst 2, 1) := by decide +kernel
theorem dL_law_284 : decode cL_law 284 = .ok (.iadd, 1) := by decide +kernel
theorem dL_law_285 : decode cL_law 285 = .ok (.iaload, 1) := by decide +kernel
theorem dL_law_286 : decode cL_law 286 = .ok (.aload_n 0, 1) := by decide +kernel
theorem dL_law_287 : decode cL_law 287 = .ok (.iload 4, 2) := by decide +kernel
theorem dL_law_289 : decode cL_law 289 = .ok (.iconst 3, 1) := by decide +kernel
theorem dL_law_290 : decode cL_law 290 = .ok (.iadd, 1) := by decide +kernel
theorem dL_law_291 : decode cL_law 291 = .ok (.iaload, 1) := by decide +kernel
theorem dL_law_292 : decode cL_law 292 = .ok (.invokevirtual 91, 3) := by decide +kernel
theorem dL_law_295 : decode cL_law 295 = .ok (.istore 6, 2) := by decide +kernel
theorem dL_law_297 : decode cL_law 297 = .ok (.aload_n 2, 1) := by decide +kernel
theorem dL_law_298 : decode cL_law 298 = .ok (.invokevirtual 81, 3) := by decide +kernel
theorem dL_law_301 : decode cL_law 301 = .ok (.iload 5, 2) := by decide +kernel
theorem dL_law_303 : decode cL_law 303 = .ok (.if_icmp .eq 5, 3) := by decide +kernel
theorem dL_law_306 : decode cL_law 306 = .ok (.iconst 0, 1) := by decide +kernel
theorem dL_law_307 : decode cL_law 307 = .ok (.ireturn, 1) := by decide +kernel
theorem dL_law_308 : decode cL_law 308 = .ok (.iload 5, 2) := by decide +kernel
theorem dL_law_310 : decode cL_law 310 = .ok (.ifCond .ne 15, 3) := by decide +kernel
theorem dL_law_313 : decode cL_law 313 = .ok (.aload_n 3, 1) := by decide +kernel
theorem dL_law_314 : decode cL_law 314 = .ok (.iconst 0, 1) := by decide +kernel
theorem dL_law_315 : decode cL_law 315 = .ok (.laload, 1) := by decide +kernel
theorem dL_law_316 : decode cL_law 316 = .ok (.iload 6, 2) := by decide +kernel
theorem dL_law_318 : decode cL_law 318 = .ok (.i2l, 1) := by decide +kernel
theorem dL_law_319 : decode cL_law 319 = .ok (.lcmp, 1) := by decide +kernel
theorem dL_law_320 : decode cL_law 320 = .ok (.ifCond .eq 5, 3) := by decide +kernel
theorem dL_law_323 : decode cL_law 323 = .ok (.iconst 0, 1) := by decide +kernel
theorem dL_law_324 : decode cL_law 324 = .ok (.ireturn, 1) := by decide +kernel
theorem dL_law_325 : decode cL_law 325 = .ok (.goto 939, 3) := by decide +kernel
theorem dL_law_328 : decode cL_law 328 = .ok (.aload_n 1, 1) := by decide +kernel
theorem dL_law_329 : decode cL_law 329 = .ok (.aload_n 0, 1) := by decide +kernel
theorem dL_law_330 : decode cL_law 330 = .ok (.iload 4, 2) := by decide +kernel
theorem dL_law_332 : decode cL_law 332 = .ok (.iconst 1, 1) := by decide +kernel
theorem dL_law_333 : decode cL_law 333 = .ok (.iadd, 1) := by decide +kernel
theorem dL_law_334 : decode cL_law 334 = .ok (.iaload, 1) := by decide +kernel
theorem dL_law_335 : decode cL_law 335 = .ok (.aload_n 3, 1) := by decide +kernel
theorem dL_law_336 : decode cL_law 336 = .ok (.invokestatic 92, 3) := by decide +kernel
theorem dL_law_339 : decode cL_law 339 = .ok (.istore 5, 2) := by decide +kernel
theorem dL_law_341 : decode cL_law 341 = .ok (.aload_n 2, 1) := by decide +kernel
theorem dL_law_342 : decode cL_law 342 = .ok (.aload_n 0, 1) := by decide +kernel
theorem dL_law_343 : decode cL_law 343 = .ok (.iload 4, 2) := by decide +kernel
theorem dL_law_345 : decode cL_law 345 = .ok (.iconst 1, 1) := by decide +kernel
theorem dL_law_346 : decode cL_law 346 = .ok (.iadd, 1) := by decide +kernel
theorem dL_law_347 : decode cL_law 347 = .ok (.iaload, 1) := by decide +kernel
theorem dL_law_348 : decode cL_law 348 = .ok (.invokevirtual 95, 3) := by decide +kernel
theorem dL_law_351 : decode cL_law 351 = .ok (.istore 6, 2) := by decide +kernel
theorem dL_law_353 : decode cL_law 353 = .ok (.aload_n 2, 1) := by decide +kernel
theorem dL_law_354 : decode cL_law 354 = .ok (.invokevirtual 81, 3) := by decide +kernel
theorem dL_law_357 : decode cL_law 357 = .ok (.iload 5, 2) := by decide +kernel
theorem dL_law_359 : decode cL_law 359 = .ok (.if_icmp .eq 5, 3) := by decide +kernel
theorem dL_law_362 : decode cL_law 362 = .ok (.iconst 0, 1) := by decide +kernel
theorem dL_law_363 : decode cL_law 363 = .ok (.ireturn, 1) := by decide +kernel
theorem dL_law_364 : decode cL_law 364 = .ok (.iload 5, 2) := by decide +kernel
theorem dL_law_366 : decode cL_law 366 = .ok (.ifCond .ne 15, 3) := by decide +kernel
theorem dL_law_369 : decode cL_law 369 = .ok (.aload_n 3, 1) := by decide +kernel
theorem dL_law_370 : decode cL_law 370 = .ok (.iconst 0, 1) := by decide +kernel
theorem dL_law_371 : decode cL_law 371 = .ok (.laload, 1) := by decide +kernel
theorem dL_law_372 : decode cL_law 372 = .ok (.iload 6, 2) := by decide +kernel
theorem dL_law_374 : decode cL_law 374 = .ok (.i2l, 1) := by decide +kernel
theorem dL_law_375 : decode cL_law 375 = .ok (.lcmp, 1) := by decide +kernel
theorem dL_law_376 : decode cL_law 376 = .ok (.ifCond .eq 5, 3) := by decide +kernel
theorem dL_law_379 : decode cL_law 379 = .ok (.iconst 0, 1) := by decide +kernel
theorem dL_law_380 : decode cL_law 380 = .ok (.ireturn, 1) := by decide +kernel
theorem dL_law_381 : decode cL_law 381 = .ok (.goto 883, 3) := by decide +kernel
theorem dL_law_384 : decode cL_law 384 = .ok (.aload_n 1, 1) := by decide +kernel
theorem dL_law_385 : decode cL_law 385 = .ok (.aload_n 0, 1) := by decide +kernel
theorem dL_law_386 : decode cL_law 386 = .ok (.iload 4, 2) := by decide +kernel
theorem dL_law_388 : decode cL_law 388 = .ok (.iconst 1, 1) := by decide +kernel
theorem dL_law_389 : decode cL_law 389 = .ok (.iadd, 1) := by decide +kernel
theorem dL_law_390 : decode cL_law 390 = .ok (.iaload, 1) := by decide +kernel
theorem dL_law_391 : decode cL_law 391 = .ok (.aload_n 0, 1) := by decide +kernel
theorem dL_law_392 : decode cL_law 392 = .ok (.iload 4, 2) := by decide +kernel
theorem dL_law_394 : decode cL_law 394 = .ok (.iconst 2, 1) := by decide +kernel
theorem dL_law_395 : decode cL_law 395 = .ok (.iadd, 1) := by decide +kernel
theorem dL_law_396 : decode cL_law 396 = .ok (.iaload, 1) := by decide +kernel
theorem dL_law_397 : decode cL_law 397 = .ok (.ifCond .eq 7, 3) := by decide +kernel
theorem dL_law_400 : decode cL_law 400 = .ok (.iconst 1, 1) := by decide +kernel
theorem dL_law_401 : decode cL_law 401 = .ok (.goto 4, 3) := by decide +kernel
theorem dL_law_404 : decode cL_law 404 = .ok (.iconst 0, 1) := by decide +kernel
theorem dL_law_405 : decode cL_law 405 = .ok (.aload_n 3, 1) := by decide +kernel
theorem dL_law_406 : decode cL_law 406 = .ok (.invokestatic 96, 3) := by decide +kernel
theorem dL_law_409 : decode cL_law 409 = .ok (.istore 5, 2) := by decide +kernel
theorem dL_law_411 : decode cL_law 411 = .ok (.aload_n 2, 1) := by decide +kernel
theorem dL_law_412 : decode cL_law 412 = .ok (.aload_n 0, 1) := by decide +kernel
theorem dL_law_413 : decode cL_law 413 = .ok (.iload 4, 2) := by decide +kernel
theorem dL_law_415 : decode cL_law 415 = .ok (.iconst 1, 1) := by decide +kernel
theorem dL_law_416 : decode cL_law 416 = .ok (.iadd, 1) := by decide +kernel
theorem dL_law_417 : decode cL_law 417 = .ok (.iaload, 1) := by decide +kernel
theorem dL_law_418 : decode cL_law 418 = .ok (.aload_n 0, 1) := by decide +kernel
theorem dL_law_419 : decode cL_law 419 = .ok (.iload 4, 2) := by decide +kernel
theorem dL_law_421 : decode cL_law 421 = .ok (.iconst 2, 1) := by decide +kernel
theorem dL_law_422 : decode cL_law 422 = .ok (.iadd, 1) := by decide +kernel
theorem dL_law_423 : decode cL_law 423 = .ok (.iaload, 1) := by decide +kernel
theorem dL_law_424 : decode cL_law 424 = .ok (.ifCond .eq 7, 3) := by decide +kernel
theorem dL_law_427 : decode cL_law 427 = .ok (.iconst 1, 1) := by decide +kernel
theorem dL_law_428 : decode cL_law 428 = .ok (.goto 4, 3) := by decide +kernel
theorem dL_law_431 : decode cL_law 431 = .ok (.iconst 0, 1) := by decide +kernel
theorem dL_law_432 : decode cL_law 432 = .ok (.invokevirtual 99, 3) := by decide +kernel
theorem dL_law_435 : decode cL_law 435 = .ok (.istore 6, 2) := by decide +kernel
theorem dL_law_437 : decode cL_law 437 = .ok (.aload_n 2, 1) := by decide +kernel
theorem dL_law_438 : decode cL_law 438 = .ok (.invokevirtual 81, 3) := by decide +kernel
theorem dL_law_441 : decode cL_law 441 = .ok (.iload 5, 2) := by decide +kernel
theorem dL_law_443 : decode cL_law 443 = .ok (.if_icmp .eq 5, 3) := by decide +kernel
theorem dL_law_446 : decode cL_law 446 = .ok (.iconst 0, 1) := by decide +kernel
theorem dL_law_447 : decode cL_law 447 = .ok (.ireturn, 1) := by decide +kernel
theorem dL_law_448 : decode cL_law 448 = .ok (.iload 5, 2) := by decide +kernel
theorem dL_law_450 : decode cL_law 450 = .ok (.ifCond .ne 22, 3) := by decide +kernel
theorem dL_law_453 : decode cL_law 453 = .ok (.aload_n 3, 1) := by decide +kernel
theorem dL_law_454 : decode cL_law 454 = .ok (.iconst 0, 1) := by decide +kernel
theorem dL_law_455 : decode cL_law 455 = .ok (.laload, 1) := by decide +kernel
theorem dL_law_456 : decode cL_law 456 = .ok (.iload 6, 2) := by decide +kernel
theorem dL_law_458 : decode cL_law 458 = .ok (.ifCond .eq 7, 3) := by decide +kernel
theorem dL_law_461 : decode cL_law 461 = .ok (.lconst 1, 1) := by decide +kernel
theorem dL_law_462 : decode cL_law 462 = .ok (.goto 4, 3) := by decide +kernel
theorem dL_law_465 : decode cL_law 465 = .ok (.lconst 0, 1) := by decide +kernel
theorem dL_law_466 : decode cL_law 466 = .ok (.lcmp, 1) := by decide +kernel
theorem dL_law_467 : decode cL_law 467 = .ok (.ifCond .eq 5, 3) := by decide +kernel
theorem dL_law_470 : decode cL_law 470 = .ok (.iconst 0, 1) := by decide +kernel
theorem dL_law_471 : decode cL_law 471 = .ok (.ireturn, 1) := by decide +kernel
theorem dL_law_472 : decode cL_law 472 = .ok (.goto 792, 3) := by decide +kernel
theorem dL_law_475 : decode cL_law 475 = .ok (.aload_n 1, 1) := by decide +kernel
theorem dL_law_476 : decode cL_law 476 = .ok (.aload_n 0, 1) := by decide +kernel
theorem dL_law_477 : decode cL_law 477 = .ok (.iload 4, 2) := by decide +kernel
theorem dL_law_479 : decode cL_law 479 = .ok (.iconst 1, 1) := by decide +kernel
theorem dL_law_480 : decode cL_law 480 = .ok (.iadd, 1) := by decide +kernel
theorem dL_law_481 : decode cL_law 481 = .ok (.iaload, 1) := by decide +kernel
theorem dL_law_482 : decode cL_law 482 = .ok (.aload_n 0, 1) := by decide +kernel
theorem dL_law_483 : decode cL_law 483 = .ok (.iload 4, 2) := by decide +kernel
theorem dL_law_485 : decode cL_law 485 = .ok (.iconst 2, 1) := by decide +kernel
theorem dL_law_486 : decode cL_law 486 = .ok (.iadd, 1) := by decide +kernel
theorem dL_law_487 : decode cL_law 487 = .ok (.iaload, 1) := by decide +kernel
theorem dL_law_488 : decode cL_law 488 = .ok (.aload_n 0, 1) := by decide +kernel
theorem dL_law_489 : decode cL_law 489 = .ok (.iload 4, 2) := by decide +kernel
theorem dL_law_491 : decode cL_law 491 = .ok (.iconst 3, 1) := by decide +kernel
theorem dL_law_492 : decode cL_law 492 = .ok (.iadd, 1) := by decide +kernel
theorem dL_law_493 : decode cL_law 493 = .ok (.iaload, 1) := by decide +kernel
theorem dL_law_494 : decode cL_law 494 = .ok (.aload_n 0, 1) := by decide +kernel
theorem dL_law_495 : decode cL_law 495 = .ok (.iload 4, 2) := by decide +kernel
theorem dL_law_497 : decode cL_law 497 = .ok (.iconst 4, 1) := by decide +kernel
theorem dL_law_498 : decode cL_law 498 = .ok (.iadd, 1) := by decide +kernel
theorem dL_law_499 : decode cL_law 499 = .ok (.iaload, 1) := by decide +kernel
theorem dL_law_500 : decode cL_law 500 = .ok (.ifCond .eq 7, 3) := by decide +kernel
theorem dL_law_503 : decode cL_law 503 = .ok (.iconst 1, 1) := by decide +kernel
theorem dL_law_504 : decode cL_law 504 = .ok (.goto 4, 3) := by decide +kernel
theorem dL_law_507 : decode cL_law 507 = .ok (.iconst 0, 1) := by decide +kernel
theorem dL_law_508 : decode cL_law 508 = .ok (.aload_n 3, 1) := by decide +kernel
theorem dL_law_509 : decode cL_law 509 = .ok (.invokestatic 100, 3) := by decide +kernel
theorem dL_law_512 : decode cL_law 512 = .ok (.istore 5, 2) := by decide +kernel
theorem dL_law_514 : decode cL_law 514 = .ok (.aload_n 2, 1) := by decide +kernel
theorem dL_law_515 : decode cL_law 515 = .ok (.aload_n 0, 1) := by decide +kernel
theorem dL_law_516 : decode cL_law 516 = .ok (.iload 4, 2) := by decide +kernel
theorem dL_law_518 : decode cL_law 518 = .ok (.iconst 1, 1) := by decide +kernel
theorem dL_law_519 : decode cL_law 519 = .ok (.iadd, 1) := by decide +kernel
theorem dL_law_520 : decode cL_law 520 = .ok (.iaload, 1) := by decide +kernel
theorem dL_law_521 : decode cL_law 521 = .ok (.aload_n 0, 1) := by decide +kernel
theorem dL_law_522 : decode cL_law 522 = .ok (.iload 4, 2) := by decide +kernel
theorem dL_law_524 : decode cL_law 524 = .ok (.iconst 2, 1) := by decide +kernel
theorem dL_law_525 : decode cL_law 525 = .ok (.iadd, 1) := by decide +kernel
theorem dL_law_526 : decode cL_law 526 = .ok (.iaload, 1) := by decide +kernel
theorem dL_law_527 : decode cL_law 527 = .ok (.aload_n 0, 1) := by decide +kernel
theorem dL_law_528 : decode cL_law 528 = .ok (.iload 4, 2) := by decide +kernel
theorem dL_law_530 : decode cL_law 530 = .ok (.iconst 3, 1) := by decide +kernel
theorem dL_law_531 : decode cL_law 531 = .ok (.iadd, 1) := by decide +kernel
theorem dL_law_532 : decode cL_law 532 = .ok (.iaload, 1) := by decide +kernel
theorem dL_law_533 : decode cL_law 533 = .ok (.aload_n 0, 1) := by decide +kernel
theorem dL_law_534 : decode cL_law 534 = .ok (.iload 4, 2) := by decide +kernel
theorem dL_law_536 : decode cL_law 536 = .ok (.iconst 4, 1) := by decide +kernel
theorem dL_law_537 : decode cL_law 537 = .ok (.iadd, 1) := by decide +kernel
theorem dL_law_538 : decode cL_law 538 = .ok (.iaload, 1) := by decide +kernel
theorem dL_law_539 : decode cL_law 539 = .ok (.ifCond .eq 7, 3) := by decide +kernel
theorem dL_law_542 : decode cL_law 542 = .ok (.iconst 1, 1) := by decide +kernel
theorem dL_law_543 : decode cL_law 543 = .ok (.goto 4, 3) := by decide +kernel
theorem dL_law_546 : decode cL_law 546 = .ok (.iconst 0, 1) := by decide +kernel
theorem dL_law_547 : decode cL_law 547 = .ok (.invokevirtual 103, 3) := by decide +kernel
theorem dL_law_550 : decode cL_law 550 = .ok (.istore 6, 2) := by decide +kernel
theorem dL_law_552 : decode cL_law 552 = .ok (.aload_n 2, 1) := by decide +kernel
theorem dL_law_553 : decode cL_law 553 = .ok (.invokevirtual 81, 3) := by decide +kernel
theorem dL_law_556 : decode cL_law 556 = .ok (.iload 5, 2) := by decide +kernel
theorem dL_law_558 : decode cL_law 558 = .ok (.if_icmp .eq 5, 3) := by decide +kernel
theorem dL_law_561 : decode cL_law 561 = .ok (.iconst 0, 1) := by decide +kernel
theorem dL_law_562 : decode cL_law 562 = .ok (.ireturn, 1) := by decide +kernel
theorem dL_law_563 : decode cL_law 563 = .ok (.iload 5, 2) := by decide +kernel
theorem dL_law_565 : decode cL_law 565 = .ok (.ifCond .ne 15, 3) := by decide +kernel
theorem dL_law_568 : decode cL_law 568 = .ok (.aload_n 3, 1) := by decide +kernel
theorem dL_law_569 : decode cL_law 569 = .ok (.iconst 0, 1) := by decide +kernel
theorem dL_law_570 : decode cL_law 570 = .ok (.laload, 1) := by decide +kernel
theorem dL_law_571 : decode cL_law 571 = .ok (.iload 6, 2) := by decide +kernel
theorem dL_law_573 : decode cL_law 573 = .ok (.i2l, 1) := by decide +kernel
theorem dL_law_574 : decode cL_law 574 = .ok (.lcmp, 1) := by decide +kernel
theorem dL_law_575 : decode cL_law 575 = .ok (.ifCond .eq 5, 3) := by decide +kernel
theorem dL_law_578 : decode cL_law 578 = .ok (.iconst 0, 1) := by decide +kernel
theorem dL_law_579 : decode cL_law 579 = .ok (.ireturn, 1) := by decide +kernel
theorem dL_law_580 : decode cL_law 580 = .ok (.goto 684, 3) := by decide +kernel
theorem dL_law_583 : decode cL_law 583 = .ok (.aload_n 1, 1) := by decide +kernel
theorem dL_law_584 : decode cL_law 584 = .ok (.aload_n 0, 1) := by decide +kernel
theorem dL_law_585 : decode cL_law 585 = .ok (.iload 4, 2) := by decide +kernel
theorem dL_law_587 : decode cL_law 587 = .ok (.iconst 1, 1) := by decide +kernel
theorem dL_law_588 : decode cL_law 588 = .ok (.iadd, 1) := by decide +kernel
theorem dL_law_589 : decode cL_law 589 = .ok (.iaload, 1) := by decide +kernel
theorem dL_law_590 : decode cL_law 590 = .ok (.aload_n 0, 1) := by decide +kernel
theorem dL_law_591 : decode cL_law 591 = .ok (.iload 4, 2) := by decide +kernel
theorem dL_law_593 : decode cL_law 593 = .ok (.iconst 2, 1) := by decide +kernel
theorem dL_law_594 : decode cL_law 594 = .ok (.iadd, 1) := by decide +kernel
theorem dL_law_595 : decode cL_law 595 = .ok (.iaload, 1) := by decide +kernel
theorem dL_law_596 : decode cL_law 596 = .ok (.aload_n 0, 1) := by decide +kernel
theorem dL_law_597 : decode cL_law 597 = .ok (.iload 4, 2) := by decide +kernel
theorem dL_law_599 : decode cL_law 599 = .ok (.iconst 3, 1) := by decide +kernel
theorem dL_law_600 : decode cL_law 600 = .ok (.iadd, 1) := by decide +kernel
theorem dL_law_601 : decode cL_law 601 = .ok (.iaload, 1) := by decide +kernel
theorem dL_law_602 : decode cL_law 602 = .ok (.aload_n 0, 1) := by decide +kernel
theorem dL_law_603 : decode cL_law 603 = .ok (.iload 4, 2) := by decide +kernel
theorem dL_law_605 : decode cL_law 605 = .ok (.iconst 4, 1) := by decide +kernel
theorem dL_law_606 : decode cL_law 606 = .ok (.iadd, 1) := by decide +kernel
theorem dL_law_607 : decode cL_law 607 = .ok (.iaload, 1) := by decide +kernel
theorem dL_law_608 : decode cL_law 608 = .ok (.aload_n 3, 1) := by decide +kernel
theorem dL_law_609 : decode cL_law 609 = .ok (.invokestatic 104, 3) := by decide +kernel
theorem dL_law_612 : decode cL_law 612 = .ok (.istore 5, 2) := by decide +kernel
theorem dL_law_614 : decode cL_law 614 = .ok (.aload_n 2, 1) := by decide +kernel
theorem dL_law_615 : decode cL_law 615 = .ok (.aload_n 0, 1) := by decide +kernel
theorem dL_law_616 : decode cL_law 616 = .ok (.iload 4, 2) := by decide +kernel
theorem dL_law_618 : decode cL_law 618 = .ok (.iconst 1, 1) := by decide +kernel
theorem dL_law_619 : decode cL_law 619 = .ok (.iadd, 1) := by decide +kernel
theorem dL_law_620 : decode cL_law 620 = .ok (.iaload, 1) := by decide +kernel
theorem dL_law_621 : decode cL_law 621 = .ok (.aload_n 0, 1) := by decide +kernel
theorem dL_law_622 : decode cL_law 622 = .ok (.iload 4, 2) := by decide +kernel
theorem dL_law_624 : decode cL_law 624 = .ok (.iconst 2, 1) := by decide +kernel
theorem dL_law_625 : decode cL_law 625 = .ok (.iadd, 1) := by decide +kernel
theorem dL_law_626 : decode cL_law 626 = .ok (.iaload, 1) := by decide +kernel
theorem dL_law_627 : decode cL_law 627 = .ok (.aload_n 0, 1) := by decide +kernel
theorem dL_law_628 : decode cL_law 628 = .ok (.iload 4, 2) := by decide +kernel
theorem dL_law_630 : decode cL_law 630 = .ok (.iconst 3, 1) := by decide +kernel
theorem dL_law_631 : decode cL_law 631 = .ok (.iadd, 1) := by decide +kernel
theorem dL_law_632 : decode cL_law 632 = .ok (.iaload, 1) := by decide +kernel
theorem dL_law_633 : decode cL_law 633 = .ok (.aload_n 0, 1) := by decide +kernel
theorem dL_law_634 : decode cL_law 634 = .ok (.iload 4, 2) := by decide +kernel
theorem dL_law_636 : decode cL_law 636 = .ok (.iconst 4, 1) := by decide +kernel
theorem dL_law_637 : decode cL_law 637 = .ok (.iadd, 1) := by decide +kernel
theorem dL_law_638 : decode cL_law 638 = .ok (.iaload, 1) := by decide +kernel
theorem dL_law_639 : decode cL_law 639 = .ok (.invokevirtual 107, 3) := by decide +kernel
theorem dL_law_642 : decode cL_law 642 = .ok (.istore 6, 2) := by decide +kernel
theorem dL_law_644 : decode cL_law 644 = .ok (.aload_n 2, 1) := by decide +kernel
theorem dL_law_645 : decode cL_law 645 = .ok (.invokevirtual 81, 3) := by decide +kernel
theorem dL_law_648 : decode cL_law 648 = .ok (.iload 5, 2) := by decide +kernel
theorem dL_law_650 : decode cL_law 650 = .ok (.if_icmp .eq 5, 3) := by decide +kernel
theorem dL_law_653 : decode cL_law 653 = .ok (.iconst 0, 1) := by decide +kernel
theorem dL_law_654 : decode cL_law 654 = .ok (.ireturn, 1) := by decide +kernel
theorem dL_law_655 : decode cL_law 655 = .ok (.iload 5, 2) := by decide +kernel
theorem dL_law_657 : decode cL_law 657 = .ok (.ifCond .ne 15, 3) := by decide +kernel
theorem dL_law_660 : decode cL_law 660 = .ok (.aload_n 3, 1) := by decide +kernel
theorem dL_law_661 : decode cL_law 661 = .ok (.iconst 0, 1) := by decide +kernel
theorem dL_law_662 : decode cL_law 662 = .ok (.laload, 1) := by decide +kernel
theorem dL_law_663 : decode cL_law 663 = .ok (.iload 6, 2) := by decide +kernel
theorem dL_law_665 : decode cL_law 665 = .ok (.i2l, 1) := by decide +kernel
theorem dL_law_666 : decode cL_law 666 = .ok (.lcmp, 1) := by decide +kernel
theorem dL_law_667 : decode cL_law 667 = .ok (.ifCond .eq 5, 3) := by decide +kernel
theorem dL_law_670 : decode cL_law 670 = .ok (.iconst 0, 1) := by decide +kernel
theorem dL_law_671 : decode cL_law 671 = .ok (.ireturn, 1) := by decide +kernel
theorem dL_law_672 : decode cL_law 672 = .ok (.goto 592, 3) := by decide +kernel
theorem dL_law_675 : decode cL_law 675 = .ok (.aload_n 1, 1) := by decide +kernel
theorem dL_law_676 : decode cL_law 676 = .ok (.aload_n 3, 1) := by decide +kernel
theorem dL_law_677 : decode cL_law 677 = .ok (.invokestatic 108, 3) := by decide +kernel
theorem dL_law_680 : decode cL_law 680 = .ok (.istore 5, 2) := by decide +kernel
theorem dL_law_682 : decode cL_law 682 = .ok (.aload_n 2, 1) := by decide +kernel
theorem dL_law_683 : decode cL_law 683 = .ok (.invokevirtual 111, 3) := by decide +kernel
theorem dL_law_686 : decode cL_law 686 = .ok (.istore 6, 2) := by decide +kernel
theorem dL_law_688 : decode cL_law 688 = .ok (.aload_n 2, 1) := by decide +kernel
theorem dL_law_689 : decode cL_law 689 = .ok (.invokevirtual 81, 3) := by decide +kernel
theorem dL_law_692 : decode cL_law 692 = .ok (.iload 5, 2) := by decide +kernel
theorem dL_law_694 : decode cL_law 694 = .ok (.if_icmp .eq 5, 3) := by decide +kernel
theorem dL_law_697 : decode cL_law 697 = .ok (.iconst 0, 1) := by decide +kernel
theorem dL_law_698 : decode cL_law 698 = .ok (.ireturn, 1) := by decide +kernel
theorem dL_law_699 : decode cL_law 699 = .ok (.iload 5, 2) := by decide +kernel
theorem dL_law_701 : decode cL_law 701 = .ok (.ifCond .ne 15, 3) := by decide +kernel
theorem dL_law_704 : decode cL_law 704 = .ok (.aload_n 3, 1) := by decide +kernel
theorem dL_law_705 : decode cL_law 705 = .ok (.iconst 0, 1) := by decide +kernel
theorem dL_law_706 : decode cL_law 706 = .ok (.laload, 1) := by decide +kernel
theorem dL_law_707 : decode cL_law 707 = .ok (.iload 6, 2) := by decide +kernel
theorem dL_law_709 : decode cL_law 709 = .ok (.i2l, 1) := by decide +kernel
theorem dL_law_710 : decode cL_law 710 = .ok (.lcmp, 1) := by decide +kernel
theorem dL_law_711 : decode cL_law 711 = .ok (.ifCond .eq 5, 3) := by decide +kernel
theorem dL_law_714 : decode cL_law 714 = .ok (.iconst 0, 1) := by decide +kernel
theorem dL_law_715 : decode cL_law 715 = .ok (.ireturn, 1) := by decide +kernel
theorem dL_law_716 : decode cL_law 716 = .ok (.goto 548, 3) := by decide +kernel
theorem dL_law_719 : decode cL_law 719 = .ok (.aload_n 1, 1) := by decide +kernel
theorem dL_law_720 : decode cL_law 720 = .ok (.aload_n 0, 1) := by decide +kernel
theorem dL_law_721 : decode cL_law 721 = .ok (.iload 4, 2) := by decide +kernel
theorem dL_law_723 : decode cL_law 723 = .ok (.iconst 1, 1) := by decide +kernel
theorem dL_law_724 : decode cL_law 724 = .ok (.iadd, 1) := by decide +kernel
theorem dL_law_725 : decode cL_law 725 = .ok (.iaload, 1) := by decide +kernel
theorem dL_law_726 : decode cL_law 726 = .ok (.aload_n 0, 1) := by decide +kernel
theorem dL_law_727 : decode cL_law 727 = .ok (.iload 4, 2) := by decide +kernel
theorem dL_law_729 : decode cL_law 729 = .ok (.iconst 2, 1) := by decide +kernel
theorem dL_law_730 : decode cL_law 730 = .ok (.iadd, 1) := by decide +kernel
theorem dL_law_731 : decode cL_law 731 = .ok (.iaload, 1) := by decide +kernel
theorem dL_law_732 : decode cL_law 732 = .ok (.aload_n 3, 1) := by decide +kernel
theorem dL_law_733 : decode cL_law 733 = .ok (.invokestatic 112, 3) := by decide +kernel
theorem dL_law_736 : decode cL_law 736 = .ok (.istore 5, 2) := by decide +kernel
theorem dL_law_738 : decode cL_law 738 = .ok (.aload_n 2, 1) := by decide +kernel
theorem dL_law_739 : decode cL_law 739 = .ok (.aload_n 0, 1) := by decide +kernel
theorem dL_law_740 : decode cL_law 740 = .ok (.iload 4, 2) := by decide +kernel
theorem dL_law_742 : decode cL_law 742 = .ok (.iconst 1, 1) := by decide +kernel
theorem dL_law_743 : decode cL_law 743 = .ok (.iadd, 1) := by decide +kernel
theorem dL_law_744 : decode cL_law 744 = .ok (.iaload, 1) := by decide +kernel
theorem dL_law_745 : decode cL_law 745 = .ok (.aload_n 0, 1) := by decide +kernel
theorem dL_law_746 : decode cL_law 746 = .ok (.iload 4, 2) := by decide +kernel
theorem dL_law_748 : decode cL_law 748 = .ok (.iconst 2, 1) := by decide +kernel
theorem dL_law_749 : decode cL_law 749 = .ok (.iadd, 1) := by decide +kernel
theorem dL_law_750 : decode cL_law 750 = .ok (.iaload, 1) := by decide +kernel
theorem dL_law_751 : decode cL_law 751 = .ok (.invokevirtual 114, 3) := by decide +kernel
theorem dL_law_754 : decode cL_law 754 = .ok (.istore 6, 2) := by decide +kernel
theorem dL_law_756 : decode cL_law 756 = .ok (.aload_n 2, 1) := by decide +kernel
theorem dL_law_757 : decode cL_law 757 = .ok (.invokevirtual 81, 3) := by decide +kernel
theorem dL_law_760 : decode cL_law 760 = .ok (.iload 5, 2) := by decide +kernel
theorem dL_law_762 : decode cL_law 762 = .ok (.if_icmp .eq 5, 3) := by decide +kernel
theorem dL_law_765 : decode cL_law 765 = .ok (.iconst 0, 1) := by decide +kernel
theorem dL_law_766 : decode cL_law 766 = .ok (.ireturn, 1) := by decide +kernel
theorem dL_law_767 : decode cL_law 767 = .ok (.iload 5, 2) := by decide +kernel
theorem dL_law_769 : decode cL_law 769 = .ok (.ifCond .ne 15, 3) := by decide +kernel
theorem dL_law_772 : decode cL_law 772 = .ok (.aload_n 3, 1) := by decide +kernel
theorem dL_law_773 : decode cL_law 773 = .ok (.iconst 0, 1) := by decide +kernel
theorem dL_law_774 : decode cL_law 774 = .ok (.laload, 1) := by decide +kernel
theorem dL_law_775 : decode cL_law 775 = .ok (.iload 6, 2) := by decide +kernel
theorem dL_law_777 : decode cL_law 777 = .ok (.i2l, 1) := by decide +kernel
theorem dL_law_778 : decode cL_law 778 = .ok (.lcmp, 1) := by decide +kernel
theorem dL_law_779 : decode cL_law 779 = .ok (.ifCond .eq 5, 3) := by decide +kernel
theorem dL_law_782 : decode cL_law 782 = .ok (.iconst 0, 1) := by decide +kernel
theorem dL_law_783 : decode cL_law 783 = .ok (.ireturn, 1) := by decide +kernel
theorem dL_law_784 : decode cL_law 784 = .ok (.goto 480, 3) := by decide +kernel
theorem dL_law_787 : decode cL_law 787 = .ok (.aload_n 1, 1) := by decide +kernel
theorem dL_law_788 : decode cL_law 788 = .ok (.aload_n 0, 1) := by decide +kernel
theorem dL_law_789 : decode cL_law 789 = .ok (.iload 4, 2) := by decide +kernel
theorem dL_law_791 : decode cL_law 791 = .ok (.iconst 1, 1) := by decide +kernel
theorem dL_law_792 : decode cL_law 792 = .ok (.iadd, 1) := by decide +kernel
theorem dL_law_793 : decode cL_law 793 = .ok (.iaload, 1) := by decide +kernel
theorem dL_law_794 : decode cL_law 794 = .ok (.aload_n 3, 1) := by decide +kernel
theorem dL_law_795 : decode cL_law 795 = .ok (.invokestatic 115, 3) := by decide +kernel
theorem dL_law_798 : decode cL_law 798 = .ok (.istore 5, 2) := by decide +kernel
theorem dL_law_800 : decode cL_law 800 = .ok (.aload_n 2, 1) := by decide +kernel
theorem dL_law_801 : decode cL_law 801 = .ok (.aload_n 0, 1) := by decide +kernel
theorem dL_law_802 : decode cL_law 802 = .ok (.iload 4, 2) := by decide +kernel
theorem dL_law_804 : decode cL_law 804 = .ok (.iconst 1, 1) := by decide +kernel
theorem dL_law_805 : decode cL_law 805 = .ok (.iadd, 1) := by decide +kernel
theorem dL_law_806 : decode cL_law 806 = .ok (.iaload, 1) := by decide +kernel
theorem dL_law_807 : decode cL_law 807 = .ok (.invokevirtual 117, 3) := by decide +kernel
theorem dL_law_810 : decode cL_law 810 = .ok (.istore 6, 2) := by decide +kernel
theorem dL_law_812 : decode cL_law 812 = .ok (.aload_n 2, 1) := by decide +kernel
theorem dL_law_813 : decode cL_law 813 = .ok (.invokevirtual 81, 3) := by decide +kernel
theorem dL_law_816 : decode cL_law 816 = .ok (.iload 5, 2) := by decide +kernel
theorem dL_law_818 : decode cL_law 818 = .ok (.if_icmp .eq 5, 3) := by decide +kernel
theorem dL_law_821 : decode cL_law 821 = .ok (.iconst 0, 1) := by decide +kernel
theorem dL_law_822 : decode cL_law 822 = .ok (.ireturn, 1) := by decide +kernel
theorem dL_law_823 : decode cL_law 823 = .ok (.iload 5, 2) := by decide +kernel
theorem dL_law_825 : decode cL_law 825 = .ok (.ifCond .ne 15, 3) := by decide +kernel
theorem dL_law_828 : decode cL_law 828 = .ok (.aload_n 3, 1) := by decide +kernel
theorem dL_law_829 : decode cL_law 829 = .ok (.iconst 0, 1) := by decide +kernel
theorem dL_law_830 : decode cL_law 830 = .ok (.laload, 1) := by decide +kernel
theorem dL_law_831 : decode cL_law 831 = .ok (.iload 6, 2) := by decide +kernel
theorem dL_law_833 : decode cL_law 833 = .ok (.i2l, 1) := by decide +kernel
theorem dL_law_834 : decode cL_law 834 = .ok (.lcmp, 1) := by decide +kernel
theorem dL_law_835 : decode cL_law 835 = .ok (.ifCond .eq 5, 3) := by decide +kernel
theorem dL_law_838 : decode cL_law 838 = .ok (.iconst 0, 1) := by decide +kernel
theorem dL_law_839 : decode cL_law 839 = .ok (.ireturn, 1) := by decide +kernel
theorem dL_law_840 : decode cL_law 840 = .ok (.goto 424, 3) := by decide +kernel
theorem dL_law_843 : decode cL_law 843 = .ok (.aload_n 1, 1) := by decide +kernel
theorem dL_law_844 : decode cL_law 844 = .ok (.aload_n 0, 1) := by decide +kernel
theorem dL_law_845 : decode cL_law 845 = .ok (.iload 4, 2) := by decide +kernel
theorem dL_law_847 : decode cL_law 847 = .ok (.iconst 1, 1) := by decide +kernel
theorem dL_law_848 : decode cL_law 848 = .ok (.iadd, 1) := by decide +kernel
theorem dL_law_849 : decode cL_law 849 = .ok (.iaload, 1) := by decide +kernel
theorem dL_law_850 : decode cL_law 850 = .ok (.aload_n 3, 1) := by decide +kernel
theorem dL_law_851 : decode cL_law 851 = .ok (.invokestatic 118, 3) := by decide +kernel
theorem dL_law_854 : decode cL_law 854 = .ok (.istore 5, 2) := by decide +kernel
theorem dL_law_856 : decode cL_law 856 = .ok (.aload_n 2, 1) := by decide +kernel
theorem dL_law_857 : decode cL_law 857 = .ok (.aload_n 0, 1) := by decide +kernel
theorem dL_law_858 : decode cL_law 858 = .ok (.iload 4, 2) := by decide +kernel
theorem dL_law_860 : decode cL_law 860 = .ok (.iconst 1, 1) := by decide +kernel
theorem dL_law_861 : decode cL_law 861 = .ok (.iadd, 1) := by decide +kernel
theorem dL_law_862 : decode cL_law 862 = .ok (.iaload, 1) := by decide +kernel
theorem dL_law_863 : decode cL_law 863 = .ok (.invokevirtual 120, 3) := by decide +kernel
theorem dL_law_866 : decode cL_law 866 = .ok (.istore 6, 2) := by decide +kernel
theorem dL_law_868 : decode cL_law 868 = .ok (.aload_n 2, 1) := by decide +kernel
theorem dL_law_869 : decode cL_law 869 = .ok (.invokevirtual 81, 3) := by decide +kernel
theorem dL_law_872 : decode cL_law 872 = .ok (.iload 5, 2) := by decide +kernel
theorem dL_law_874 : decode cL_law 874 = .ok (.if_icmp .eq 5, 3) := by decide +kernel
theorem dL_law_877 : decode cL_law 877 = .ok (.iconst 0, 1) := by decide +kernel
theorem dL_law_878 : decode cL_law 878 = .ok (.ireturn, 1) := by decide +kernel
theorem dL_law_879 : decode cL_law 879 = .ok (.iload 5, 2) := by decide +kernel
theorem dL_law_881 : decode cL_law 881 = .ok (.ifCond .ne 15, 3) := by decide +kernel
theorem dL_law_884 : decode cL_law 884 = .ok (.aload_n 3, 1) := by decide +kernel
theorem dL_law_885 : decode cL_law 885 = .ok (.iconst 0, 1) := by decide +kernel
theorem dL_law_886 : decode cL_law 886 = .ok (.laload, 1) := by decide +kernel
theorem dL_law_887 : decode cL_law 887 = .ok (.iload 6, 2) := by decide +kernel
theorem dL_law_889 : decode cL_law 889 = .ok (.i2l, 1) := by decide +kernel
theorem dL_law_890 : decode cL_law 890 = .ok (.lcmp, 1) := by decide +kernel
theorem dL_law_891 : decode cL_law 891 = .ok (.ifCond .eq 5, 3) := by decide +kernel
theorem dL_law_894 : decode cL_law 894 = .ok (.iconst 0, 1) := by decide +kernel
theorem dL_law_895 : decode cL_law 895 = .ok (.ireturn, 1) := by decide +kernel
theorem dL_law_896 : decode cL_law 896 = .ok (.goto 368, 3) := by decide +kernel
theorem dL_law_899 : decode cL_law 899 = .ok (.aload_n 1, 1) := by decide +kernel
theorem dL_law_900 : decode cL_law 900 = .ok (.aload_n 0, 1) := by decide +kernel
theorem dL_law_901 : decode cL_law 901 = .ok (.iload 4, 2) := by decide +kernel
theorem dL_law_903 : decode cL_law 903 = .ok (.iconst 1, 1) := by decide +kernel
theorem dL_law_904 : decode cL_law 904 = .ok (.iadd, 1) := by decide +kernel
theorem dL_law_905 : decode cL_law 905 = .ok (.iaload, 1) := by decide +kernel
theorem dL_law_906 : decode cL_law 906 = .ok (.aload_n 0, 1) := by decide +kernel
theorem dL_law_907 : decode cL_law 907 = .ok (.iload 4, 2) := by decide +kernel
theorem dL_law_909 : decode cL_law 909 = .ok (.iconst 2, 1) := by decide +kernel
theorem dL_law_910 : decode cL_law 910 = .ok (.iadd, 1) := by decide +kernel
theorem dL_law_911 : decode cL_law 911 = .ok (.iaload, 1) := by decide +kernel
theorem dL_law_912 : decode cL_law 912 = .ok (.aload_n 3, 1) := by decide +kernel
theorem dL_law_913 : decode cL_law 913 = .ok (.invokestatic 121, 3) := by decide +kernel
theorem dL_law_916 : decode cL_law 916 = .ok (.istore 5, 2) := by decide +kernel
theorem dL_law_918 : decode cL_law 918 = .ok (.aload_n 2, 1) := by decide +kernel
theorem dL_law_919 : decode cL_law 919 = .ok (.aload_n 0, 1) := by decide +kernel
theorem dL_law_920 : decode cL_law 920 = .ok (.iload 4, 2) := by decide +kernel
theorem dL_law_922 : decode cL_law 922 = .ok (.iconst 1, 1) := by decide +kernel
theorem dL_law_923 : decode cL_law 923 = .ok (.iadd, 1) := by decide +kernel
theorem dL_law_924 : decode cL_law 924 = .ok (.iaload, 1) := by decide +kernel
theorem dL_law_925 : decode cL_law 925 = .ok (.aload_n 0, 1) := by decide +kernel
theorem dL_law_926 : decode cL_law 926 = .ok (.iload 4, 2) := by decide +kernel
theorem dL_law_928 : decode cL_law 928 = .ok (.iconst 2, 1) := by decide +kernel
theorem dL_law_929 : decode cL_law 929 = .ok (.iadd, 1) := by decide +kernel
theorem dL_law_930 : decode cL_law 930 = .ok (.iaload, 1) := by decide +kernel
theorem dL_law_931 : decode cL_law 931 = .ok (.invokevirtual 123, 3) := by decide +kernel
theorem dL_law_934 : decode cL_law 934 = .ok (.istore 6, 2) := by decide +kernel
theorem dL_law_936 : decode cL_law 936 = .ok (.aload_n 2, 1) := by decide +kernel
theorem dL_law_937 : decode cL_law 937 = .ok (.invokevirtual 81, 3) := by decide +kernel
theorem dL_law_940 : decode cL_law 940 = .ok (.iload 5, 2) := by decide +kernel
theorem dL_law_942 : decode cL_law 942 = .ok (.if_icmp .eq 5, 3) := by decide +kernel
theorem dL_law_945 : decode cL_law 945 = .ok (.iconst 0, 1) := by decide +kernel
theorem dL_law_946 : decode cL_law 946 = .ok (.ireturn, 1) := by decide +kernel
theorem dL_law_947 : decode cL_law 947 = .ok (.iload 5, 2) := by decide +kernel
theorem dL_law_949 : decode cL_law 949 = .ok (.ifCond .ne 15, 3) := by decide +kernel
theorem dL_law_952 : decode cL_law 952 = .ok (.aload_n 3, 1) := by decide +kernel
theorem dL_law_953 : decode cL_law 953 = .ok (.iconst 0, 1) := by decide +kernel
theorem dL_law_954 : decode cL_law 954 = .ok (.laload, 1) := by decide +kernel
theorem dL_law_955 : decode cL_law 955 = .ok (.iload 6, 2) := by decide +kernel
theorem dL_law_957 : decode cL_law 957 = .ok (.i2l, 1) := by decide +kernel
theorem dL_law_958 : decode cL_law 958 = .ok (.lcmp, 1) := by decide +kernel
theorem dL_law_959 : decode cL_law 959 = .ok (.ifCond .eq 5, 3) := by decide +kernel
theorem dL_law_962 : decode cL_law 962 = .ok (.iconst 0, 1) := by decide +kernel
theorem dL_law_963 : decode cL_law 963 = .ok (.ireturn, 1) := by decide +kernel
theorem dL_law_964 : decode cL_law 964 = .ok (.goto 300, 3) := by decide +kernel
theorem dL_law_967 : decode cL_law 967 = .ok (.aload_n 1, 1) := by decide +kernel
theorem dL_law_968 : decode cL_law 968 = .ok (.aload_n 0, 1) := by decide +kernel
theorem dL_law_969 : decode cL_law 969 = .ok (.iload 4, 2) := by decide +kernel
theorem dL_law_971 : decode cL_law 971 = .ok (.iconst 1, 1) := by decide +kernel
theorem dL_law_972 : decode cL_law 972 = .ok (.iadd, 1) := by decide +kernel
theorem dL_law_973 : decode cL_law 973 = .ok (.iaload, 1) := by decide +kernel
theorem dL_law_974 : decode cL_law 974 = .ok (.aload_n 3, 1) := by decide +kernel
theorem dL_law_975 : decode cL_law 975 = .ok (.invokestatic 124, 3) := by decide +kernel
theorem dL_law_978 : decode cL_law 978 = .ok (.istore 5, 2) := by decide +kernel
theorem dL_law_980 : decode cL_law 980 = .ok (.aload_n 2, 1) := by decide +kernel
theorem dL_law_981 : decode cL_law 981 = .ok (.aload_n 0, 1) := by decide +kernel
theorem dL_law_982 : decode cL_law 982 = .ok (.iload 4, 2) := by decide +kernel
theorem dL_law_984 : decode cL_law 984 = .ok (.iconst 1, 1) := by decide +kernel
theorem dL_law_985 : decode cL_law 985 = .ok (.iadd, 1) := by decide +kernel
theorem dL_law_986 : decode cL_law 986 = .ok (.iaload, 1) := by decide +kernel
theorem dL_law_987 : decode cL_law 987 = .ok (.invokevirtual 126, 3) := by decide +kernel
theorem dL_law_990 : decode cL_law 990 = .ok (.istore 6, 2) := by decide +kernel
theorem dL_law_992 : decode cL_law 992 = .ok (.aload_n 2, 1) := by decide +kernel
theorem dL_law_993 : decode cL_law 993 = .ok (.invokevirtual 81, 3) := by decide +kernel
theorem dL_law_996 : decode cL_law 996 = .ok (.iload 5, 2) := by decide +kernel
theorem dL_law_998 : decode cL_law 998 = .ok (.if_icmp .eq 5, 3) := by decide +kernel
theorem dL_law_1001 : decode cL_law 1001 = .ok (.iconst 0, 1) := by decide +kernel
theorem dL_law_1002 : decode cL_law 1002 = .ok (.ireturn, 1) := by decide +kernel
theorem dL_law_1003 : decode cL_law 1003 = .ok (.iload 5, 2) := by decide +kernel
theorem dL_law_1005 : decode cL_law 1005 = .ok (.ifCond .ne 15, 3) := by decide +kernel
theorem dL_law_1008 : decode cL_law 1008 = .ok (.aload_n 3, 1) := by decide +kernel
theorem dL_law_1009 : decode cL_law 1009 = .ok (.iconst 0, 1) := by decide +kernel
theorem dL_law_1010 : decode cL_law 1010 = .ok (.laload, 1) := by decide +kernel
theorem dL_law_1011 : decode cL_law 1011 = .ok (.iload 6, 2) := by decide +kernel
theorem dL_law_1013 : decode cL_law 1013 = .ok (.i2l, 1) := by decide +kernel
theorem dL_law_1014 : decode cL_law 1014 = .ok (.lcmp, 1) := by decide +kernel
theorem dL_law_1015 : decode cL_law 1015 = .ok (.ifCond .eq 5, 3) := by decide +kernel
theorem dL_law_1018 : decode cL_law 1018 = .ok (.iconst 0, 1) := by decide +kernel
theorem dL_law_1019 : decode cL_law 1019 = .ok (.ireturn, 1) := by decide +kernel
theorem dL_law_1020 : decode cL_law 1020 = .ok (.goto 244, 3) := by decide +kernel
theorem dL_law_1023 : decode cL_law 1023 = .ok (.aload_n 1, 1) := by decide +kernel
theorem dL_law_1024 : decode cL_law 1024 = .ok (.aload_n 0, 1) := by decide +kernel
theorem dL_law_1025 : decode cL_law 1025 = .ok (.iload 4, 2) := by decide +kernel
theorem dL_law_1027 : decode cL_law 1027 = .ok (.iconst 1, 1) := by decide +kernel
theorem dL_law_1028 : decode cL_law 1028 = .ok (.iadd, 1) := by decide +kernel
theorem dL_law_1029 : decode cL_law 1029 = .ok (.iaload, 1) := by decide +kernel
theorem dL_law_1030 : decode cL_law 1030 = .ok (.aload_n 3, 1) := by decide +kernel
theorem dL_law_1031 : decode cL_law 1031 = .ok (.invokestatic 127, 3) := by decide +kernel
theorem dL_law_1034 : decode cL_law 1034 = .ok (.istore 5, 2) := by decide +kernel
theorem dL_law_1036 : decode cL_law 1036 = .ok (.aload_n 2, 1) := by decide +kernel
theorem dL_law_1037 : decode cL_law 1037 = .ok (.aload_n 0, 1) := by decide +kernel
theorem dL_law_1038 : decode cL_law 1038 = .ok (.iload 4, 2) := by decide +kernel
theorem dL_law_1040 : decode cL_law 1040 = .ok (.iconst 1, 1) := by decide +kernel
theorem dL_law_1041 : decode cL_law 1041 = .ok (.iadd, 1) := by decide +kernel
theorem dL_law_1042 : decode cL_law 1042 = .ok (.iaload, 1) := by decide +kernel
theorem dL_law_1043 : decode cL_law 1043 = .ok (.invokevirtual 129, 3) := by decide +kernel
theorem dL_law_1046 : decode cL_law 1046 = .ok (.istore 6, 2) := by decide +kernel
theorem dL_law_1048 : decode cL_law 1048 = .ok (.aload_n 2, 1) := by decide +kernel
theorem dL_law_1049 : decode cL_law 1049 = .ok (.invokevirtual 81, 3) := by decide +kernel
theorem dL_law_1052 : decode cL_law 1052 = .ok (.iload 5, 2) := by decide +kernel
theorem dL_law_1054 : decode cL_law 1054 = .ok (.if_icmp .eq 5, 3) := by decide +kernel
theorem dL_law_1057 : decode cL_law 1057 = .ok (.iconst 0, 1) := by decide +kernel
theorem dL_law_1058 : decode cL_law 1058 = .ok (.ireturn, 1) := by decide +kernel
theorem dL_law_1059 : decode cL_law 1059 = .ok (.iload 5, 2) := by decide +kernel
theorem dL_law_1061 : decode cL_law 1061 = .ok (.ifCond .ne 15, 3) := by decide +kernel
theorem dL_law_1064 : decode cL_law 1064 = .ok (.aload_n 3, 1) := by decide +kernel
theorem dL_law_1065 : decode cL_law 1065 = .ok (.iconst 0, 1) := by decide +kernel
theorem dL_law_1066 : decode cL_law 1066 = .ok (.laload, 1) := by decide +kernel
theorem dL_law_1067 : decode cL_law 1067 = .ok (.iload 6, 2) := by decide +kernel
theorem dL_law_1069 : decode cL_law 1069 = .ok (.i2l, 1) := by decide +kernel
theorem dL_law_1070 : decode cL_law 1070 = .ok (.lcmp, 1) := by decide +kernel
theorem dL_law_1071 : decode cL_law 1071 = .ok (.ifCond .eq 5, 3) := by decide +kernel
theorem dL_law_1074 : decode cL_law 1074 = .ok (.iconst 0, 1) := by decide +kernel
theorem dL_law_1075 : decode cL_law 1075 = .ok (.ireturn, 1) := by decide +kernel
theorem dL_law_1076 : decode cL_law 1076 = .ok (.goto 188, 3) := by decide +kernel
theorem dL_law_1079 : decode cL_law 1079 = .ok (.aload_n 1, 1) := by decide +kernel
theorem dL_law_1080 : decode cL_law 1080 = .ok (.invokevirtual 130, 3) := by decide +kernel
theorem dL_law_1083 : decode cL_law 1083 = .ok (.aload_n 2, 1) := by decide +kernel
theorem dL_law_1084 : decode cL_law 1084 = .ok (.invokevirtual 133, 3) := by decide +kernel
theorem dL_law_1087 : decode cL_law 1087 = .ok (.if_icmp .eq 177, 3) := by decide +kernel
theorem dL_law_1090 : decode cL_law 1090 = .ok (.iconst 0, 1) := by decide +kernel
theorem dL_law_1091 : decode cL_law 1091 = .ok (.ireturn, 1) := by decide +kernel
theorem dL_law_1092 : decode cL_law 1092 = .ok (.aload_n 1, 1) := by decide +kernel
theorem dL_law_1093 : decode cL_law 1093 = .ok (.aload_n 0, 1) := by decide +kernel
theorem dL_law_1094 : decode cL_law 1094 = .ok (.iload 4, 2) := by decide +kernel
theorem dL_law_1096 : decode cL_law 1096 = .ok (.iconst 1, 1) := by decide +kernel
theorem dL_law_1097 : decode cL_law 1097 = .ok (.iadd, 1) := by decide +kernel
theorem dL_law_1098 : decode cL_law 1098 = .ok (.iaload, 1) := by decide +kernel
theorem dL_law_1099 : decode cL_law 1099 = .ok (.aload_n 0, 1) := by decide +kernel
theorem dL_law_1100 : decode cL_law 1100 = .ok (.iload 4, 2) := by decide +kernel
theorem dL_law_1102 : decode cL_law 1102 = .ok (.iconst 2, 1) := by decide +kernel
theorem dL_law_1103 : decode cL_law 1103 = .ok (.iadd, 1) := by decide +kernel
theorem dL_law_1104 : decode cL_law 1104 = .ok (.iaload, 1) := by decide +kernel
theorem dL_law_1105 : decode cL_law 1105 = .ok (.aload_n 0, 1) := by decide +kernel
theorem dL_law_1106 : decode cL_law 1106 = .ok (.iload 4, 2) := by decide +kernel
theorem dL_law_1108 : decode cL_law 1108 = .ok (.iconst 3, 1) := by decide +kernel
theorem dL_law_1109 : decode cL_law 1109 = .ok (.iadd, 1) := by decide +kernel
theorem dL_law_1110 : decode cL_law 1110 = .ok (.iaload, 1) := by decide +kernel
theorem dL_law_1111 : decode cL_law 1111 = .ok (.aload_n 3, 1) := by decide +kernel
theorem dL_law_1112 : decode cL_law 1112 = .ok (.invokestatic 134, 3) := by decide +kernel
theorem dL_law_1115 : decode cL_law 1115 = .ok (.istore 5, 2) := by decide +kernel
theorem dL_law_1117 : decode cL_law 1117 = .ok (.aload_n 2, 1) := by decide +kernel
theorem dL_law_1118 : decode cL_law 1118 = .ok (.aload_n 0, 1) := by decide +kernel
theorem dL_law_1119 : decode cL_law 1119 = .ok (.iload 4, 2) := by decide +kernel
theorem dL_law_1121 : decode cL_law 1121 = .ok (.iconst 1, 1) := by decide +kernel
theorem dL_law_1122 : decode cL_law 1122 = .ok (.iadd, 1) := by decide +kernel
theorem dL_law_1123 : decode cL_law 1123 = .ok (.iaload, 1) := by decide +kernel
theorem dL_law_1124 : decode cL_law 1124 = .ok (.aload_n 0, 1) := by decide +kernel
theorem dL_law_1125 : decode cL_law 1125 = .ok (.iload 4, 2) := by decide +kernel
theorem dL_law_1127 : decode cL_law 1127 = .ok (.iconst 2, 1) := by decide +kernel
theorem dL_law_1128 : decode cL_law 1128 = .ok (.iadd, 1) := by decide +kernel
theorem dL_law_1129 : decode cL_law 1129 = .ok (.iaload, 1) := by decide +kernel
theorem dL_law_1130 : decode cL_law 1130 = .ok (.aload_n 0, 1) := by decide +kernel
theorem dL_law_1131 : decode cL_law 1131 = .ok (.iload 4, 2) := by decide +kernel
theorem dL_law_1133 : decode cL_law 1133 = .ok (.iconst 3, 1) := by decide +kernel
theorem dL_law_1134 : decode cL_law 1134 = .ok (.iadd, 1) := by decide +kernel
theorem dL_law_1135 : decode cL_law 1135 = .ok (.iaload, 1) := by decide +kernel
theorem dL_law_1136 : decode cL_law 1136 = .ok (.invokevirtual 136, 3) := by decide +kernel
theorem dL_law_1139 : decode cL_law 1139 = .ok (.istore 6, 2) := by decide +kernel
theorem dL_law_1141 : decode cL_law 1141 = .ok (.aload_n 2, 1) := by decide +kernel
theorem dL_law_1142 : decode cL_law 1142 = .ok (.invokevirtual 81, 3) := by decide +kernel
theorem dL_law_1145 : decode cL_law 1145 = .ok (.iload 5, 2) := by decide +kernel
theorem dL_law_1147 : decode cL_law 1147 = .ok (.if_icmp .eq 5, 3) := by decide +kernel
theorem dL_law_1150 : decode cL_law 1150 = .ok (.iconst 0, 1) := by decide +kernel
theorem dL_law_1151 : decode cL_law 1151 = .ok (.ireturn, 1) := by decide +kernel
theorem dL_law_1152 : decode cL_law 1152 = .ok (.iload 5, 2) := by decide +kernel
theorem dL_law_1154 : decode cL_law 1154 = .ok (.ifCond .ne 15, 3) := by decide +kernel
theorem dL_law_1157 : decode cL_law 1157 = .ok (.aload_n 3, 1) := by decide +kernel
theorem dL_law_1158 : decode cL_law 1158 = .ok (.iconst 0, 1) := by decide +kernel
theorem dL_law_1159 : decode cL_law 1159 = .ok (.laload, 1) := by decide +kernel
theorem dL_law_1160 : decode cL_law 1160 = .ok (.iload 6, 2) := by decide +kernel
theorem dL_law_1162 : decode cL_law 1162 = .ok (.i2l, 1) := by decide +kernel
theorem dL_law_1163 : decode cL_law 1163 = .ok (.lcmp, 1) := by decide +kernel
theorem dL_law_1164 : decode cL_law 1164 = .ok (.ifCond .eq 5, 3) := by decide +kernel
theorem dL_law_1167 : decode cL_law 1167 = .ok (.iconst 0, 1) := by decide +kernel
theorem dL_law_1168 : decode cL_law 1168 = .ok (.ireturn, 1) := by decide +kernel
theorem dL_law_1169 : decode cL_law 1169 = .ok (.goto 95, 3) := by decide +kernel
theorem dL_law_1172 : decode cL_law 1172 = .ok (.aload_n 1, 1) := by decide +kernel
theorem dL_law_1173 : decode cL_law 1173 = .ok (.aload_n 0, 1) := by decide +kernel
theorem dL_law_1174 : decode cL_law 1174 = .ok (.iload 4, 2) := by decide +kernel
theorem dL_law_1176 : decode cL_law 1176 = .ok (.iconst 1, 1) := by decide +kernel
theorem dL_law_1177 : decode cL_law 1177 = .ok (.iadd, 1) := by decide +kernel
theorem dL_law_1178 : decode cL_law 1178 = .ok (.iaload, 1) := by decide +kernel
theorem dL_law_1179 : decode cL_law 1179 = .ok (.aload_n 0, 1) := by decide +kernel
theorem dL_law_1180 : decode cL_law 1180 = .ok (.iload 4, 2) := by decide +kernel
theorem dL_law_1182 : decode cL_law 1182 = .ok (.iconst 2, 1) := by decide +kernel
theorem dL_law_1183 : decode cL_law 1183 = .ok (.iadd, 1) := by decide +kernel
theorem dL_law_1184 : decode cL_law 1184 = .ok (.iaload, 1) := by decide +kernel
theorem dL_law_1185 : decode cL_law 1185 = .ok (.aload_n 0, 1) := by decide +kernel
theorem dL_law_1186 : decode cL_law 1186 = .ok (.iload 4, 2) := by decide +kernel
theorem dL_law_1188 : decode cL_law 1188 = .ok (.iconst 3, 1) := by decide +kernel
theorem dL_law_1189 : decode cL_law 1189 = .ok (.iadd, 1) := by decide +kernel
theorem dL_law_1190 : decode cL_law 1190 = .ok (.iaload, 1) := by decide +kernel
theorem dL_law_1191 : decode cL_law 1191 = .ok (.aload_n 0, 1) := by decide +kernel
theorem dL_law_1192 : decode cL_law 1192 = .ok (.iload 4, 2) := by decide +kernel
theorem dL_law_1194 : decode cL_law 1194 = .ok (.iconst 4, 1) := by decide +kernel
theorem dL_law_1195 : decode cL_law 1195 = .ok (.iadd, 1) := by decide +kernel
theorem dL_law_1196 : decode cL_law 1196 = .ok (.iaload, 1) := by decide +kernel
theorem dL_law_1197 : decode cL_law 1197 = .ok (.aload_n 3, 1) := by decide +kernel
theorem dL_law_1198 : decode cL_law 1198 = .ok (.invokestatic 137, 3) := by decide +kernel
theorem dL_law_1201 : decode cL_law 1201 = .ok (.istore 5, 2) := by decide +kernel
theorem dL_law_1203 : decode cL_law 1203 = .ok (.aload_n 2, 1) := by decide +kernel
theorem dL_law_1204 : decode cL_law 1204 = .ok (.aload_n 0, 1) := by decide +kernel
theorem dL_law_1205 : decode cL_law 1205 = .ok (.iload 4, 2) := by decide +kernel
theorem dL_law_1207 : decode cL_law 1207 = .ok (.iconst 1, 1) := by decide +kernel
theorem dL_law_1208 : decode cL_law 1208 = .ok (.iadd, 1) := by decide +kernel
theorem dL_law_1209 : decode cL_law 1209 = .ok (.iaload, 1) := by decide +kernel
theorem dL_law_1210 : decode cL_law 1210 = .ok (.aload_n 0, 1) := by decide +kernel
theorem dL_law_1211 : decode cL_law 1211 = .ok (.iload 4, 2) := by decide +kernel
theorem dL_law_1213 : decode cL_law 1213 = .ok (.iconst 2, 1) := by decide +kernel
theorem dL_law_1214 : decode cL_law 1214 = .ok (.iadd, 1) := by decide +kernel
theorem dL_law_1215 : decode cL_law 1215 = .ok (.iaload, 1) := by decide +kernel
theorem dL_law_1216 : decode cL_law 1216 = .ok (.aload_n 0, 1) := by decide +kernel
theorem dL_law_1217 : decode cL_law 1217 = .ok (.iload 4, 2) := by decide +kernel
theorem dL_law_1219 : decode cL_law 1219 = .ok (.iconst 3, 1) := by decide +kernel
theorem dL_law_1220 : decode cL_law 1220 = .ok (.iadd, 1) := by decide +kernel
theorem dL_law_1221 : decode cL_law 1221 = .ok (.iaload, 1) := by decide +kernel
theorem dL_law_1222 : decode cL_law 1222 = .ok (.aload_n 0, 1) := by decide +kernel
theorem dL_law_1223 : decode cL_law 1223 = .ok (.iload 4, 2) := by decide +kernel
theorem dL_law_1225 : decode cL_law 1225 = .ok (.iconst 4, 1) := by decide +kernel
theorem dL_law_1226 : decode cL_law 1226 = .ok (.iadd, 1) := by decide +kernel
theorem dL_law_1227 : decode cL_law 1227 = .ok (.iaload, 1) := by decide +kernel
theorem dL_law_1228 : decode cL_law 1228 = .ok (.invokevirtual 139, 3) := by decide +kernel
theorem dL_law_1231 : decode cL_law 1231 = .ok (.istore 6, 2) := by decide +kernel
theorem dL_law_1233 : decode cL_law 1233 = .ok (.aload_n 2, 1) := by decide +kernel
theorem dL_law_1234 : decode cL_law 1234 = .ok (.invokevirtual 81, 3) := by decide +kernel
theorem dL_law_1237 : decode cL_law 1237 = .ok (.iload 5, 2) := by decide +kernel
theorem dL_law_1239 : decode cL_law 1239 = .ok (.if_icmp .eq 5, 3) := by decide +kernel
theorem dL_law_1242 : decode cL_law 1242 = .ok (.iconst 0, 1) := by decide +kernel
theorem dL_law_1243 : decode cL_law 1243 = .ok (.ireturn, 1) := by decide +kernel
theorem dL_law_1244 : decode cL_law 1244 = .ok (.iload 5, 2) := by decide +kernel
theorem dL_law_1246 : decode cL_law 1246 = .ok (.ifCond .ne 15, 3) := by decide +kernel
theorem dL_law_1249 : decode cL_law 1249 = .ok (.aload_n 3, 1) := by decide +kernel
theorem dL_law_1250 : decode cL_law 1250 = .ok (.iconst 0, 1) := by decide +kernel
theorem dL_law_1251 : decode cL_law 1251 = .ok (.laload, 1) := by decide +kernel
theorem dL_law_1252 : decode cL_law 1252 = .ok (.iload 6, 2) := by decide +kernel
theorem dL_law_1254 : decode cL_law 1254 = .ok (.i2l, 1) := by decide +kernel
theorem dL_law_1255 : decode cL_law 1255 = .ok (.lcmp, 1) := by decide +kernel
theorem dL_law_1256 : decode cL_law 1256 = .ok (.ifCond .eq 5, 3) := by decide +kernel
theorem dL_law_1259 : decode cL_law 1259 = .ok (.iconst 0, 1) := by decide +kernel
theorem dL_law_1260 : decode cL_law 1260 = .ok (.ireturn, 1) := by decide +kernel
theorem dL_law_1261 : decode cL_law 1261 = .ok (.goto 3, 3) := by decide +kernel
theorem dL_law_1264 : decode cL_law 1264 = .ok (.iinc 4 5, 3) := by decide +kernel
theorem dL_law_1267 : decode cL_law 1267 = .ok (.goto (-1244), 3) := by decide +kernel
theorem dL_law_1270 : decode cL_law 1270 = .ok (.iconst 1, 1) := by decide +kernel
theorem dL_law_1271 : decode cL_law 1271 = .ok (.ireturn, 1) := by decide +kernel
end
