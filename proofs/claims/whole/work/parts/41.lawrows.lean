section LDL
variable {p : Program} {l : Launch} {e : Env} {R : Room} {s : State} {m : MethodId} {args : Array Value} {below : List Frame} {meth : Method} {c : Code} {Q : State → Prop} {cells slots pc : Nat} {cc : ByteArray} {nL : Nat} {ret9 : Option FieldType} {Ts : List Cond} {own : String} {w : ld_E} {Z : ld_M} {lv : List (Option Value)} {st : List Value} {ρ : Type} {F : Option ρ} {r : ρ} {b L : Nat} {xs : Nat → Int32}
theorem lj_sld (C : ld_C p l s m args meth c cc nL ret9 Ts own w) (hX : va_X b L xs s s.heap) (hbl : b < s.heap.size) (hbA : ¬ ld_A w s.heap.size b) {x : Int32} (d : decode cc pc = .ok (.iaload, 1)) (k : ld_T p l e R s m args below meth c Q w r F Z cells slots (pc + 1) lv (.int (xs x.toNatClampNeg) :: st)) : ld_T p l e R s m args below meth c Q w r (ld_ck (ld_g x L) F) Z cells slots pc lv (.int x :: .ref b :: st) :=
  fun hF H locs ls hP hS hL => va_sld C.1 C.2.1 hX hbl hbA hS (ld_g_in (ld_ck_of hF).1) d (k (ld_ck_of hF).2 H locs ls hP hS hL)
theorem lj_slen (C : ld_C p l s m args meth c cc nL ret9 Ts own w) (hX : va_X b L xs s s.heap) (hbl : b < s.heap.size) (hbA : ¬ ld_A w s.heap.size b) (d : decode cc pc = .ok (.arraylength, 1)) (k : ld_T p l e R s m args below meth c Q w r F Z cells slots (pc + 1) lv (.int (nI L) :: st)) : ld_T p l e R s m args below meth c Q w r F Z cells slots pc lv (.ref b :: st) :=
  fun hF H locs ls hP hS hL => va_slen C.1 C.2.1 hX hbl hbA hS d (k hF H locs ls hP hS hL)
theorem lj_lcmp (C : ld_C p l s m args meth c cc nL ret9 Ts own w) {x y : Int64} (d : decode cc pc = .ok (.lcmp, 1)) (k : ld_T p l e R s m args below meth c Q w r F Z cells slots (pc + 1) lv (.int (lg_cmp x y) :: st)) : ld_T p l e R s m args below meth c Q w r F Z cells slots pc lv (.long y :: .long x :: st) :=
  fun hF H locs ls hP hS hL => W.lcmp C.1 C.2.1 d (k hF H locs ls hP hS hL)
theorem lj_sw17 (C : ld_C p l s m args meth c cc nL ret9 Ts own w) {x : Int32} {dflt o0 o1 o2 o3 o4 o5 o6 o7 o8 o9 o10 o11 o12 o13 o14 o15 o16 : Int} {len t0 t1 t2 t3 t4 t5 t6 t7 t8 t9 t10 t11 t12 t13 t14 t15 t16 t17 : Nat} {G0 G1 G2 G3 G4 G5 G6 G7 G8 G9 G10 G11 G12 G13 G14 G15 G16 G17 : Option ρ} (d : decode cc pc = .ok (.tableswitch dflt 0 16 #[o0, o1, o2, o3, o4, o5, o6, o7, o8, o9, o10, o11, o12, o13, o14, o15, o16], len)) (h17 : (pc : Int) + dflt = (t17 : Int)) (h0 : (pc : Int) + o0 = (t0 : Int)) (h1 : (pc : Int) + o1 = (t1 : Int)) (h2 : (pc : Int) + o2 = (t2 : Int)) (h3 : (pc : Int) + o3 = (t3 : Int)) (h4 : (pc : Int) + o4 = (t4 : Int)) (h5 : (pc : Int) + o5 = (t5 : Int)) (h6 : (pc : Int) + o6 = (t6 : Int)) (h7 : (pc : Int) + o7 = (t7 : Int)) (h8 : (pc : Int) + o8 = (t8 : Int)) (h9 : (pc : Int) + o9 = (t9 : Int)) (h10 : (pc : Int) + o10 = (t10 : Int)) (h11 : (pc : Int) + o11 = (t11 : Int)) (h12 : (pc : Int) + o12 = (t12 : Int)) (h13 : (pc : Int) + o13 = (t13 : Int)) (h14 : (pc : Int) + o14 = (t14 : Int)) (h15 : (pc : Int) + o15 = (t15 : Int)) (h16 : (pc : Int) + o16 = (t16 : Int)) (k0 : ld_T p l e R s m args below meth c Q w r G0 Z cells slots t0 lv st) (k1 : ld_T p l e R s m args below meth c Q w r G1 Z cells slots t1 lv st) (k2 : ld_T p l e R s m args below meth c Q w r G2 Z cells slots t2 lv st) (k3 : ld_T p l e R s m args below meth c Q w r G3 Z cells slots t3 lv st) (k4 : ld_T p l e R s m args below meth c Q w r G4 Z cells slots t4 lv st) (k5 : ld_T p l e R s m args below meth c Q w r G5 Z cells slots t5 lv st) (k6 : ld_T p l e R s m args below meth c Q w r G6 Z cells slots t6 lv st) (k7 : ld_T p l e R s m args below meth c Q w r G7 Z cells slots t7 lv st) (k8 : ld_T p l e R s m args below meth c Q w r G8 Z cells slots t8 lv st) (k9 : ld_T p l e R s m args below meth c Q w r G9 Z cells slots t9 lv st) (k10 : ld_T p l e R s m args below meth c Q w r G10 Z cells slots t10 lv st) (k11 : ld_T p l e R s m args below meth c Q w r G11 Z cells slots t11 lv st) (k12 : ld_T p l e R s m args below meth c Q w r G12 Z cells slots t12 lv st) (k13 : ld_T p l e R s m args below meth c Q w r G13 Z cells slots t13 lv st) (k14 : ld_T p l e R s m args below meth c Q w r G14 Z cells slots t14 lv st) (k15 : ld_T p l e R s m args below meth c Q w r G15 Z cells slots t15 lv st) (k16 : ld_T p l e R s m args below meth c Q w r G16 Z cells slots t16 lv st) (k17 : ld_T p l e R s m args below meth c Q w r G17 Z cells slots t17 lv st) : ld_T p l e R s m args below meth c Q w r (if x = 0 then G0 else if x = 1 then G1 else if x = 2 then G2 else if x = 3 then G3 else if x = 4 then G4 else if x = 5 then G5 else if x = 6 then G6 else if x = 7 then G7 else if x = 8 then G8 else if x = 9 then G9 else if x = 10 then G10 else if x = 11 then G11 else if x = 12 then G12 else if x = 13 then G13 else if x = 14 then G14 else if x = 15 then G15 else if x = 16 then G16 else G17) Z cells slots pc lv (.int x :: st) := by
  intro hF H locs ls hP hS hL
  by_cases g0 : x = 0
  · rw [if_pos g0] at hF
    exact lv_tableIn C.1 C.2.1 d (by rw [g0]; decide) (by rw [g0]; decide) (off := o0) (by rw [g0]; rfl) h0 (k0 hF H locs ls hP hS hL)
  rw [if_neg g0] at hF
  by_cases g1 : x = 1
  · rw [if_pos g1] at hF
    exact lv_tableIn C.1 C.2.1 d (by rw [g1]; decide) (by rw [g1]; decide) (off := o1) (by rw [g1]; rfl) h1 (k1 hF H locs ls hP hS hL)
  rw [if_neg g1] at hF
  by_cases g2 : x = 2
  · rw [if_pos g2] at hF
    exact lv_tableIn C.1 C.2.1 d (by rw [g2]; decide) (by rw [g2]; decide) (off := o2) (by rw [g2]; rfl) h2 (k2 hF H locs ls hP hS hL)
  rw [if_neg g2] at hF
  by_cases g3 : x = 3
  · rw [if_pos g3] at hF
    exact lv_tableIn C.1 C.2.1 d (by rw [g3]; decide) (by rw [g3]; decide) (off := o3) (by rw [g3]; rfl) h3 (k3 hF H locs ls hP hS hL)
  rw [if_neg g3] at hF
  by_cases g4 : x = 4
  · rw [if_pos g4] at hF
    exact lv_tableIn C.1 C.2.1 d (by rw [g4]; decide) (by rw [g4]; decide) (off := o4) (by rw [g4]; rfl) h4 (k4 hF H locs ls hP hS hL)
  rw [if_neg g4] at hF
  by_cases g5 : x = 5
  · rw [if_pos g5] at hF
    exact lv_tableIn C.1 C.2.1 d (by rw [g5]; decide) (by rw [g5]; decide) (off := o5) (by rw [g5]; rfl) h5 (k5 hF H locs ls hP hS hL)
  rw [if_neg g5] at hF
  by_cases g6 : x = 6
  · rw [if_pos g6] at hF
    exact lv_tableIn C.1 C.2.1 d (by rw [g6]; decide) (by rw [g6]; decide) (off := o6) (by rw [g6]; rfl) h6 (k6 hF H locs ls hP hS hL)
  rw [if_neg g6] at hF
  by_cases g7 : x = 7
  · rw [if_pos g7] at hF
    exact lv_tableIn C.1 C.2.1 d (by rw [g7]; decide) (by rw [g7]; decide) (off := o7) (by rw [g7]; rfl) h7 (k7 hF H locs ls hP hS hL)
  rw [if_neg g7] at hF
  by_cases g8 : x = 8
  · rw [if_pos g8] at hF
    exact lv_tableIn C.1 C.2.1 d (by rw [g8]; decide) (by rw [g8]; decide) (off := o8) (by rw [g8]; rfl) h8 (k8 hF H locs ls hP hS hL)
  rw [if_neg g8] at hF
  by_cases g9 : x = 9
  · rw [if_pos g9] at hF
    exact lv_tableIn C.1 C.2.1 d (by rw [g9]; decide) (by rw [g9]; decide) (off := o9) (by rw [g9]; rfl) h9 (k9 hF H locs ls hP hS hL)
  rw [if_neg g9] at hF
  by_cases g10 : x = 10
  · rw [if_pos g10] at hF
    exact lv_tableIn C.1 C.2.1 d (by rw [g10]; decide) (by rw [g10]; decide) (off := o10) (by rw [g10]; rfl) h10 (k10 hF H locs ls hP hS hL)
  rw [if_neg g10] at hF
  by_cases g11 : x = 11
  · rw [if_pos g11] at hF
    exact lv_tableIn C.1 C.2.1 d (by rw [g11]; decide) (by rw [g11]; decide) (off := o11) (by rw [g11]; rfl) h11 (k11 hF H locs ls hP hS hL)
  rw [if_neg g11] at hF
  by_cases g12 : x = 12
  · rw [if_pos g12] at hF
    exact lv_tableIn C.1 C.2.1 d (by rw [g12]; decide) (by rw [g12]; decide) (off := o12) (by rw [g12]; rfl) h12 (k12 hF H locs ls hP hS hL)
  rw [if_neg g12] at hF
  by_cases g13 : x = 13
  · rw [if_pos g13] at hF
    exact lv_tableIn C.1 C.2.1 d (by rw [g13]; decide) (by rw [g13]; decide) (off := o13) (by rw [g13]; rfl) h13 (k13 hF H locs ls hP hS hL)
  rw [if_neg g13] at hF
  by_cases g14 : x = 14
  · rw [if_pos g14] at hF
    exact lv_tableIn C.1 C.2.1 d (by rw [g14]; decide) (by rw [g14]; decide) (off := o14) (by rw [g14]; rfl) h14 (k14 hF H locs ls hP hS hL)
  rw [if_neg g14] at hF
  by_cases g15 : x = 15
  · rw [if_pos g15] at hF
    exact lv_tableIn C.1 C.2.1 d (by rw [g15]; decide) (by rw [g15]; decide) (off := o15) (by rw [g15]; rfl) h15 (k15 hF H locs ls hP hS hL)
  rw [if_neg g15] at hF
  by_cases g16 : x = 16
  · rw [if_pos g16] at hF
    exact lv_tableIn C.1 C.2.1 d (by rw [g16]; decide) (by rw [g16]; decide) (off := o16) (by rw [g16]; rfl) h16 (k16 hF H locs ls hP hS hL)
  rw [if_neg g16] at hF
  refine lv_tableOut C.1 C.2.1 d ?_ h17 (k17 hF H locs ls hP hS hL)
  have e0 : x.toInt ≠ 0 := fun q => g0 (Int32.toInt_inj.mp (q.trans (by decide)))
  have e1 : x.toInt ≠ 1 := fun q => g1 (Int32.toInt_inj.mp (q.trans (by decide)))
  have e2 : x.toInt ≠ 2 := fun q => g2 (Int32.toInt_inj.mp (q.trans (by decide)))
  have e3 : x.toInt ≠ 3 := fun q => g3 (Int32.toInt_inj.mp (q.trans (by decide)))
  have e4 : x.toInt ≠ 4 := fun q => g4 (Int32.toInt_inj.mp (q.trans (by decide)))
  have e5 : x.toInt ≠ 5 := fun q => g5 (Int32.toInt_inj.mp (q.trans (by decide)))
  have e6 : x.toInt ≠ 6 := fun q => g6 (Int32.toInt_inj.mp (q.trans (by decide)))
  have e7 : x.toInt ≠ 7 := fun q => g7 (Int32.toInt_inj.mp (q.trans (by decide)))
  have e8 : x.toInt ≠ 8 := fun q => g8 (Int32.toInt_inj.mp (q.trans (by decide)))
  have e9 : x.toInt ≠ 9 := fun q => g9 (Int32.toInt_inj.mp (q.trans (by decide)))
  have e10 : x.toInt ≠ 10 := fun q => g10 (Int32.toInt_inj.mp (q.trans (by decide)))
  have e11 : x.toInt ≠ 11 := fun q => g11 (Int32.toInt_inj.mp (q.trans (by decide)))
  have e12 : x.toInt ≠ 12 := fun q => g12 (Int32.toInt_inj.mp (q.trans (by decide)))
  have e13 : x.toInt ≠ 13 := fun q => g13 (Int32.toInt_inj.mp (q.trans (by decide)))
  have e14 : x.toInt ≠ 14 := fun q => g14 (Int32.toInt_inj.mp (q.trans (by decide)))
  have e15 : x.toInt ≠ 15 := fun q => g15 (Int32.toInt_inj.mp (q.trans (by decide)))
  have e16 : x.toInt ≠ 16 := fun q => g16 (Int32.toInt_inj.mp (q.trans (by decide)))
  omega
end LDL
theorem lj_lret {p : Program} {l : Launch} {e : Env} {s : State} {m : MethodId} {below : List Frame} {meth : Method} {c : Code} {b nL cells slots pc : Nat} {Ts : List Cond} {own : String} {w : ld_E} {Z : ld_M} {lv : List (Option Value)} (C : ld_C p l s m #[Value.ref b] meth c code nL ret Ts own w) (hnew : ∀ i, i < 87 → s.heap.size ≤ ld_ad w i) {x : Int32} (hc : cells ≤ 618211) (hs : slots ≤ 7241470) (d : decode code pc = .ok (.ireturn, 1)) : ld_T p l e room_1 s m #[Value.ref b] below meth c (lw_Z below #[Value.ref b] s) w (1 : Int32) (some x) Z cells slots pc lv [.int x] := by
  intro hF H locs ls hP hS hL
  have h1 := Option.some.inj hF
  subst h1
  refine va_forget (fun q hq => ?_) ?_
  · rcases hS.2.2 q hq with ⟨i, hi, h⟩ | h
    · rw [h]; exact hnew i hi
    · exact h
  · refine W.widen hc hs ?_
    exact lw_ret C.1 C.2.1 C.2.2.2.2.2.2.2.1 C.2.2.2.2.2.2.1 d
