/-! the law's helpers that catch -/
theorem q_675 : Cond.codeWith yL_setKind cL_setKind 3 (some .int) [(0, 5, 6, 24)] ∈ hAll := hAll_of (List.mem_of_getElem? (i := 675) (by decide +kernel)) (by decide +kernel)
theorem q_694 : Cond.codeWith yL_setSeed cL_setSeed 3 (some .int) [(0, 5, 6, 24)] ∈ hAll := hAll_of (List.mem_of_getElem? (i := 694) (by decide +kernel)) (by decide +kernel)
theorem q_709 : Cond.codeWith yL_setLimit cL_setLimit 3 (some .int) [(0, 5, 6, 24)] ∈ hAll := hAll_of (List.mem_of_getElem? (i := 709) (by decide +kernel)) (by decide +kernel)
theorem q_720 : Cond.codeWith yL_get cL_get 3 (some .int) [(0, 5, 6, 19)] ∈ hAll := hAll_of (List.mem_of_getElem? (i := 720) (by decide +kernel)) (by decide +kernel)
theorem q_724 : Cond.codeWith yL_probesBySlot cL_probesBySlot 3 (some .int) [(0, 5, 6, 19)] ∈ hAll := hAll_of (List.mem_of_getElem? (i := 724) (by decide +kernel)) (by decide +kernel)
theorem q_727 : Cond.codeWith yL_keyAt cL_keyAt 3 (some .int) [(0, 5, 6, 19)] ∈ hAll := hAll_of (List.mem_of_getElem? (i := 727) (by decide +kernel)) (by decide +kernel)
theorem q_730 : Cond.codeWith yL_hardestKey cL_hardestKey 2 (some .int) [(0, 4, 5, 19)] ∈ hAll := hAll_of (List.mem_of_getElem? (i := 730) (by decide +kernel)) (by decide +kernel)
theorem q_737 : Cond.codeWith yL_keyIn cL_keyIn 3 (some .int) [(0, 5, 6, 48), (0, 5, 11, 19)] ∈ hAll := hAll_of (List.mem_of_getElem? (i := 737) (by decide +kernel)) (by decide +kernel)
theorem q_766 : Cond.codeWith yL_put cL_put 4 (some .int) [(0, 14, 15, 24), (0, 14, 20, 54)] ∈ hAll := hAll_of (List.mem_of_getElem? (i := 766) (by decide +kernel)) (by decide +kernel)
theorem q_811 : Cond.codeWith yL_remove cL_remove 3 (some .int) [(0, 5, 6, 19)] ∈ hAll := hAll_of (List.mem_of_getElem? (i := 811) (by decide +kernel)) (by decide +kernel)
def fL_remove (v : LV) (x0 : Int32) : Option (Int32 × LV) := (gl_remove v x0).bind fun r => (hcd [(3, (-30000 : Int32))] r.1).bind fun z => some (z, r.2)
abbrev rmL_remove : Room := { frames := 7, cells := 1, slots := 6, locals := 266 }
theorem hmL_remove : hMW yL_remove cL_remove 3 [(0, 5, 6, 19)] 2 := ⟨q_811, q_11, q_810, by decide, by decide, by decide +kernel⟩
theorem dL_remove_0 : decode cL_remove 0 = .ok (.aload_n 0, 1) := by decide +kernel
theorem dL_remove_1 : decode cL_remove 1 = .ok (.iload_n 1, 1) := by decide +kernel
theorem dL_remove_2 : decode cL_remove 2 = .ok (.invokevirtual 13, 3) := by decide +kernel
theorem dL_remove_5 : decode cL_remove 5 = .ok (.ireturn, 1) := by decide +kernel
theorem dL_remove_6 : decode cL_remove 6 = .ok (.astore_n 2, 1) := by decide +kernel
theorem dL_remove_7 : decode cL_remove 7 = .ok (.sipush (-30000), 3) := by decide +kernel
theorem dL_remove_10 : decode cL_remove 10 = .ok (.ireturn, 1) := by decide +kernel
set_option maxHeartbeats 4000000 in
set_option maxRecDepth 100000 in
theorem bL_remove {p : Program} {l : Launch} {e : Env} {s : State} {m : MethodId} {args : Array Value} {below : List Frame} {meth : Method} {c : Code} {D : va_G} {cB cC cI cO : ClassId} {A : Nat → Prop} {g : LG} (C0 : gC RL cL_remove 3 (some .int) p s m args meth c D (hTy cB cC cI cO) A) (E0 : hLw g A s) (hl0 : l.stackTraces = false) (T0 : c.exceptionTable.toList = tableOf [(0, 5, 6, 19)]) (L0 : Nat) (ua : LA) (v : LV) (x0 : Int32) (out : Int32 × LV) (hf : fL_remove v x0 = some out) : gG p l e rmL_remove s m args below meth c D A 3 (MQ below (hQi D (labX cB cC cI cO L0 ua out.2) out.1 A) args s 1 6 A) 0 0 0 [(0, .ref L0), (1, .int x0)] [] (labX cB cC cI cO L0 ua v) := by
  unfold fL_remove at hf
  obtain ⟨r, er, hf⟩ := hl_bd hf
  obtain ⟨z, hz, hf⟩ := hl_bd hf
  cases hf
  refine g_aload_n C0 dL_remove_0 rfl 0 rfl ?_
  refine g_iload_n C0 dL_remove_1 rfl 1 rfl ?_
  refine g_sXi C0 E0.1.1 (P := []) (X := labX cB cC cI cO L0 ua v) (X1 := labX cB cC cI cO L0 ua r.2) (As := [.int x0]) (st := []) (mg_remove l hl0 D cB cC cI cO L0 ua v x0 r er) hmX6_remove q_812 ⟨Nat.le_of_ble_eq_true rfl, Nat.le_of_ble_eq_true rfl⟩ ⟨Nat.le_of_ble_eq_true rfl, Nat.le_of_ble_eq_true rfl⟩ rfl rfl rfl rfl rfl 0 rfl rfl rfl (Nat.le_of_ble_eq_true rfl) dL_remove_2 ?_ ?_
  · intro k1 ho
    obtain ⟨rfl, hv⟩ := hcd1 hz ho
    refine ⟨6, hHd1 T0 (by decide) (by decide) (gC_t C0 _ q_721) (hBw_use E0.1.1.2.1 _ (hBad_of (List.mem_of_getElem? (i := 287) (by decide +kernel)) (by decide +kernel))), fun q9 => ?_⟩
    refine g_astore_n C0 (lv' := [(2, .ref q9), (0, .ref L0), (1, .int x0)]) dL_remove_6 rfl (by decide) rfl ?_
    refine g_sipush C0 (v := (-30000 : Int32)) dL_remove_7 (by decide) ?_
    refine g_widen (kk1 := 1) (nn1 := 6) (by omega) (by omega) ?_
    exact g_iret C0 rfl dL_remove_10 hv.symm rfl
  · intro r1 ho
    have hv := hcdL hz ho
    refine g_widen (kk1 := 1) (nn1 := 6) (by omega) (by omega) ?_
    exact g_iret C0 rfl dL_remove_5 hv rfl
theorem mL_remove (l : Launch) (hl0 : l.stackTraces = false) (D : va_G) (cB cC cI cO : ClassId) (g : LG) (L0 : Nat) (ua : LA) (v : LV) (x0 : Int32) (out : Int32 × LV) (hf : fL_remove v x0 = some out) : ∀ sz, Met l yL_remove (wsW_ yL_remove cL_remove 3 [(0, 5, 6, 19)]) rmL_remove (va_Pc [.ref L0, .int x0] (hPreE (hLw g) D (hTy cB cC cI cO) (labX cB cC cI cO L0 ua v) sz)) (hQi D (labX cB cC cI cO L0 ua out.2) out.1 (va_A (labX cB cC cI cO L0 ua v) sz)) 1 6 (va_A (labX cB cC cI cO L0 ua v) sz) :=
  g_metH (Qf := fun A => hQi D (labX cB cC cI cO L0 ua out.2) out.1 A) (by decide +kernel) (Nat.le_of_ble_eq_true rfl) rfl (fun C0 E0 T0 => bL_remove C0 E0 hl0 T0 L0 ua v x0 out hf)
def fL_setKind (v : LV) (x0 : Int32) : Option (Int32 × LV) := (gl_setKind v x0).bind fun r => (hcd [(1, (-20000 : Int32))] r.1).bind fun z => some (z, r.2)
abbrev rmL_setKind : Room := { frames := 7, cells := 1, slots := 6, locals := 265 }
theorem hmL_setKind : hMW yL_setKind cL_setKind 3 [(0, 5, 6, 24)] 2 := ⟨q_675, q_11, q_674, by decide, by decide, by decide +kernel⟩
theorem dL_setKind_0 : decode cL_setKind 0 = .ok (.aload_n 0, 1) := by decide +kernel
theorem dL_setKind_1 : decode cL_setKind 1 = .ok (.iload_n 1, 1) := by decide +kernel
theorem dL_setKind_2 : decode cL_setKind 2 = .ok (.invokevirtual 21, 3) := by decide +kernel
theorem dL_setKind_5 : decode cL_setKind 5 = .ok (.ireturn, 1) := by decide +kernel
theorem dL_setKind_6 : decode cL_setKind 6 = .ok (.astore_n 2, 1) := by decide +kernel
theorem dL_setKind_7 : decode cL_setKind 7 = .ok (.sipush (-20000), 3) := by decide +kernel
theorem dL_setKind_10 : decode cL_setKind 10 = .ok (.ireturn, 1) := by decide +kernel
set_option maxHeartbeats 4000000 in
set_option maxRecDepth 100000 in
theorem bL_setKind {p : Program} {l : Launch} {e : Env} {s : State} {m : MethodId} {args : Array Value} {below : List Frame} {meth : Method} {c : Code} {D : va_G} {cB cC cI cO : ClassId} {A : Nat → Prop} {g : LG} (C0 : gC RL cL_setKind 3 (some .int) p s m args meth c D (hTy cB cC cI cO) A) (E0 : hLw g A s) (hl0 : l.stackTraces = false) (T0 : c.exceptionTable.toList = tableOf [(0, 5, 6, 24)]) (L0 : Nat) (ua : LA) (v : LV) (x0 : Int32) (out : Int32 × LV) (hf : fL_setKind v x0 = some out) : gG p l e rmL_setKind s m args below meth c D A 3 (MQ below (hQi D (labX cB cC cI cO L0 ua out.2) out.1 A) args s 1 6 A) 0 0 0 [(0, .ref L0), (1, .int x0)] [] (labX cB cC cI cO L0 ua v) := by
  unfold fL_setKind at hf
  obtain ⟨r, er, hf⟩ := hl_bd hf
  obtain ⟨z, hz, hf⟩ := hl_bd hf
  cases hf
  refine g_aload_n C0 dL_setKind_0 rfl 0 rfl ?_
  refine g_iload_n C0 dL_setKind_1 rfl 1 rfl ?_
  refine g_sXi C0 E0.1.1 (P := []) (X := labX cB cC cI cO L0 ua v) (X1 := labX cB cC cI cO L0 ua r.2) (As := [.int x0]) (st := []) (mg_setKind l hl0 D cB cC cI cO L0 ua v x0 r er) hmX6_setKind q_677 ⟨Nat.le_of_ble_eq_true rfl, Nat.le_of_ble_eq_true rfl⟩ ⟨Nat.le_of_ble_eq_true rfl, Nat.le_of_ble_eq_true rfl⟩ rfl rfl rfl rfl rfl 0 rfl rfl rfl (Nat.le_of_ble_eq_true rfl) dL_setKind_2 ?_ ?_
  · intro k1 ho
    obtain ⟨rfl, hv⟩ := hcd1 hz ho
    refine ⟨6, hHd1 T0 (by decide) (by decide) (gC_t C0 _ q_676) (hBw_use E0.1.1.2.1 _ (hBad_of (List.mem_of_getElem? (i := 371) (by decide +kernel)) (by decide +kernel))), fun q9 => ?_⟩
    refine g_astore_n C0 (lv' := [(2, .ref q9), (0, .ref L0), (1, .int x0)]) dL_setKind_6 rfl (by decide) rfl ?_
    refine g_sipush C0 (v := (-20000 : Int32)) dL_setKind_7 (by decide) ?_
    refine g_widen (kk1 := 1) (nn1 := 6) (by omega) (by omega) ?_
    exact g_iret C0 rfl dL_setKind_10 hv.symm rfl
  · intro r1 ho
    have hv := hcdL hz ho
    refine g_widen (kk1 := 1) (nn1 := 6) (by omega) (by omega) ?_
    exact g_iret C0 rfl dL_setKind_5 hv rfl
theorem mL_setKind (l : Launch) (hl0 : l.stackTraces = false) (D : va_G) (cB cC cI cO : ClassId) (g : LG) (L0 : Nat) (ua : LA) (v : LV) (x0 : Int32) (out : Int32 × LV) (hf : fL_setKind v x0 = some out) : ∀ sz, Met l yL_setKind (wsW_ yL_setKind cL_setKind 3 [(0, 5, 6, 24)]) rmL_setKind (va_Pc [.ref L0, .int x0] (hPreE (hLw g) D (hTy cB cC cI cO) (labX cB cC cI cO L0 ua v) sz)) (hQi D (labX cB cC cI cO L0 ua out.2) out.1 (va_A (labX cB cC cI cO L0 ua v) sz)) 1 6 (va_A (labX cB cC cI cO L0 ua v) sz) :=
  g_metH (Qf := fun A => hQi D (labX cB cC cI cO L0 ua out.2) out.1 A) (by decide +kernel) (Nat.le_of_ble_eq_true rfl) rfl (fun C0 E0 T0 => bL_setKind C0 E0 hl0 T0 L0 ua v x0 out hf)
def fL_setSeed (v : LV) (x0 : Int32) : Option (Int32 × LV) := (gl_setSeed v x0).bind fun r => (hcd [(1, (-20000 : Int32))] r.1).bind fun z => some (z, r.2)
abbrev rmL_setSeed : Room := { frames := 7, cells := 1, slots := 6, locals := 265 }
theorem hmL_setSeed : hMW yL_setSeed cL_setSeed 3 [(0, 5, 6, 24)] 2 := ⟨q_694, q_11, q_693, by decide, by decide, by decide +kernel⟩
theorem dL_setSeed_0 : decode cL_setSeed 0 = .ok (.aload_n 0, 1) := by decide +kernel
theorem dL_setSeed_1 : decode cL_setSeed 1 = .ok (.iload_n 1, 1) := by decide +kernel
theorem dL_setSeed_2 : decode cL_setSeed 2 = .ok (.invokevirtual 26, 3) := by decide +kernel
theorem dL_setSeed_5 : decode cL_setSeed 5 = .ok (.ireturn, 1) := by decide +kernel
theorem dL_setSeed_6 : decode cL_setSeed 6 = .ok (.astore_n 2, 1) := by decide +kernel
theorem dL_setSeed_7 : decode cL_setSeed 7 = .ok (.sipush (-20000), 3) := by decide +kernel
theorem dL_setSeed_10 : decode cL_setSeed 10 = .ok (.ireturn, 1) := by decide +kernel
set_option maxHeartbeats 4000000 in
set_option maxRecDepth 100000 in
theorem bL_setSeed {p : Program} {l : Launch} {e : Env} {s : State} {m : MethodId} {args : Array Value} {below : List Frame} {meth : Method} {c : Code} {D : va_G} {cB cC cI cO : ClassId} {A : Nat → Prop} {g : LG} (C0 : gC RL cL_setSeed 3 (some .int) p s m args meth c D (hTy cB cC cI cO) A) (E0 : hLw g A s) (hl0 : l.stackTraces = false) (T0 : c.exceptionTable.toList = tableOf [(0, 5, 6, 24)]) (L0 : Nat) (ua : LA) (v : LV) (x0 : Int32) (out : Int32 × LV) (hf : fL_setSeed v x0 = some out) : gG p l e rmL_setSeed s m args below meth c D A 3 (MQ below (hQi D (labX cB cC cI cO L0 ua out.2) out.1 A) args s 1 6 A) 0 0 0 [(0, .ref L0), (1, .int x0)] [] (labX cB cC cI cO L0 ua v) := by
  unfold fL_setSeed at hf
  obtain ⟨r, er, hf⟩ := hl_bd hf
  obtain ⟨z, hz, hf⟩ := hl_bd hf
  cases hf
  refine g_aload_n C0 dL_setSeed_0 rfl 0 rfl ?_
  refine g_iload_n C0 dL_setSeed_1 rfl 1 rfl ?_
  refine g_sXi C0 E0.1.1 (P := []) (X := labX cB cC cI cO L0 ua v) (X1 := labX cB cC cI cO L0 ua r.2) (As := [.int x0]) (st := []) (mg_setSeed l hl0 D cB cC cI cO L0 ua v x0 r er) hmX6_setSeed q_695 ⟨Nat.le_of_ble_eq_true rfl, Nat.le_of_ble_eq_true rfl⟩ ⟨Nat.le_of_ble_eq_true rfl, Nat.le_of_ble_eq_true rfl⟩ rfl rfl rfl rfl rfl 0 rfl rfl rfl (Nat.le_of_ble_eq_true rfl) dL_setSeed_2 ?_ ?_
  · intro k1 ho
    obtain ⟨rfl, hv⟩ := hcd1 hz ho
    refine ⟨6, hHd1 T0 (by decide) (by decide) (gC_t C0 _ q_676) (hBw_use E0.1.1.2.1 _ (hBad_of (List.mem_of_getElem? (i := 371) (by decide +kernel)) (by decide +kernel))), fun q9 => ?_⟩
    refine g_astore_n C0 (lv' := [(2, .ref q9), (0, .ref L0), (1, .int x0)]) dL_setSeed_6 rfl (by decide) rfl ?_
    refine g_sipush C0 (v := (-20000 : Int32)) dL_setSeed_7 (by decide) ?_
    refine g_widen (kk1 := 1) (nn1 := 6) (by omega) (by omega) ?_
    exact g_iret C0 rfl dL_setSeed_10 hv.symm rfl
  · intro r1 ho
    have hv := hcdL hz ho
    refine g_widen (kk1 := 1) (nn1 := 6) (by omega) (by omega) ?_
    exact g_iret C0 rfl dL_setSeed_5 hv rfl
theorem mL_setSeed (l : Launch) (hl0 : l.stackTraces = false) (D : va_G) (cB cC cI cO : ClassId) (g : LG) (L0 : Nat) (ua : LA) (v : LV) (x0 : Int32) (out : Int32 × LV) (hf : fL_setSeed v x0 = some out) : ∀ sz, Met l yL_setSeed (wsW_ yL_setSeed cL_setSeed 3 [(0, 5, 6, 24)]) rmL_setSeed (va_Pc [.ref L0, .int x0] (hPreE (hLw g) D (hTy cB cC cI cO) (labX cB cC cI cO L0 ua v) sz)) (hQi D (labX cB cC cI cO L0 ua out.2) out.1 (va_A (labX cB cC cI cO L0 ua v) sz)) 1 6 (va_A (labX cB cC cI cO L0 ua v) sz) :=
  g_metH (Qf := fun A => hQi D (labX cB cC cI cO L0 ua out.2) out.1 A) (by decide +kernel) (Nat.le_of_ble_eq_true rfl) rfl (fun C0 E0 T0 => bL_setSeed C0 E0 hl0 T0 L0 ua v x0 out hf)
def fL_setLimit (v : LV) (x0 : Int32) : Option (Int32 × LV) := (gl_setLimit v x0).bind fun r => (hcd [(1, (-20000 : Int32))] r.1).bind fun z => some (z, r.2)
abbrev rmL_setLimit : Room := { frames := 7, cells := 1, slots := 6, locals := 265 }
theorem hmL_setLimit : hMW yL_setLimit cL_setLimit 3 [(0, 5, 6, 24)] 2 := ⟨q_709, q_11, q_708, by decide, by decide, by decide +kernel⟩
theorem dL_setLimit_0 : decode cL_setLimit 0 = .ok (.aload_n 0, 1) := by decide +kernel
theorem dL_setLimit_1 : decode cL_setLimit 1 = .ok (.iload_n 1, 1) := by decide +kernel
theorem dL_setLimit_2 : decode cL_setLimit 2 = .ok (.invokevirtual 29, 3) := by decide +kernel
theorem dL_setLimit_5 : decode cL_setLimit 5 = .ok (.ireturn, 1) := by decide +kernel
theorem dL_setLimit_6 : decode cL_setLimit 6 = .ok (.astore_n 2, 1) := by decide +kernel
theorem dL_setLimit_7 : decode cL_setLimit 7 = .ok (.sipush (-20000), 3) := by decide +kernel
theorem dL_setLimit_10 : decode cL_setLimit 10 = .ok (.ireturn, 1) := by decide +kernel
set_option maxHeartbeats 4000000 in
set_option maxRecDepth 100000 in
theorem bL_setLimit {p : Program} {l : Launch} {e : Env} {s : State} {m : MethodId} {args : Array Value} {below : List Frame} {meth : Method} {c : Code} {D : va_G} {cB cC cI cO : ClassId} {A : Nat → Prop} {g : LG} (C0 : gC RL cL_setLimit 3 (some .int) p s m args meth c D (hTy cB cC cI cO) A) (E0 : hLw g A s) (hl0 : l.stackTraces = false) (T0 : c.exceptionTable.toList = tableOf [(0, 5, 6, 24)]) (L0 : Nat) (ua : LA) (v : LV) (x0 : Int32) (out : Int32 × LV) (hf : fL_setLimit v x0 = some out) : gG p l e rmL_setLimit s m args below meth c D A 3 (MQ below (hQi D (labX cB cC cI cO L0 ua out.2) out.1 A) args s 1 6 A) 0 0 0 [(0, .ref L0), (1, .int x0)] [] (labX cB cC cI cO L0 ua v) := by
  unfold fL_setLimit at hf
  obtain ⟨r, er, hf⟩ := hl_bd hf
  obtain ⟨z, hz, hf⟩ := hl_bd hf
  cases hf
  refine g_aload_n C0 dL_setLimit_0 rfl 0 rfl ?_
  refine g_iload_n C0 dL_setLimit_1 rfl 1 rfl ?_
  refine g_sXi C0 E0.1.1 (P := []) (X := labX cB cC cI cO L0 ua v) (X1 := labX cB cC cI cO L0 ua r.2) (As := [.int x0]) (st := []) (mg_setLimit l hl0 D cB cC cI cO L0 ua v x0 r er) hmX6_setLimit q_710 ⟨Nat.le_of_ble_eq_true rfl, Nat.le_of_ble_eq_true rfl⟩ ⟨Nat.le_of_ble_eq_true rfl, Nat.le_of_ble_eq_true rfl⟩ rfl rfl rfl rfl rfl 0 rfl rfl rfl (Nat.le_of_ble_eq_true rfl) dL_setLimit_2 ?_ ?_
  · intro k1 ho
    obtain ⟨rfl, hv⟩ := hcd1 hz ho
    refine ⟨6, hHd1 T0 (by decide) (by decide) (gC_t C0 _ q_676) (hBw_use E0.1.1.2.1 _ (hBad_of (List.mem_of_getElem? (i := 371) (by decide +kernel)) (by decide +kernel))), fun q9 => ?_⟩
    refine g_astore_n C0 (lv' := [(2, .ref q9), (0, .ref L0), (1, .int x0)]) dL_setLimit_6 rfl (by decide) rfl ?_
    refine g_sipush C0 (v := (-20000 : Int32)) dL_setLimit_7 (by decide) ?_
    refine g_widen (kk1 := 1) (nn1 := 6) (by omega) (by omega) ?_
    exact g_iret C0 rfl dL_setLimit_10 hv.symm rfl
  · intro r1 ho
    have hv := hcdL hz ho
    refine g_widen (kk1 := 1) (nn1 := 6) (by omega) (by omega) ?_
    exact g_iret C0 rfl dL_setLimit_5 hv rfl
theorem mL_setLimit (l : Launch) (hl0 : l.stackTraces = false) (D : va_G) (cB cC cI cO : ClassId) (g : LG) (L0 : Nat) (ua : LA) (v : LV) (x0 : Int32) (out : Int32 × LV) (hf : fL_setLimit v x0 = some out) : ∀ sz, Met l yL_setLimit (wsW_ yL_setLimit cL_setLimit 3 [(0, 5, 6, 24)]) rmL_setLimit (va_Pc [.ref L0, .int x0] (hPreE (hLw g) D (hTy cB cC cI cO) (labX cB cC cI cO L0 ua v) sz)) (hQi D (labX cB cC cI cO L0 ua out.2) out.1 (va_A (labX cB cC cI cO L0 ua v) sz)) 1 6 (va_A (labX cB cC cI cO L0 ua v) sz) :=
  g_metH (Qf := fun A => hQi D (labX cB cC cI cO L0 ua out.2) out.1 A) (by decide +kernel) (Nat.le_of_ble_eq_true rfl) rfl (fun C0 E0 T0 => bL_setLimit C0 E0 hl0 T0 L0 ua v x0 out hf)
def fL_get (v : LV) (x0 : Int32) : Option Int32 := (gl_get v x0).bind fun r => hcd [(3, (-30000 : Int32))] r
abbrev rmL_get : Room := { frames := 7, cells := 1, slots := 6, locals := 112 }
theorem hmL_get : hMW yL_get cL_get 3 [(0, 5, 6, 19)] 2 := ⟨q_720, q_11, q_719, by decide, by decide, by decide +kernel⟩
theorem dL_get_0 : decode cL_get 0 = .ok (.aload_n 0, 1) := by decide +kernel
theorem dL_get_1 : decode cL_get 1 = .ok (.iload_n 1, 1) := by decide +kernel
theorem dL_get_2 : decode cL_get 2 = .ok (.invokevirtual 32, 3) := by decide +kernel
theorem dL_get_5 : decode cL_get 5 = .ok (.ireturn, 1) := by decide +kernel
theorem dL_get_6 : decode cL_get 6 = .ok (.astore_n 2, 1) := by decide +kernel
theorem dL_get_7 : decode cL_get 7 = .ok (.sipush (-30000), 3) := by decide +kernel
theorem dL_get_10 : decode cL_get 10 = .ok (.ireturn, 1) := by decide +kernel
set_option maxHeartbeats 4000000 in
set_option maxRecDepth 100000 in
theorem bL_get {p : Program} {l : Launch} {e : Env} {s : State} {m : MethodId} {args : Array Value} {below : List Frame} {meth : Method} {c : Code} {D : va_G} {cB cC cI cO : ClassId} {A : Nat → Prop} {g : LG} (C0 : gC RL cL_get 3 (some .int) p s m args meth c D (hTy cB cC cI cO) A) (E0 : hLw g A s) (hl0 : l.stackTraces = false) (T0 : c.exceptionTable.toList = tableOf [(0, 5, 6, 19)]) (L0 : Nat) (ua : LA) (v : LV) (x0 : Int32) (out : Int32) (hf : fL_get v x0 = some out) : gG p l e rmL_get s m args below meth c D A 3 (MQ below (hQi D (labX cB cC cI cO L0 ua v) out A) args s 1 6 A) 0 0 0 [(0, .ref L0), (1, .int x0)] [] (labX cB cC cI cO L0 ua v) := by
  unfold fL_get at hf
  obtain ⟨r, er, hf⟩ := hl_bd hf
  refine g_aload_n C0 dL_get_0 rfl 0 rfl ?_
  refine g_iload_n C0 dL_get_1 rfl 1 rfl ?_
  refine g_sXi C0 E0.1.1 (P := []) (X := labX cB cC cI cO L0 ua v) (X1 := labX cB cC cI cO L0 ua v) (As := [.int x0]) (st := []) (mg_get l hl0 D cB cC cI cO L0 ua v x0 r er) hmX6_get q_281 ⟨Nat.le_of_ble_eq_true rfl, Nat.le_of_ble_eq_true rfl⟩ ⟨Nat.le_of_ble_eq_true rfl, Nat.le_of_ble_eq_true rfl⟩ rfl rfl rfl rfl rfl 0 rfl rfl rfl (Nat.le_of_ble_eq_true rfl) dL_get_2 ?_ ?_
  · intro k1 ho
    obtain ⟨rfl, hv⟩ := hcd1 hf ho
    refine ⟨6, hHd1 T0 (by decide) (by decide) (gC_t C0 _ q_721) (hBw_use E0.1.1.2.1 _ (hBad_of (List.mem_of_getElem? (i := 287) (by decide +kernel)) (by decide +kernel))), fun q9 => ?_⟩
    refine g_astore_n C0 (lv' := [(2, .ref q9), (0, .ref L0), (1, .int x0)]) dL_get_6 rfl (by decide) rfl ?_
    refine g_sipush C0 (v := (-30000 : Int32)) dL_get_7 (by decide) ?_
    refine g_widen (kk1 := 1) (nn1 := 6) (by omega) (by omega) ?_
    exact g_iret C0 rfl dL_get_10 hv.symm rfl
  · intro r1 ho
    have hv := hcdL hf ho
    refine g_widen (kk1 := 1) (nn1 := 6) (by omega) (by omega) ?_
    exact g_iret C0 rfl dL_get_5 hv rfl
theorem mL_get (l : Launch) (hl0 : l.stackTraces = false) (D : va_G) (cB cC cI cO : ClassId) (g : LG) (L0 : Nat) (ua : LA) (v : LV) (x0 : Int32) (out : Int32) (hf : fL_get v x0 = some out) : ∀ sz, Met l yL_get (wsW_ yL_get cL_get 3 [(0, 5, 6, 19)]) rmL_get (va_Pc [.ref L0, .int x0] (hPreE (hLw g) D (hTy cB cC cI cO) (labX cB cC cI cO L0 ua v) sz)) (hQi D (labX cB cC cI cO L0 ua v) out (va_A (labX cB cC cI cO L0 ua v) sz)) 1 6 (va_A (labX cB cC cI cO L0 ua v) sz) :=
  g_metH (Qf := fun A => hQi D (labX cB cC cI cO L0 ua v) out A) (by decide +kernel) (Nat.le_of_ble_eq_true rfl) rfl (fun C0 E0 T0 => bL_get C0 E0 hl0 T0 L0 ua v x0 out hf)
def fL_probesBySlot (v : LV) (x0 : Int32) : Option Int32 := (gl_probesBySlot v x0).bind fun r => hcd [(3, (-30000 : Int32))] r
abbrev rmL_probesBySlot : Room := { frames := 7, cells := 1, slots := 6, locals := 112 }
theorem hmL_probesBySlot : hMW yL_probesBySlot cL_probesBySlot 3 [(0, 5, 6, 19)] 2 := ⟨q_724, q_11, q_723, by decide, by decide, by decide +kernel⟩
theorem dL_probesBySlot_0 : decode cL_probesBySlot 0 = .ok (.aload_n 0, 1) := by decide +kernel
theorem dL_probesBySlot_1 : decode cL_probesBySlot 1 = .ok (.iload_n 1, 1) := by decide +kernel
theorem dL_probesBySlot_2 : decode cL_probesBySlot 2 = .ok (.invokevirtual 35, 3) := by decide +kernel
theorem dL_probesBySlot_5 : decode cL_probesBySlot 5 = .ok (.ireturn, 1) := by decide +kernel
theorem dL_probesBySlot_6 : decode cL_probesBySlot 6 = .ok (.astore_n 2, 1) := by decide +kernel
theorem dL_probesBySlot_7 : decode cL_probesBySlot 7 = .ok (.sipush (-30000), 3) := by decide +kernel
theorem dL_probesBySlot_10 : decode cL_probesBySlot 10 = .ok (.ireturn, 1) := by decide +kernel
set_option maxHeartbeats 4000000 in
set_option maxRecDepth 100000 in
theorem bL_probesBySlot {p : Program} {l : Launch} {e : Env} {s : State} {m : MethodId} {args : Array Value} {below : List Frame} {meth : Method} {c : Code} {D : va_G} {cB cC cI cO : ClassId} {A : Nat → Prop} {g : LG} (C0 : gC RL cL_probesBySlot 3 (some .int) p s m args meth c D (hTy cB cC cI cO) A) (E0 : hLw g A s) (hl0 : l.stackTraces = false) (T0 : c.exceptionTable.toList = tableOf [(0, 5, 6, 19)]) (L0 : Nat) (ua : LA) (v : LV) (x0 : Int32) (out : Int32) (hf : fL_probesBySlot v x0 = some out) : gG p l e rmL_probesBySlot s m args below meth c D A 3 (MQ below (hQi D (labX cB cC cI cO L0 ua v) out A) args s 1 6 A) 0 0 0 [(0, .ref L0), (1, .int x0)] [] (labX cB cC cI cO L0 ua v) := by
  unfold fL_probesBySlot at hf
  obtain ⟨r, er, hf⟩ := hl_bd hf
  refine g_aload_n C0 dL_probesBySlot_0 rfl 0 rfl ?_
  refine g_iload_n C0 dL_probesBySlot_1 rfl 1 rfl ?_
  refine g_sXi C0 E0.1.1 (P := []) (X := labX cB cC cI cO L0 ua v) (X1 := labX cB cC cI cO L0 ua v) (As := [.int x0]) (st := []) (mg_probesBySlot l hl0 D cB cC cI cO L0 ua v x0 r er) hmX6_probesBySlot q_417 ⟨Nat.le_of_ble_eq_true rfl, Nat.le_of_ble_eq_true rfl⟩ ⟨Nat.le_of_ble_eq_true rfl, Nat.le_of_ble_eq_true rfl⟩ rfl rfl rfl rfl rfl 0 rfl rfl rfl (Nat.le_of_ble_eq_true rfl) dL_probesBySlot_2 ?_ ?_
  · intro k1 ho
    obtain ⟨rfl, hv⟩ := hcd1 hf ho
    refine ⟨6, hHd1 T0 (by decide) (by decide) (gC_t C0 _ q_721) (hBw_use E0.1.1.2.1 _ (hBad_of (List.mem_of_getElem? (i := 287) (by decide +kernel)) (by decide +kernel))), fun q9 => ?_⟩
    refine g_astore_n C0 (lv' := [(2, .ref q9), (0, .ref L0), (1, .int x0)]) dL_probesBySlot_6 rfl (by decide) rfl ?_
    refine g_sipush C0 (v := (-30000 : Int32)) dL_probesBySlot_7 (by decide) ?_
    refine g_widen (kk1 := 1) (nn1 := 6) (by omega) (by omega) ?_
    exact g_iret C0 rfl dL_probesBySlot_10 hv.symm rfl
  · intro r1 ho
    have hv := hcdL hf ho
    refine g_widen (kk1 := 1) (nn1 := 6) (by omega) (by omega) ?_
    exact g_iret C0 rfl dL_probesBySlot_5 hv rfl
theorem mL_probesBySlot (l : Launch) (hl0 : l.stackTraces = false) (D : va_G) (cB cC cI cO : ClassId) (g : LG) (L0 : Nat) (ua : LA) (v : LV) (x0 : Int32) (out : Int32) (hf : fL_probesBySlot v x0 = some out) : ∀ sz, Met l yL_probesBySlot (wsW_ yL_probesBySlot cL_probesBySlot 3 [(0, 5, 6, 19)]) rmL_probesBySlot (va_Pc [.ref L0, .int x0] (hPreE (hLw g) D (hTy cB cC cI cO) (labX cB cC cI cO L0 ua v) sz)) (hQi D (labX cB cC cI cO L0 ua v) out (va_A (labX cB cC cI cO L0 ua v) sz)) 1 6 (va_A (labX cB cC cI cO L0 ua v) sz) :=
  g_metH (Qf := fun A => hQi D (labX cB cC cI cO L0 ua v) out A) (by decide +kernel) (Nat.le_of_ble_eq_true rfl) rfl (fun C0 E0 T0 => bL_probesBySlot C0 E0 hl0 T0 L0 ua v x0 out hf)
def fL_keyAt (v : LV) (x0 : Int32) : Option Int32 := (gl_keyAt v x0).bind fun r => hcd [(3, (-30000 : Int32))] r
abbrev rmL_keyAt : Room := { frames := 7, cells := 1, slots := 6, locals := 113 }
theorem hmL_keyAt : hMW yL_keyAt cL_keyAt 3 [(0, 5, 6, 19)] 2 := ⟨q_727, q_11, q_726, by decide, by decide, by decide +kernel⟩
theorem dL_keyAt_0 : decode cL_keyAt 0 = .ok (.aload_n 0, 1) := by decide +kernel
theorem dL_keyAt_1 : decode cL_keyAt 1 = .ok (.iload_n 1, 1) := by decide +kernel
theorem dL_keyAt_2 : decode cL_keyAt 2 = .ok (.invokevirtual 38, 3) := by decide +kernel
theorem dL_keyAt_5 : decode cL_keyAt 5 = .ok (.ireturn, 1) := by decide +kernel
theorem dL_keyAt_6 : decode cL_keyAt 6 = .ok (.astore_n 2, 1) := by decide +kernel
theorem dL_keyAt_7 : decode cL_keyAt 7 = .ok (.sipush (-30000), 3) := by decide +kernel
theorem dL_keyAt_10 : decode cL_keyAt 10 = .ok (.ireturn, 1) := by decide +kernel
set_option maxHeartbeats 4000000 in
set_option maxRecDepth 100000 in
theorem bL_keyAt {p : Program} {l : Launch} {e : Env} {s : State} {m : MethodId} {args : Array Value} {below : List Frame} {meth : Method} {c : Code} {D : va_G} {cB cC cI cO : ClassId} {A : Nat → Prop} {g : LG} (C0 : gC RL cL_keyAt 3 (some .int) p s m args meth c D (hTy cB cC cI cO) A) (E0 : hLw g A s) (hl0 : l.stackTraces = false) (T0 : c.exceptionTable.toList = tableOf [(0, 5, 6, 19)]) (L0 : Nat) (ua : LA) (v : LV) (x0 : Int32) (out : Int32) (hf : fL_keyAt v x0 = some out) : gG p l e rmL_keyAt s m args below meth c D A 3 (MQ below (hQi D (labX cB cC cI cO L0 ua v) out A) args s 1 6 A) 0 0 0 [(0, .ref L0), (1, .int x0)] [] (labX cB cC cI cO L0 ua v) := by
  unfold fL_keyAt at hf
  obtain ⟨r, er, hf⟩ := hl_bd hf
  refine g_aload_n C0 dL_keyAt_0 rfl 0 rfl ?_
  refine g_iload_n C0 dL_keyAt_1 rfl 1 rfl ?_
  refine g_sXi C0 E0.1.1 (P := []) (X := labX cB cC cI cO L0 ua v) (X1 := labX cB cC cI cO L0 ua v) (As := [.int x0]) (st := []) (mg_keyAt l hl0 D cB cC cI cO L0 ua v x0 r er) hmX6_keyAt q_425 ⟨Nat.le_of_ble_eq_true rfl, Nat.le_of_ble_eq_true rfl⟩ ⟨Nat.le_of_ble_eq_true rfl, Nat.le_of_ble_eq_true rfl⟩ rfl rfl rfl rfl rfl 0 rfl rfl rfl (Nat.le_of_ble_eq_true rfl) dL_keyAt_2 ?_ ?_
  · intro k1 ho
    obtain ⟨rfl, hv⟩ := hcd1 hf ho
    refine ⟨6, hHd1 T0 (by decide) (by decide) (gC_t C0 _ q_721) (hBw_use E0.1.1.2.1 _ (hBad_of (List.mem_of_getElem? (i := 287) (by decide +kernel)) (by decide +kernel))), fun q9 => ?_⟩
    refine g_astore_n C0 (lv' := [(2, .ref q9), (0, .ref L0), (1, .int x0)]) dL_keyAt_6 rfl (by decide) rfl ?_
    refine g_sipush C0 (v := (-30000 : Int32)) dL_keyAt_7 (by decide) ?_
    refine g_widen (kk1 := 1) (nn1 := 6) (by omega) (by omega) ?_
    exact g_iret C0 rfl dL_keyAt_10 hv.symm rfl
  · intro r1 ho
    have hv := hcdL hf ho
    refine g_widen (kk1 := 1) (nn1 := 6) (by omega) (by omega) ?_
    exact g_iret C0 rfl dL_keyAt_5 hv rfl
theorem mL_keyAt (l : Launch) (hl0 : l.stackTraces = false) (D : va_G) (cB cC cI cO : ClassId) (g : LG) (L0 : Nat) (ua : LA) (v : LV) (x0 : Int32) (out : Int32) (hf : fL_keyAt v x0 = some out) : ∀ sz, Met l yL_keyAt (wsW_ yL_keyAt cL_keyAt 3 [(0, 5, 6, 19)]) rmL_keyAt (va_Pc [.ref L0, .int x0] (hPreE (hLw g) D (hTy cB cC cI cO) (labX cB cC cI cO L0 ua v) sz)) (hQi D (labX cB cC cI cO L0 ua v) out (va_A (labX cB cC cI cO L0 ua v) sz)) 1 6 (va_A (labX cB cC cI cO L0 ua v) sz) :=
  g_metH (Qf := fun A => hQi D (labX cB cC cI cO L0 ua v) out A) (by decide +kernel) (Nat.le_of_ble_eq_true rfl) rfl (fun C0 E0 T0 => bL_keyAt C0 E0 hl0 T0 L0 ua v x0 out hf)
def fL_hardestKey (v : LV)  : Option Int32 := (gl_hardestKey v ).bind fun r => hcd [(3, (-30000 : Int32))] r
abbrev rmL_hardestKey : Room := { frames := 7, cells := 1, slots := 6, locals := 115 }
theorem hmL_hardestKey : hMW yL_hardestKey cL_hardestKey 2 [(0, 4, 5, 19)] 1 := ⟨q_730, q_11, q_729, by decide, by decide, by decide +kernel⟩
theorem dL_hardestKey_0 : decode cL_hardestKey 0 = .ok (.aload_n 0, 1) := by decide +kernel
theorem dL_hardestKey_1 : decode cL_hardestKey 1 = .ok (.invokevirtual 41, 3) := by decide +kernel
theorem dL_hardestKey_4 : decode cL_hardestKey 4 = .ok (.ireturn, 1) := by decide +kernel
theorem dL_hardestKey_5 : decode cL_hardestKey 5 = .ok (.astore_n 1, 1) := by decide +kernel
theorem dL_hardestKey_6 : decode cL_hardestKey 6 = .ok (.sipush (-30000), 3) := by decide +kernel
theorem dL_hardestKey_9 : decode cL_hardestKey 9 = .ok (.ireturn, 1) := by decide +kernel
set_option maxHeartbeats 4000000 in
set_option maxRecDepth 100000 in
theorem bL_hardestKey {p : Program} {l : Launch} {e : Env} {s : State} {m : MethodId} {args : Array Value} {below : List Frame} {meth : Method} {c : Code} {D : va_G} {cB cC cI cO : ClassId} {A : Nat → Prop} {g : LG} (C0 : gC RL cL_hardestKey 2 (some .int) p s m args meth c D (hTy cB cC cI cO) A) (E0 : hLw g A s) (hl0 : l.stackTraces = false) (T0 : c.exceptionTable.toList = tableOf [(0, 4, 5, 19)]) (L0 : Nat) (ua : LA) (v : LV)  (out : Int32) (hf : fL_hardestKey v  = some out) : gG p l e rmL_hardestKey s m args below meth c D A 2 (MQ below (hQi D (labX cB cC cI cO L0 ua v) out A) args s 1 6 A) 0 0 0 [(0, .ref L0)] [] (labX cB cC cI cO L0 ua v) := by
  unfold fL_hardestKey at hf
  obtain ⟨r, er, hf⟩ := hl_bd hf
  refine g_aload_n C0 dL_hardestKey_0 rfl 0 rfl ?_
  refine g_sXi C0 E0.1.1 (P := []) (X := labX cB cC cI cO L0 ua v) (X1 := labX cB cC cI cO L0 ua v) (As := []) (st := []) (mg_hardestKey l hl0 D cB cC cI cO L0 ua v  r er) hmX6_hardestKey q_731 ⟨Nat.le_of_ble_eq_true rfl, Nat.le_of_ble_eq_true rfl⟩ ⟨Nat.le_of_ble_eq_true rfl, Nat.le_of_ble_eq_true rfl⟩ rfl rfl rfl rfl rfl 0 rfl rfl rfl (Nat.le_of_ble_eq_true rfl) dL_hardestKey_1 ?_ ?_
  · intro k1 ho
    obtain ⟨rfl, hv⟩ := hcd1 hf ho
    refine ⟨5, hHd1 T0 (by decide) (by decide) (gC_t C0 _ q_721) (hBw_use E0.1.1.2.1 _ (hBad_of (List.mem_of_getElem? (i := 287) (by decide +kernel)) (by decide +kernel))), fun q9 => ?_⟩
    refine g_astore_n C0 (lv' := [(1, .ref q9), (0, .ref L0)]) dL_hardestKey_5 rfl (by decide) rfl ?_
    refine g_sipush C0 (v := (-30000 : Int32)) dL_hardestKey_6 (by decide) ?_
    refine g_widen (kk1 := 1) (nn1 := 6) (by omega) (by omega) ?_
    exact g_iret C0 rfl dL_hardestKey_9 hv.symm rfl
  · intro r1 ho
    have hv := hcdL hf ho
    refine g_widen (kk1 := 1) (nn1 := 6) (by omega) (by omega) ?_
    exact g_iret C0 rfl dL_hardestKey_4 hv rfl
theorem mL_hardestKey (l : Launch) (hl0 : l.stackTraces = false) (D : va_G) (cB cC cI cO : ClassId) (g : LG) (L0 : Nat) (ua : LA) (v : LV)  (out : Int32) (hf : fL_hardestKey v  = some out) : ∀ sz, Met l yL_hardestKey (wsW_ yL_hardestKey cL_hardestKey 2 [(0, 4, 5, 19)]) rmL_hardestKey (va_Pc [.ref L0] (hPreE (hLw g) D (hTy cB cC cI cO) (labX cB cC cI cO L0 ua v) sz)) (hQi D (labX cB cC cI cO L0 ua v) out (va_A (labX cB cC cI cO L0 ua v) sz)) 1 6 (va_A (labX cB cC cI cO L0 ua v) sz) :=
  g_metH (Qf := fun A => hQi D (labX cB cC cI cO L0 ua v) out A) (by decide +kernel) (Nat.le_of_ble_eq_true rfl) rfl (fun C0 E0 T0 => bL_hardestKey C0 E0 hl0 T0 L0 ua v  out hf)
def fL_keyIn (v : LV) (x0 : Int32) : Option Int32 := (gl_keyIn v x0).bind fun r => hcd [(4, (-25000 : Int32)), (3, (-30000 : Int32))] r
abbrev rmL_keyIn : Room := { frames := 7, cells := 1, slots := 6, locals := 111 }
theorem hmL_keyIn : hMW yL_keyIn cL_keyIn 3 [(0, 5, 6, 48), (0, 5, 11, 19)] 2 := ⟨q_737, q_11, q_736, by decide, by decide, by decide +kernel⟩
theorem dL_keyIn_0 : decode cL_keyIn 0 = .ok (.aload_n 0, 1) := by decide +kernel
theorem dL_keyIn_1 : decode cL_keyIn 1 = .ok (.iload_n 1, 1) := by decide +kernel
theorem dL_keyIn_2 : decode cL_keyIn 2 = .ok (.invokevirtual 45, 3) := by decide +kernel
theorem dL_keyIn_5 : decode cL_keyIn 5 = .ok (.ireturn, 1) := by decide +kernel
theorem dL_keyIn_6 : decode cL_keyIn 6 = .ok (.astore_n 2, 1) := by decide +kernel
theorem dL_keyIn_7 : decode cL_keyIn 7 = .ok (.sipush (-25000), 3) := by decide +kernel
theorem dL_keyIn_10 : decode cL_keyIn 10 = .ok (.ireturn, 1) := by decide +kernel
theorem dL_keyIn_11 : decode cL_keyIn 11 = .ok (.astore_n 2, 1) := by decide +kernel
theorem dL_keyIn_12 : decode cL_keyIn 12 = .ok (.sipush (-30000), 3) := by decide +kernel
theorem dL_keyIn_15 : decode cL_keyIn 15 = .ok (.ireturn, 1) := by decide +kernel
set_option maxHeartbeats 4000000 in
set_option maxRecDepth 100000 in
theorem bL_keyIn {p : Program} {l : Launch} {e : Env} {s : State} {m : MethodId} {args : Array Value} {below : List Frame} {meth : Method} {c : Code} {D : va_G} {cB cC cI cO : ClassId} {A : Nat → Prop} {g : LG} (C0 : gC RL cL_keyIn 3 (some .int) p s m args meth c D (hTy cB cC cI cO) A) (E0 : hLw g A s) (hl0 : l.stackTraces = false) (T0 : c.exceptionTable.toList = tableOf [(0, 5, 6, 48), (0, 5, 11, 19)]) (L0 : Nat) (ua : LA) (v : LV) (x0 : Int32) (out : Int32) (hf : fL_keyIn v x0 = some out) : gG p l e rmL_keyIn s m args below meth c D A 3 (MQ below (hQi D (labX cB cC cI cO L0 ua v) out A) args s 1 6 A) 0 0 0 [(0, .ref L0), (1, .int x0)] [] (labX cB cC cI cO L0 ua v) := by
  unfold fL_keyIn at hf
  obtain ⟨r, er, hf⟩ := hl_bd hf
  refine g_aload_n C0 dL_keyIn_0 rfl 0 rfl ?_
  refine g_iload_n C0 dL_keyIn_1 rfl 1 rfl ?_
  refine g_sXi C0 E0.1.1 (P := []) (X := labX cB cC cI cO L0 ua v) (X1 := labX cB cC cI cO L0 ua v) (As := [.int x0]) (st := []) (mg_keyIn l hl0 D cB cC cI cO L0 ua v x0 r er) hmX6_keyIn q_759 ⟨Nat.le_of_ble_eq_true rfl, Nat.le_of_ble_eq_true rfl⟩ ⟨Nat.le_of_ble_eq_true rfl, Nat.le_of_ble_eq_true rfl⟩ rfl rfl rfl rfl rfl 0 rfl rfl rfl (Nat.le_of_ble_eq_true rfl) dL_keyIn_2 ?_ ?_
  · intro k1 ho
    rcases hcd2 hf ho with ⟨rfl, hv⟩ | ⟨rfl, -, hv⟩
    · refine ⟨6, hHd1 T0 (by decide) (by decide) (gC_t C0 _ q_738) (hBw_use E0.1.1.2.1 _ (hBad_of (List.mem_of_getElem? (i := 391) (by decide +kernel)) (by decide +kernel))), fun q9 => ?_⟩
      refine g_astore_n C0 (lv' := [(2, .ref q9), (0, .ref L0), (1, .int x0)]) dL_keyIn_6 rfl (by decide) rfl ?_
      refine g_sipush C0 (v := (-25000 : Int32)) dL_keyIn_7 (by decide) ?_
      refine g_widen (kk1 := 1) (nn1 := 6) (by omega) (by omega) ?_
      exact g_iret C0 rfl dL_keyIn_10 hv.symm rfl
    · refine ⟨11, hHd2 T0 (by decide) (gC_t C0 _ q_738) E0.2.2.1.2 (by decide) (by decide) (gC_t C0 _ q_721) (hBw_use E0.1.1.2.1 _ (hBad_of (List.mem_of_getElem? (i := 287) (by decide +kernel)) (by decide +kernel))), fun q9 => ?_⟩
      refine g_astore_n C0 (lv' := [(2, .ref q9), (0, .ref L0), (1, .int x0)]) dL_keyIn_11 rfl (by decide) rfl ?_
      refine g_sipush C0 (v := (-30000 : Int32)) dL_keyIn_12 (by decide) ?_
      refine g_widen (kk1 := 1) (nn1 := 6) (by omega) (by omega) ?_
      exact g_iret C0 rfl dL_keyIn_15 hv.symm rfl
  · intro r1 ho
    have hv := hcdL hf ho
    refine g_widen (kk1 := 1) (nn1 := 6) (by omega) (by omega) ?_
    exact g_iret C0 rfl dL_keyIn_5 hv rfl
theorem mL_keyIn (l : Launch) (hl0 : l.stackTraces = false) (D : va_G) (cB cC cI cO : ClassId) (g : LG) (L0 : Nat) (ua : LA) (v : LV) (x0 : Int32) (out : Int32) (hf : fL_keyIn v x0 = some out) : ∀ sz, Met l yL_keyIn (wsW_ yL_keyIn cL_keyIn 3 [(0, 5, 6, 48), (0, 5, 11, 19)]) rmL_keyIn (va_Pc [.ref L0, .int x0] (hPreE (hLw g) D (hTy cB cC cI cO) (labX cB cC cI cO L0 ua v) sz)) (hQi D (labX cB cC cI cO L0 ua v) out (va_A (labX cB cC cI cO L0 ua v) sz)) 1 6 (va_A (labX cB cC cI cO L0 ua v) sz) :=
  g_metH (Qf := fun A => hQi D (labX cB cC cI cO L0 ua v) out A) (by decide +kernel) (Nat.le_of_ble_eq_true rfl) rfl (fun C0 E0 T0 => bL_keyIn C0 E0 hl0 T0 L0 ua v x0 out hf)
def fL_put (v : LV) (x0 : Int32) (x1 : Int32) : Option (Int32 × LV) := (gl_put v x0 x1).bind fun r => (hcB [(1, (-20000 : Int32)), (2, (-10000 : Int32))] r.1).bind fun z => some (z, r.2)
abbrev rmL_put : Room := { frames := 7, cells := 1, slots := 6, locals := 268 }
theorem hmL_put : hMW yL_put cL_put 4 [(0, 14, 15, 24), (0, 14, 20, 54)] 3 := ⟨q_766, q_11, q_765, by decide, by decide, by decide +kernel⟩
theorem dL_put_0 : decode cL_put 0 = .ok (.aload_n 0, 1) := by decide +kernel
theorem dL_put_1 : decode cL_put 1 = .ok (.iload_n 1, 1) := by decide +kernel
theorem dL_put_2 : decode cL_put 2 = .ok (.iload_n 2, 1) := by decide +kernel
theorem dL_put_3 : decode cL_put 3 = .ok (.invokevirtual 50, 3) := by decide +kernel
theorem dL_put_6 : decode cL_put 6 = .ok (.ifCond .eq 7, 3) := by decide +kernel
theorem dL_put_9 : decode cL_put 9 = .ok (.iconst 1, 1) := by decide +kernel
theorem dL_put_10 : decode cL_put 10 = .ok (.goto 4, 3) := by decide +kernel
theorem dL_put_13 : decode cL_put 13 = .ok (.iconst 0, 1) := by decide +kernel
theorem dL_put_14 : decode cL_put 14 = .ok (.ireturn, 1) := by decide +kernel
theorem dL_put_15 : decode cL_put 15 = .ok (.astore_n 3, 1) := by decide +kernel
theorem dL_put_16 : decode cL_put 16 = .ok (.sipush (-20000), 3) := by decide +kernel
theorem dL_put_19 : decode cL_put 19 = .ok (.ireturn, 1) := by decide +kernel
theorem dL_put_20 : decode cL_put 20 = .ok (.astore_n 3, 1) := by decide +kernel
theorem dL_put_21 : decode cL_put 21 = .ok (.sipush (-10000), 3) := by decide +kernel
theorem dL_put_24 : decode cL_put 24 = .ok (.ireturn, 1) := by decide +kernel
set_option maxHeartbeats 4000000 in
set_option maxRecDepth 100000 in
theorem bL_put {p : Program} {l : Launch} {e : Env} {s : State} {m : MethodId} {args : Array Value} {below : List Frame} {meth : Method} {c : Code} {D : va_G} {cB cC cI cO : ClassId} {A : Nat → Prop} {g : LG} (C0 : gC RL cL_put 4 (some .int) p s m args meth c D (hTy cB cC cI cO) A) (E0 : hLw g A s) (hl0 : l.stackTraces = false) (T0 : c.exceptionTable.toList = tableOf [(0, 14, 15, 24), (0, 14, 20, 54)]) (L0 : Nat) (ua : LA) (v : LV) (x0 : Int32) (x1 : Int32) (out : Int32 × LV) (hf : fL_put v x0 x1 = some out) : gG p l e rmL_put s m args below meth c D A 4 (MQ below (hQi D (labX cB cC cI cO L0 ua out.2) out.1 A) args s 1 6 A) 0 0 0 [(0, .ref L0), (1, .int x0), (2, .int x1)] [] (labX cB cC cI cO L0 ua v) := by
  unfold fL_put at hf
  obtain ⟨r, er, hf⟩ := hl_bd hf
  obtain ⟨z, hz, hf⟩ := hl_bd hf
  cases hf
  refine g_aload_n C0 dL_put_0 rfl 0 rfl ?_
  refine g_iload_n C0 dL_put_1 rfl 1 rfl ?_
  refine g_iload_n C0 dL_put_2 rfl 2 rfl ?_
  refine g_sXi C0 E0.1.1 (P := []) (X := labX cB cC cI cO L0 ua v) (X1 := labX cB cC cI cO L0 ua r.2) (As := [.int x0, .int x1]) (st := []) (mg_put l hl0 D cB cC cI cO L0 ua v x0 x1 r er) hmX6_put q_768 ⟨Nat.le_of_ble_eq_true rfl, Nat.le_of_ble_eq_true rfl⟩ ⟨Nat.le_of_ble_eq_true rfl, Nat.le_of_ble_eq_true rfl⟩ rfl rfl rfl rfl rfl 0 rfl rfl rfl (Nat.le_of_ble_eq_true rfl) dL_put_3 ?_ ?_
  · intro k1 ho
    rcases hcB2 hz ho with ⟨rfl, hv⟩ | ⟨rfl, -, hv⟩
    · refine ⟨15, hHd1 T0 (by decide) (by decide) (gC_t C0 _ q_676) (hBw_use E0.1.1.2.1 _ (hBad_of (List.mem_of_getElem? (i := 371) (by decide +kernel)) (by decide +kernel))), fun q9 => ?_⟩
      refine g_astore_n C0 (lv' := [(3, .ref q9), (0, .ref L0), (1, .int x0), (2, .int x1)]) dL_put_15 rfl (by decide) rfl ?_
      refine g_sipush C0 (v := (-20000 : Int32)) dL_put_16 (by decide) ?_
      refine g_widen (kk1 := 1) (nn1 := 6) (by omega) (by omega) ?_
      exact g_iret C0 rfl dL_put_19 hv.symm rfl
    · refine ⟨20, hHd2 T0 (by decide) (gC_t C0 _ q_676) E0.2.2.1.1 (by decide) (by decide) (gC_t C0 _ q_767) (hBw_use E0.1.1.2.1 _ (hBad_of (List.mem_of_getElem? (i := 779) (by decide +kernel)) (by decide +kernel))), fun q9 => ?_⟩
      refine g_astore_n C0 (lv' := [(3, .ref q9), (0, .ref L0), (1, .int x0), (2, .int x1)]) dL_put_20 rfl (by decide) rfl ?_
      refine g_sipush C0 (v := (-10000 : Int32)) dL_put_21 (by decide) ?_
      refine g_widen (kk1 := 1) (nn1 := 6) (by omega) (by omega) ?_
      exact g_iret C0 rfl dL_put_24 hv.symm rfl
  · intro r1 ho
    have hv := hcBL hz ho
    refine g_if_eq C0 (tgt := 13) dL_put_6 (by decide) (fun c1 => ?_) (fun c1 => ?_)
    · rw [if_pos c1] at hv
      refine g_iconst C0 (v := (0 : Int32)) dL_put_13 (by decide) ?_
      refine g_widen (kk1 := 1) (nn1 := 6) (by omega) (by omega) ?_
      exact g_iret C0 rfl dL_put_14 hv rfl
    · rw [if_neg c1] at hv
      refine g_iconst C0 (v := (1 : Int32)) dL_put_9 (by decide) ?_
      refine g_goto C0 (tgt := 14) dL_put_10 (by decide) ?_
      refine g_widen (kk1 := 1) (nn1 := 6) (by omega) (by omega) ?_
      exact g_iret C0 rfl dL_put_14 hv rfl
theorem mL_put (l : Launch) (hl0 : l.stackTraces = false) (D : va_G) (cB cC cI cO : ClassId) (g : LG) (L0 : Nat) (ua : LA) (v : LV) (x0 : Int32) (x1 : Int32) (out : Int32 × LV) (hf : fL_put v x0 x1 = some out) : ∀ sz, Met l yL_put (wsW_ yL_put cL_put 4 [(0, 14, 15, 24), (0, 14, 20, 54)]) rmL_put (va_Pc [.ref L0, .int x0, .int x1] (hPreE (hLw g) D (hTy cB cC cI cO) (labX cB cC cI cO L0 ua v) sz)) (hQi D (labX cB cC cI cO L0 ua out.2) out.1 (va_A (labX cB cC cI cO L0 ua v) sz)) 1 6 (va_A (labX cB cC cI cO L0 ua v) sz) :=
  g_metH (Qf := fun A => hQi D (labX cB cC cI cO L0 ua out.2) out.1 A) (by decide +kernel) (Nat.le_of_ble_eq_true rfl) rfl (fun C0 E0 T0 => bL_put C0 E0 hl0 T0 L0 ua v x0 x1 out hf)
