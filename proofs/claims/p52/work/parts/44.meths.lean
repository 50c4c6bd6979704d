/-! the law's methods without a table -/
/-! the law's cell: 14 instructions -/
def fL_cell (g : LG) (x0 : Int32) : Option (Int32) := if (Int32.ofNat g.2.2.2.1) ≤ x0 then (some (((7919 : Int32) * x0) + (12 : Int32))) else (if hl_in x0 g.2.2.2.1 = true then (some (g.2.2.2.2 x0.toNatClampNeg)) else none)
abbrev rmL_cell : Room := { frames := 0, cells := 0, slots := 0, locals := 60 }
theorem hmL_cell : hMS yL_cell cL_cell 2 (some .int) 2 := ⟨q_672, q_11, q_671, by decide, by decide, by decide +kernel⟩
theorem dL_cell_0 : decode cL_cell 0 = .ok (.iload_n 1, 1) := by decide +kernel
theorem dL_cell_1 : decode cL_cell 1 = .ok (.aload_n 0, 1) := by decide +kernel
theorem dL_cell_2 : decode cL_cell 2 = .ok (.arraylength, 1) := by decide +kernel
theorem dL_cell_3 : decode cL_cell 3 = .ok (.if_icmp .ge 9, 3) := by decide +kernel
theorem dL_cell_6 : decode cL_cell 6 = .ok (.aload_n 0, 1) := by decide +kernel
theorem dL_cell_7 : decode cL_cell 7 = .ok (.iload_n 1, 1) := by decide +kernel
theorem dL_cell_8 : decode cL_cell 8 = .ok (.iaload, 1) := by decide +kernel
theorem dL_cell_9 : decode cL_cell 9 = .ok (.goto 11, 3) := by decide +kernel
theorem dL_cell_12 : decode cL_cell 12 = .ok (.sipush 7919, 3) := by decide +kernel
theorem dL_cell_15 : decode cL_cell 15 = .ok (.iload_n 1, 1) := by decide +kernel
theorem dL_cell_16 : decode cL_cell 16 = .ok (.imul, 1) := by decide +kernel
theorem dL_cell_17 : decode cL_cell 17 = .ok (.bipush 12, 2) := by decide +kernel
theorem dL_cell_19 : decode cL_cell 19 = .ok (.iadd, 1) := by decide +kernel
theorem dL_cell_20 : decode cL_cell 20 = .ok (.ireturn, 1) := by decide +kernel
set_option maxHeartbeats 8000000 in
set_option maxRecDepth 100000 in
theorem bL_cell {p : Program} {l : Launch} {e : Env} {s : State} {m : MethodId} {args : Array Value} {below : List Frame} {meth : Method} {c : Code} {D : va_G} {cB cC cI cO : ClassId} {A : Nat → Prop} {g : LG} (C0 : gC RL cL_cell 2 (some .int) p s m args meth c D (hTy cB cC cI cO) A) (E0 : hLw g A s) (hl0 : l.stackTraces = false)  (x0 : Int32) (out : Int32) (hf : fL_cell g x0 = some out) : gG p l e rmL_cell s m args below meth c D A 2 (MQ below (hQi D [] out A) args s rmL_cell.cells rmL_cell.slots A) 0 0 0 [(0, .ref g.2.2.1), (1, .int x0)] [] [] := by
  have hb1 : 0 + 0 ≤ rmL_cell.cells := Nat.le_of_ble_eq_true rfl
  have hb2 : 0 + 0 ≤ rmL_cell.slots := Nat.le_of_ble_eq_true rfl
  unfold fL_cell at hf
  refine g_iload_n C0 dL_cell_0 rfl 1 rfl ?_
  refine g_aload_n C0 dL_cell_1 rfl 0 rfl ?_
  refine g_slenS C0 E0 dL_cell_2 ?_
  refine g_icmp_ge C0 (tgt := 12) dL_cell_3 (by decide) (fun c1 => ?_) (fun c1 => ?_)
  · rw [if_pos c1] at hf
    refine g_sipush C0 (v := (7919 : Int32)) dL_cell_12 (by decide) ?_
    refine g_iload_n C0 dL_cell_15 rfl 1 rfl ?_
    refine g_imul C0 dL_cell_16 ?_
    refine g_bipush C0 (v := (12 : Int32)) dL_cell_17 (by decide) ?_
    refine g_iadd C0 dL_cell_19 ?_
    refine g_widen (kk1 := rmL_cell.cells) (nn1 := rmL_cell.slots) (by omega) (by omega) ?_
    cases hf
    exact g_iret C0 rfl dL_cell_20 rfl rfl
  · rw [if_neg c1] at hf
    refine g_aload_n C0 dL_cell_6 rfl 0 rfl ?_
    refine g_iload_n C0 dL_cell_7 rfl 1 rfl ?_
    obtain ⟨i2, hf⟩ := hl_ifS hf
    refine g_sldS C0 E0 i2 dL_cell_8 ?_
    refine g_goto C0 (tgt := 20) dL_cell_9 (by decide) ?_
    refine g_widen (kk1 := rmL_cell.cells) (nn1 := rmL_cell.slots) (by omega) (by omega) ?_
    cases hf
    exact g_iret C0 rfl dL_cell_20 rfl rfl
theorem mL_cell (l : Launch) (hl0 : l.stackTraces = false) (D : va_G) (cB cC cI cO : ClassId) (g : LG)  (x0 : Int32) (out : Int32) (hf : fL_cell g x0 = some out) : ∀ sz, Met l yL_cell (ws_ yL_cell cL_cell 2 (some .int)) rmL_cell (va_Pc [.ref g.2.2.1, .int x0] (hPreE (hLw g) D (hTy cB cC cI cO) [] sz)) (hQi D [] out (va_A [] sz)) 0 0 (va_A [] sz) :=
  g_metE (Qf := fun A => hQi D [] out A) (by decide +kernel) (Nat.le_of_ble_eq_true rfl) rfl (fun C0 E0 => bL_cell C0 E0 hl0 x0 out hf)
/-! the law's some: 8 instructions -/
def fL_some (g : LG) (x0 : Int32) (x1 : Int32) : Option (Int32) := (fL_cell g x0).bind fun r1 => (if x1 = 0 then none else some (hl_rem ((r1.toUInt32 >>> ((3 : Int32).toUInt32 &&& Int32.toUInt32 31)).toInt32) x1))
abbrev rmL_some : Room := { frames := 1, cells := 0, slots := 0, locals := 120 }
theorem hmL_some : hMS yL_some cL_some 3 (some .int) 3 := ⟨q_669, q_11, q_668, by decide, by decide, by decide +kernel⟩
theorem dL_some_0 : decode cL_some 0 = .ok (.aload_n 0, 1) := by decide +kernel
theorem dL_some_1 : decode cL_some 1 = .ok (.iload_n 1, 1) := by decide +kernel
theorem dL_some_2 : decode cL_some 2 = .ok (.invokestatic 7, 3) := by decide +kernel
theorem dL_some_5 : decode cL_some 5 = .ok (.iconst 3, 1) := by decide +kernel
theorem dL_some_6 : decode cL_some 6 = .ok (.iushr, 1) := by decide +kernel
theorem dL_some_7 : decode cL_some 7 = .ok (.iload_n 2, 1) := by decide +kernel
theorem dL_some_8 : decode cL_some 8 = .ok (.irem, 1) := by decide +kernel
theorem dL_some_9 : decode cL_some 9 = .ok (.ireturn, 1) := by decide +kernel
set_option maxHeartbeats 8000000 in
set_option maxRecDepth 100000 in
theorem bL_some {p : Program} {l : Launch} {e : Env} {s : State} {m : MethodId} {args : Array Value} {below : List Frame} {meth : Method} {c : Code} {D : va_G} {cB cC cI cO : ClassId} {A : Nat → Prop} {g : LG} (C0 : gC RL cL_some 3 (some .int) p s m args meth c D (hTy cB cC cI cO) A) (E0 : hLw g A s) (hl0 : l.stackTraces = false)  (x0 : Int32) (x1 : Int32) (out : Int32) (hf : fL_some g x0 x1 = some out) : gG p l e rmL_some s m args below meth c D A 3 (MQ below (hQi D [] out A) args s rmL_some.cells rmL_some.slots A) 0 0 0 [(0, .ref g.2.2.1), (1, .int x0), (2, .int x1)] [] [] := by
  have hb1 : 0 + 0 ≤ rmL_some.cells := Nat.le_of_ble_eq_true rfl
  have hb2 : 0 + 0 ≤ rmL_some.slots := Nat.le_of_ble_eq_true rfl
  unfold fL_some at hf
  refine g_aload_n C0 dL_some_0 rfl 0 rfl ?_
  refine g_iload_n C0 dL_some_1 rfl 1 rfl ?_
  obtain ⟨r1, er1, hf⟩ := hl_bd hf
  refine g_l0i C0 E0 (mL_cell l hl0 D cB cC cI cO g x0 r1 er1) hmL_cell q_670 ⟨Nat.le_of_ble_eq_true rfl, Nat.le_of_ble_eq_true rfl⟩ rfl rfl ⟨by omega, by omega⟩ rfl rfl (Nat.le_of_ble_eq_true rfl) dL_some_2 ?_
  refine g_iconst C0 (v := (3 : Int32)) dL_some_5 (by decide) ?_
  refine g_iushr C0 dL_some_6 ?_
  refine g_iload_n C0 dL_some_7 rfl 2 rfl ?_
  obtain ⟨z2, hf⟩ := hl_ifN hf
  refine g_irem C0 dL_some_8 z2 ?_
  refine g_widen (kk1 := rmL_some.cells) (nn1 := rmL_some.slots) (by omega) (by omega) ?_
  cases hf
  exact g_iret C0 rfl dL_some_9 rfl rfl
theorem mL_some (l : Launch) (hl0 : l.stackTraces = false) (D : va_G) (cB cC cI cO : ClassId) (g : LG)  (x0 : Int32) (x1 : Int32) (out : Int32) (hf : fL_some g x0 x1 = some out) : ∀ sz, Met l yL_some (ws_ yL_some cL_some 3 (some .int)) rmL_some (va_Pc [.ref g.2.2.1, .int x0, .int x1] (hPreE (hLw g) D (hTy cB cC cI cO) [] sz)) (hQi D [] out (va_A [] sz)) 0 0 (va_A [] sz) :=
  g_metE (Qf := fun A => hQi D [] out A) (by decide +kernel) (Nat.le_of_ble_eq_true rfl) rfl (fun C0 E0 => bL_some C0 E0 hl0 x0 x1 out hf)
/-! the law's slot: 52 instructions -/
def fL_slot_47 (v : LV) (v2 : Int32) (v3 : Int32) (v4 : Int32) (k0 : Int32) : Option (Int32) := (gl_kind v).bind fun r7 => (if r7 = (1 : Int32) then (if v3 = 0 then none else some (hl_rem (v4 + ((v2 * (v2 + (1 : Int32))) / (2 : Int32))) v3)) else (if v3 = 0 then none else some (hl_rem (v4 + (v2 * k0)) v3)))
def fL_slot (v : LV) (x0 : Int32) (x1 : Int32) : Option (Int32) := (gl_capacity v).bind fun r1 => ((gl_seed v).bind fun r2 => ((gl_kind v).bind fun r3 => (if r3 = (2 : Int32) then (if r1 = 0 then none else if (r1 / (2 : Int32)) = 0 then none else fL_slot_47  v x1 r1 (hl_rem (((40503 : Int32) * x0) + ((9973 : Int32) * r2)) (65536 : Int32)) (((2 : Int32) * (hl_rem ((hl_rem (((40503 : Int32) * x0) + ((9973 : Int32) * r2)) (65536 : Int32)) / r1) (r1 / (2 : Int32)))) + (1 : Int32))) else (fL_slot_47  v x1 r1 (hl_rem (((40503 : Int32) * x0) + ((9973 : Int32) * r2)) (65536 : Int32)) (1 : Int32)))))
abbrev rmL_slot : Room := { frames := 2, cells := 0, slots := 0, locals := 150 }
theorem hmL_slot : hMS yL_slot cL_slot 6 (some .int) 3 := ⟨q_822, q_11, q_821, by decide, by decide, by decide +kernel⟩
theorem dL_slot_0 : decode cL_slot 0 = .ok (.aload_n 0, 1) := by decide +kernel
theorem dL_slot_1 : decode cL_slot 1 = .ok (.invokevirtual 85, 3) := by decide +kernel
theorem dL_slot_4 : decode cL_slot 4 = .ok (.istore_n 3, 1) := by decide +kernel
theorem dL_slot_5 : decode cL_slot 5 = .ok (.ldc 88, 2) := by decide +kernel
theorem dL_slot_7 : decode cL_slot 7 = .ok (.iload_n 1, 1) := by decide +kernel
theorem dL_slot_8 : decode cL_slot 8 = .ok (.imul, 1) := by decide +kernel
theorem dL_slot_9 : decode cL_slot 9 = .ok (.sipush 9973, 3) := by decide +kernel
theorem dL_slot_12 : decode cL_slot 12 = .ok (.aload_n 0, 1) := by decide +kernel
theorem dL_slot_13 : decode cL_slot 13 = .ok (.invokevirtual 89, 3) := by decide +kernel
theorem dL_slot_16 : decode cL_slot 16 = .ok (.imul, 1) := by decide +kernel
theorem dL_slot_17 : decode cL_slot 17 = .ok (.iadd, 1) := by decide +kernel
theorem dL_slot_18 : decode cL_slot 18 = .ok (.ldc 92, 2) := by decide +kernel
theorem dL_slot_20 : decode cL_slot 20 = .ok (.irem, 1) := by decide +kernel
theorem dL_slot_21 : decode cL_slot 21 = .ok (.istore 4, 2) := by decide +kernel
theorem dL_slot_23 : decode cL_slot 23 = .ok (.aload_n 0, 1) := by decide +kernel
theorem dL_slot_24 : decode cL_slot 24 = .ok (.invokevirtual 93, 3) := by decide +kernel
theorem dL_slot_27 : decode cL_slot 27 = .ok (.iconst 2, 1) := by decide +kernel
theorem dL_slot_28 : decode cL_slot 28 = .ok (.if_icmp .ne 18, 3) := by decide +kernel
theorem dL_slot_31 : decode cL_slot 31 = .ok (.iconst 2, 1) := by decide +kernel
theorem dL_slot_32 : decode cL_slot 32 = .ok (.iload 4, 2) := by decide +kernel
theorem dL_slot_34 : decode cL_slot 34 = .ok (.iload_n 3, 1) := by decide +kernel
theorem dL_slot_35 : decode cL_slot 35 = .ok (.idiv, 1) := by decide +kernel
theorem dL_slot_36 : decode cL_slot 36 = .ok (.iload_n 3, 1) := by decide +kernel
theorem dL_slot_37 : decode cL_slot 37 = .ok (.iconst 2, 1) := by decide +kernel
theorem dL_slot_38 : decode cL_slot 38 = .ok (.idiv, 1) := by decide +kernel
theorem dL_slot_39 : decode cL_slot 39 = .ok (.irem, 1) := by decide +kernel
theorem dL_slot_40 : decode cL_slot 40 = .ok (.imul, 1) := by decide +kernel
theorem dL_slot_41 : decode cL_slot 41 = .ok (.iconst 1, 1) := by decide +kernel
theorem dL_slot_42 : decode cL_slot 42 = .ok (.iadd, 1) := by decide +kernel
theorem dL_slot_43 : decode cL_slot 43 = .ok (.goto 4, 3) := by decide +kernel
theorem dL_slot_46 : decode cL_slot 46 = .ok (.iconst 1, 1) := by decide +kernel
theorem dL_slot_47 : decode cL_slot 47 = .ok (.istore 5, 2) := by decide +kernel
theorem dL_slot_49 : decode cL_slot 49 = .ok (.iload 4, 2) := by decide +kernel
theorem dL_slot_51 : decode cL_slot 51 = .ok (.aload_n 0, 1) := by decide +kernel
theorem dL_slot_52 : decode cL_slot 52 = .ok (.invokevirtual 93, 3) := by decide +kernel
theorem dL_slot_55 : decode cL_slot 55 = .ok (.iconst 1, 1) := by decide +kernel
theorem dL_slot_56 : decode cL_slot 56 = .ok (.if_icmp .ne 13, 3) := by decide +kernel
theorem dL_slot_59 : decode cL_slot 59 = .ok (.iload_n 2, 1) := by decide +kernel
theorem dL_slot_60 : decode cL_slot 60 = .ok (.iload_n 2, 1) := by decide +kernel
theorem dL_slot_61 : decode cL_slot 61 = .ok (.iconst 1, 1) := by decide +kernel
theorem dL_slot_62 : decode cL_slot 62 = .ok (.iadd, 1) := by decide +kernel
theorem dL_slot_63 : decode cL_slot 63 = .ok (.imul, 1) := by decide +kernel
theorem dL_slot_64 : decode cL_slot 64 = .ok (.iconst 2, 1) := by decide +kernel
theorem dL_slot_65 : decode cL_slot 65 = .ok (.idiv, 1) := by decide +kernel
theorem dL_slot_66 : decode cL_slot 66 = .ok (.goto 7, 3) := by decide +kernel
theorem dL_slot_69 : decode cL_slot 69 = .ok (.iload_n 2, 1) := by decide +kernel
theorem dL_slot_70 : decode cL_slot 70 = .ok (.iload 5, 2) := by decide +kernel
theorem dL_slot_72 : decode cL_slot 72 = .ok (.imul, 1) := by decide +kernel
theorem dL_slot_73 : decode cL_slot 73 = .ok (.iadd, 1) := by decide +kernel
theorem dL_slot_74 : decode cL_slot 74 = .ok (.iload_n 3, 1) := by decide +kernel
theorem dL_slot_75 : decode cL_slot 75 = .ok (.irem, 1) := by decide +kernel
theorem dL_slot_76 : decode cL_slot 76 = .ok (.ireturn, 1) := by decide +kernel
set_option maxHeartbeats 8000000 in
set_option maxRecDepth 100000 in
theorem bL_slot_47 {p : Program} {l : Launch} {e : Env} {s : State} {m : MethodId} {args : Array Value} {below : List Frame} {meth : Method} {c : Code} {D : va_G} {cB cC cI cO : ClassId} {A : Nat → Prop} {g : LG} (C0 : gC RL cL_slot 6 (some .int) p s m args meth c D (hTy cB cC cI cO) A) (E0 : hLw g A s) (hl0 : l.stackTraces = false) (L0 : Nat) (ua : LA) (out : Int32)    : ∀ (v : LV) (v2 : Int32) (v3 : Int32) (v4 : Int32) (k0 : Int32)  (kk nn : Nat), fL_slot_47  v v2 v3 v4 k0 = some out → kk + (0) ≤ rmL_slot.cells → nn + (0) ≤ rmL_slot.slots → gG p l e rmL_slot s m args below meth c D A 6 (MQ below (hQi D (labX cB cC cI cO L0 ua v) out A) args s rmL_slot.cells rmL_slot.slots A) kk nn 47 [(0, .ref L0), (2, .int v2), (3, .int v3), (4, .int v4)] [.int k0] (List.append [] (labX cB cC cI cO L0 ua v)) := by
  intro v v2 v3 v4 k0 kk nn hf hb1 hb2
  unfold fL_slot_47 at hf
  refine g_istore C0 (lv' := [(5, .int k0), (0, .ref L0), (2, .int v2), (3, .int v3), (4, .int v4)]) dL_slot_47 (by decide) rfl ?_
  refine g_iload C0 dL_slot_49 4 rfl ?_
  refine g_aload_n C0 dL_slot_51 rfl 1 rfl ?_
  obtain ⟨r7, er7, hf⟩ := hl_bd hf
  refine g_sufi C0 (P := []) (X := labX cB cC cI cO L0 ua v) (X1 := labX cB cC cI cO L0 ua v) (As := []) (st := [.int v4]) (mg_kind l D cB cC cI cO L0 ua v  r7 er7) hmX6_kind q_825 ⟨Nat.le_of_ble_eq_true rfl, Nat.le_of_ble_eq_true rfl⟩ ⟨by omega, by omega⟩ rfl rfl rfl rfl rfl 0 rfl rfl rfl (Nat.le_of_ble_eq_true rfl) dL_slot_52 ?_
  refine g_iconst C0 (v := (1 : Int32)) dL_slot_55 (by decide) ?_
  refine g_icmp_ne C0 (tgt := 69) dL_slot_56 (by decide) (fun c8 => ?_) (fun c8 => ?_)
  · rw [if_neg c8] at hf
    refine g_iload_n C0 dL_slot_69 rfl 2 rfl ?_
    refine g_iload C0 dL_slot_70 0 rfl ?_
    refine g_imul C0 dL_slot_72 ?_
    refine g_iadd C0 dL_slot_73 ?_
    refine g_iload_n C0 dL_slot_74 rfl 3 rfl ?_
    obtain ⟨z9, hf⟩ := hl_ifN hf
    refine g_irem C0 dL_slot_75 z9 ?_
    refine g_widen (kk1 := rmL_slot.cells) (nn1 := rmL_slot.slots) (by omega) (by omega) ?_
    cases hf
    exact g_iret C0 rfl dL_slot_76 rfl rfl
  · rw [if_pos c8] at hf
    refine g_iload_n C0 dL_slot_59 rfl 2 rfl ?_
    refine g_iload_n C0 dL_slot_60 rfl 2 rfl ?_
    refine g_iconst C0 (v := (1 : Int32)) dL_slot_61 (by decide) ?_
    refine g_iadd C0 dL_slot_62 ?_
    refine g_imul C0 dL_slot_63 ?_
    refine g_iconst C0 (v := (2 : Int32)) dL_slot_64 (by decide) ?_
    refine g_idiv C0 dL_slot_65 (by decide) ?_
    refine g_goto C0 (tgt := 73) dL_slot_66 (by decide) ?_
    refine g_iadd C0 dL_slot_73 ?_
    refine g_iload_n C0 dL_slot_74 rfl 3 rfl ?_
    obtain ⟨z10, hf⟩ := hl_ifN hf
    refine g_irem C0 dL_slot_75 z10 ?_
    refine g_widen (kk1 := rmL_slot.cells) (nn1 := rmL_slot.slots) (by omega) (by omega) ?_
    cases hf
    exact g_iret C0 rfl dL_slot_76 rfl rfl
set_option maxHeartbeats 8000000 in
set_option maxRecDepth 100000 in
theorem bL_slot {p : Program} {l : Launch} {e : Env} {s : State} {m : MethodId} {args : Array Value} {below : List Frame} {meth : Method} {c : Code} {D : va_G} {cB cC cI cO : ClassId} {A : Nat → Prop} {g : LG} (C0 : gC RL cL_slot 6 (some .int) p s m args meth c D (hTy cB cC cI cO) A) (E0 : hLw g A s) (hl0 : l.stackTraces = false) (L0 : Nat) (ua : LA) (v : LV) (x0 : Int32) (x1 : Int32) (out : Int32) (hf : fL_slot v x0 x1 = some out) : gG p l e rmL_slot s m args below meth c D A 6 (MQ below (hQi D (labX cB cC cI cO L0 ua v) out A) args s rmL_slot.cells rmL_slot.slots A) 0 0 0 [(0, .ref L0), (1, .int x0), (2, .int x1)] [] (labX cB cC cI cO L0 ua v) := by
  have hb1 : 0 + 0 ≤ rmL_slot.cells := Nat.le_of_ble_eq_true rfl
  have hb2 : 0 + 0 ≤ rmL_slot.slots := Nat.le_of_ble_eq_true rfl
  unfold fL_slot at hf
  refine g_aload_n C0 dL_slot_0 rfl 0 rfl ?_
  obtain ⟨r1, er1, hf⟩ := hl_bd hf
  refine g_sufi C0 (P := []) (X := labX cB cC cI cO L0 ua v) (X1 := labX cB cC cI cO L0 ua v) (As := []) (st := []) (mg_capacity l D cB cC cI cO L0 ua v  r1 er1) hmX6_capacity q_201 ⟨Nat.le_of_ble_eq_true rfl, Nat.le_of_ble_eq_true rfl⟩ ⟨by omega, by omega⟩ rfl rfl rfl rfl rfl 0 rfl rfl rfl (Nat.le_of_ble_eq_true rfl) dL_slot_1 ?_
  refine g_istore_n C0 (lv' := [(3, .int r1), (0, .ref L0), (1, .int x0), (2, .int x1)]) dL_slot_4 rfl (by decide) rfl ?_
  refine g_ldc C0 dL_slot_5 q_823 ?_
  refine g_iload_n C0 dL_slot_7 rfl 2 rfl ?_
  refine g_imul C0 dL_slot_8 ?_
  refine g_sipush C0 (v := (9973 : Int32)) dL_slot_9 (by decide) ?_
  refine g_aload_n C0 dL_slot_12 rfl 1 rfl ?_
  obtain ⟨r2, er2, hf⟩ := hl_bd hf
  refine g_sufi C0 (P := []) (X := labX cB cC cI cO L0 ua v) (X1 := labX cB cC cI cO L0 ua v) (As := []) (st := [.int (9973 : Int32), .int ((40503 : Int32) * x0)]) (mg_seed l D cB cC cI cO L0 ua v  r2 er2) hmX6_seed q_209 ⟨Nat.le_of_ble_eq_true rfl, Nat.le_of_ble_eq_true rfl⟩ ⟨by omega, by omega⟩ rfl rfl rfl rfl rfl 0 rfl rfl rfl (Nat.le_of_ble_eq_true rfl) dL_slot_13 ?_
  refine g_imul C0 dL_slot_16 ?_
  refine g_iadd C0 dL_slot_17 ?_
  refine g_ldc C0 dL_slot_18 q_824 ?_
  refine g_irem C0 dL_slot_20 (by decide) ?_
  refine g_istore C0 (lv' := [(4, .int (hl_rem (((40503 : Int32) * x0) + ((9973 : Int32) * r2)) (65536 : Int32))), (3, .int r1), (0, .ref L0), (1, .int x0), (2, .int x1)]) dL_slot_21 (by decide) rfl ?_
  refine g_aload_n C0 dL_slot_23 rfl 2 rfl ?_
  obtain ⟨r3, er3, hf⟩ := hl_bd hf
  refine g_sufi C0 (P := []) (X := labX cB cC cI cO L0 ua v) (X1 := labX cB cC cI cO L0 ua v) (As := []) (st := []) (mg_kind l D cB cC cI cO L0 ua v  r3 er3) hmX6_kind q_825 ⟨Nat.le_of_ble_eq_true rfl, Nat.le_of_ble_eq_true rfl⟩ ⟨by omega, by omega⟩ rfl rfl rfl rfl rfl 0 rfl rfl rfl (Nat.le_of_ble_eq_true rfl) dL_slot_24 ?_
  refine g_iconst C0 (v := (2 : Int32)) dL_slot_27 (by decide) ?_
  refine g_icmp_ne C0 (tgt := 46) dL_slot_28 (by decide) (fun c4 => ?_) (fun c4 => ?_)
  · rw [if_neg c4] at hf
    refine g_iconst C0 (v := (1 : Int32)) dL_slot_46 (by decide) ?_
    refine g_lv [2, 4, 1, 0] (lv' := [(0, .ref L0), (2, .int x1), (3, .int r1), (4, .int (hl_rem (((40503 : Int32) * x0) + ((9973 : Int32) * r2)) (65536 : Int32)))]) rfl ?_
    exact bL_slot_47 C0 E0 hl0 L0 ua out   v x1 r1 (hl_rem (((40503 : Int32) * x0) + ((9973 : Int32) * r2)) (65536 : Int32)) (1 : Int32)  _ _ hf (by omega) (by omega)
  · rw [if_pos c4] at hf
    refine g_iconst C0 (v := (2 : Int32)) dL_slot_31 (by decide) ?_
    refine g_iload C0 dL_slot_32 0 rfl ?_
    refine g_iload_n C0 dL_slot_34 rfl 1 rfl ?_
    obtain ⟨z5, hf⟩ := hl_ifN hf
    refine g_idiv C0 dL_slot_35 z5 ?_
    refine g_iload_n C0 dL_slot_36 rfl 1 rfl ?_
    refine g_iconst C0 (v := (2 : Int32)) dL_slot_37 (by decide) ?_
    refine g_idiv C0 dL_slot_38 (by decide) ?_
    obtain ⟨z6, hf⟩ := hl_ifN hf
    refine g_irem C0 dL_slot_39 z6 ?_
    refine g_imul C0 dL_slot_40 ?_
    refine g_iconst C0 (v := (1 : Int32)) dL_slot_41 (by decide) ?_
    refine g_iadd C0 dL_slot_42 ?_
    refine g_goto C0 (tgt := 47) dL_slot_43 (by decide) ?_
    refine g_lv [2, 4, 1, 0] (lv' := [(0, .ref L0), (2, .int x1), (3, .int r1), (4, .int (hl_rem (((40503 : Int32) * x0) + ((9973 : Int32) * r2)) (65536 : Int32)))]) rfl ?_
    exact bL_slot_47 C0 E0 hl0 L0 ua out   v x1 r1 (hl_rem (((40503 : Int32) * x0) + ((9973 : Int32) * r2)) (65536 : Int32)) (((2 : Int32) * (hl_rem ((hl_rem (((40503 : Int32) * x0) + ((9973 : Int32) * r2)) (65536 : Int32)) / r1) (r1 / (2 : Int32)))) + (1 : Int32))  _ _ hf (by omega) (by omega)
theorem mL_slot (l : Launch) (hl0 : l.stackTraces = false) (D : va_G) (cB cC cI cO : ClassId) (g : LG) (L0 : Nat) (ua : LA) (v : LV) (x0 : Int32) (x1 : Int32) (out : Int32) (hf : fL_slot v x0 x1 = some out) : ∀ sz, Met l yL_slot (ws_ yL_slot cL_slot 6 (some .int)) rmL_slot (va_Pc [.ref L0, .int x0, .int x1] (hPreE (hLw g) D (hTy cB cC cI cO) (labX cB cC cI cO L0 ua v) sz)) (hQi D (labX cB cC cI cO L0 ua v) out (va_A (labX cB cC cI cO L0 ua v) sz)) 0 0 (va_A (labX cB cC cI cO L0 ua v) sz) :=
  g_metE (Qf := fun A => hQi D (labX cB cC cI cO L0 ua v) out A) (by decide +kernel) (Nat.le_of_ble_eq_true rfl) rfl (fun C0 E0 => bL_slot C0 E0 hl0 L0 ua v x0 x1 out hf)
/-! the law's examined: 24 instructions -/
def fL_examined_39 (rec2 : LV → Int32 → Int32 → Option (Int32)) (v : LV) (v1 : Int32) (v2 : Int32) : Option (Int32) := rec2 v v1 v2
def fL_examined_2 : Nat → LV → Int32 → Int32 → Option (Int32)
  | 0, _, _, _ => none
  | n + 1, v, v1, v2 => (fL_slot v v1 v2).bind fun r1 => ((fL_keyIn v r1).bind fun r2 => (if r2 = v1 then (some (v2 + (1 : Int32))) else ((gl_isFull v r1).bind fun r4 => inlD r4 fun z5 => (if z5 = 0 then ((gl_isTombstone v r1).bind fun r7 => inlD r7 fun z8 => (if z8 = 0 then (some (v2 + (1 : Int32))) else (fL_examined_39 (fL_examined_2 n)  v v1 (v2 + (1 : Int32))))) else (fL_examined_39 (fL_examined_2 n)  v v1 (v2 + (1 : Int32)))))))
def fL_examined (v : LV) (x0 : Int32) : Option (Int32) := fL_examined_2  66 v x0 (0 : Int32)
abbrev rmL_examined : Room := { frames := 9, cells := 201, slots := 1206, locals := 400 }
theorem hmL_examined : hMS yL_examined cL_examined 4 (some .int) 2 := ⟨q_831, q_11, q_830, by decide, by decide, by decide +kernel⟩
theorem dL_examined_0 : decode cL_examined 0 = .ok (.iconst 0, 1) := by decide +kernel
theorem dL_examined_1 : decode cL_examined 1 = .ok (.istore_n 2, 1) := by decide +kernel
theorem dL_examined_2 : decode cL_examined 2 = .ok (.aload_n 0, 1) := by decide +kernel
theorem dL_examined_3 : decode cL_examined 3 = .ok (.iload_n 1, 1) := by decide +kernel
theorem dL_examined_4 : decode cL_examined 4 = .ok (.iload_n 2, 1) := by decide +kernel
theorem dL_examined_5 : decode cL_examined 5 = .ok (.invokestatic 96, 3) := by decide +kernel
theorem dL_examined_8 : decode cL_examined 8 = .ok (.istore_n 3, 1) := by decide +kernel
theorem dL_examined_9 : decode cL_examined 9 = .ok (.iinc 2 1, 3) := by decide +kernel
theorem dL_examined_12 : decode cL_examined 12 = .ok (.aload_n 0, 1) := by decide +kernel
theorem dL_examined_13 : decode cL_examined 13 = .ok (.iload_n 3, 1) := by decide +kernel
theorem dL_examined_14 : decode cL_examined 14 = .ok (.invokestatic 99, 3) := by decide +kernel
theorem dL_examined_17 : decode cL_examined 17 = .ok (.iload_n 1, 1) := by decide +kernel
theorem dL_examined_18 : decode cL_examined 18 = .ok (.if_icmp .eq 19, 3) := by decide +kernel
theorem dL_examined_21 : decode cL_examined 21 = .ok (.aload_n 0, 1) := by decide +kernel
theorem dL_examined_22 : decode cL_examined 22 = .ok (.iload_n 3, 1) := by decide +kernel
theorem dL_examined_23 : decode cL_examined 23 = .ok (.invokevirtual 101, 3) := by decide +kernel
theorem dL_examined_26 : decode cL_examined 26 = .ok (.ifCond .ne 13, 3) := by decide +kernel
theorem dL_examined_29 : decode cL_examined 29 = .ok (.aload_n 0, 1) := by decide +kernel
theorem dL_examined_30 : decode cL_examined 30 = .ok (.iload_n 3, 1) := by decide +kernel
theorem dL_examined_31 : decode cL_examined 31 = .ok (.invokevirtual 105, 3) := by decide +kernel
theorem dL_examined_34 : decode cL_examined 34 = .ok (.ifCond .ne 5, 3) := by decide +kernel
theorem dL_examined_37 : decode cL_examined 37 = .ok (.iload_n 2, 1) := by decide +kernel
theorem dL_examined_38 : decode cL_examined 38 = .ok (.ireturn, 1) := by decide +kernel
theorem dL_examined_39 : decode cL_examined 39 = .ok (.goto (-37), 3) := by decide +kernel
set_option maxHeartbeats 8000000 in
set_option maxRecDepth 100000 in
theorem bL_examined_39 {p : Program} {l : Launch} {e : Env} {s : State} {m : MethodId} {args : Array Value} {below : List Frame} {meth : Method} {c : Code} {D : va_G} {cB cC cI cO : ClassId} {A : Nat → Prop} {g : LG} (C0 : gC RL cL_examined 4 (some .int) p s m args meth c D (hTy cB cC cI cO) A) (E0 : hLw g A s) (hl0 : l.stackTraces = false) (L0 : Nat) (ua : LA) (out : Int32) {B2a B2b : Nat} (rec2 : LV → Int32 → Int32 → Option (Int32)) (hrec2 : ∀ (v : LV) (v1 : Int32) (v2 : Int32)  (kk nn : Nat), rec2 v v1 v2 = some out → kk + (B2a) ≤ rmL_examined.cells → nn + (B2b) ≤ rmL_examined.slots → gG p l e rmL_examined s m args below meth c D A 4 (MQ below (hQi D (labX cB cC cI cO L0 ua v) out A) args s rmL_examined.cells rmL_examined.slots A) kk nn 2 [(0, .ref L0), (1, .int v1), (2, .int v2)] [] (List.append [] (labX cB cC cI cO L0 ua v))) : ∀ (v : LV) (v1 : Int32) (v2 : Int32)  (kk nn : Nat), fL_examined_39 rec2  v v1 v2 = some out → kk + (0 + B2a) ≤ rmL_examined.cells → nn + (0 + B2b) ≤ rmL_examined.slots → gG p l e rmL_examined s m args below meth c D A 4 (MQ below (hQi D (labX cB cC cI cO L0 ua v) out A) args s rmL_examined.cells rmL_examined.slots A) kk nn 39 [(0, .ref L0), (1, .int v1), (2, .int v2)] [] (List.append [] (labX cB cC cI cO L0 ua v)) := by
  intro v v1 v2 kk nn hf hb1 hb2
  unfold fL_examined_39 at hf
  refine g_goto C0 (tgt := 2) dL_examined_39 (by decide) ?_
  refine g_lv [0, 1, 2] (lv' := [(0, .ref L0), (1, .int v1), (2, .int v2)]) rfl ?_
  exact hrec2 v v1 v2  _ _ hf (by omega) (by omega)
set_option maxHeartbeats 8000000 in
set_option maxRecDepth 100000 in
theorem bL_examined_2 {p : Program} {l : Launch} {e : Env} {s : State} {m : MethodId} {args : Array Value} {below : List Frame} {meth : Method} {c : Code} {D : va_G} {cB cC cI cO : ClassId} {A : Nat → Prop} {g : LG} (C0 : gC RL cL_examined 4 (some .int) p s m args meth c D (hTy cB cC cI cO) A) (E0 : hLw g A s) (hl0 : l.stackTraces = false) (L0 : Nat) (ua : LA) (out : Int32)    : ∀ (n : Nat) (v : LV) (v1 : Int32) (v2 : Int32)  (kk nn : Nat), fL_examined_2 n v v1 v2 = some out → kk + (n * 3 + (3)) ≤ rmL_examined.cells → nn + (n * 18 + (18)) ≤ rmL_examined.slots → gG p l e rmL_examined s m args below meth c D A 4 (MQ below (hQi D (labX cB cC cI cO L0 ua v) out A) args s rmL_examined.cells rmL_examined.slots A) kk nn 2 [(0, .ref L0), (1, .int v1), (2, .int v2)] [] (List.append [] (labX cB cC cI cO L0 ua v)) := by
  intro n
  induction n with
  | zero => intro v v1 v2 kk nn hf hb1 hb2; rw [fL_examined_2] at hf; cases hf
  | succ n ih =>
    intro v v1 v2 kk nn hf hb1 hb2
    rw [fL_examined_2] at hf
    refine g_aload_n C0 dL_examined_2 rfl 0 rfl ?_
    refine g_iload_n C0 dL_examined_3 rfl 1 rfl ?_
    refine g_iload_n C0 dL_examined_4 rfl 2 rfl ?_
    obtain ⟨r1, er1, hf⟩ := hl_bd hf
    refine g_lSi C0 E0 (P := []) (X := labX cB cC cI cO L0 ua v) (X1 := labX cB cC cI cO L0 ua v) (As := [.ref L0, .int v1, .int v2]) (st := []) (mL_slot l hl0 D cB cC cI cO g L0 ua v v1 v2 r1 er1) hmL_slot q_820 ⟨Nat.le_of_ble_eq_true rfl, Nat.le_of_ble_eq_true rfl⟩ rfl rfl ⟨by omega, by omega⟩ rfl rfl rfl rfl (Nat.le_of_ble_eq_true rfl) dL_examined_5 ?_
    refine g_istore_n C0 (lv' := [(3, .int r1), (0, .ref L0), (1, .int v1), (2, .int v2)]) dL_examined_8 rfl (by decide) rfl ?_
    refine g_iinc C0 (lv' := [(2, .int (v2 + (1 : Int32))), (3, .int r1), (0, .ref L0), (1, .int v1)]) dL_examined_9 3 rfl rfl (by decide) rfl ?_
    refine g_aload_n C0 dL_examined_12 rfl 2 rfl ?_
    refine g_iload_n C0 dL_examined_13 rfl 1 rfl ?_
    obtain ⟨r2, er2, hf⟩ := hl_bd hf
    refine g_hSi C0 E0 (P := []) (X := labX cB cC cI cO L0 ua v) (X1 := labX cB cC cI cO L0 ua v) (As := [.ref L0, .int r1]) (st := []) (mL_keyIn l hl0 D cB cC cI cO g L0 ua v r1 r2 er2) hmL_keyIn q_735 ⟨Nat.le_of_ble_eq_true rfl, Nat.le_of_ble_eq_true rfl⟩ rfl rfl ⟨by omega, by omega⟩ rfl rfl rfl rfl (Nat.le_of_ble_eq_true rfl) dL_examined_14 ?_
    refine g_iload_n C0 dL_examined_17 rfl 3 rfl ?_
    refine g_icmp_eq C0 (tgt := 37) dL_examined_18 (by decide) (fun c3 => ?_) (fun c3 => ?_)
    · rw [if_pos c3] at hf
      refine g_iload_n C0 dL_examined_37 rfl 0 rfl ?_
      refine g_widen (kk1 := rmL_examined.cells) (nn1 := rmL_examined.slots) (by omega) (by omega) ?_
      cases hf
      exact g_iret C0 rfl dL_examined_38 rfl rfl
    · rw [if_neg c3] at hf
      refine g_aload_n C0 dL_examined_21 rfl 2 rfl ?_
      refine g_iload_n C0 dL_examined_22 rfl 1 rfl ?_
      obtain ⟨r4, er4, hf⟩ := hl_bd hf
      obtain ⟨z5, ez5, hf⟩ := hl_inl hf
      have kr4 := mg_isFull l hl0 D cB cC cI cO L0 ua v r1 r4 er4
      rw [ez5] at kr4
      refine g_sufNi C0 E0.1.1 (P := []) (X := labX cB cC cI cO L0 ua v) (X1 := labX cB cC cI cO L0 ua v) (As := [.int r1]) (st := []) kr4 hmX6_isFull q_438 ⟨Nat.le_of_ble_eq_true rfl, Nat.le_of_ble_eq_true rfl⟩ ⟨by omega, by omega⟩ rfl rfl rfl rfl rfl 0 rfl rfl rfl (Nat.le_of_ble_eq_true rfl) dL_examined_23 ?_
      refine g_if_ne C0 (tgt := 39) dL_examined_26 (by decide) (fun c6 => ?_) (fun c6 => ?_)
      · rw [if_neg c6] at hf
        refine g_lv [2, 3, 0] (lv' := [(0, .ref L0), (1, .int v1), (2, .int (v2 + (1 : Int32)))]) rfl ?_
        exact bL_examined_39 C0 E0 hl0 L0 ua out (fL_examined_2 n) ih   v v1 (v2 + (1 : Int32))  _ _ hf (by omega) (by omega)
      · rw [if_pos c6] at hf
        refine g_aload_n C0 dL_examined_29 rfl 2 rfl ?_
        refine g_iload_n C0 dL_examined_30 rfl 1 rfl ?_
        obtain ⟨r7, er7, hf⟩ := hl_bd hf
        obtain ⟨z8, ez8, hf⟩ := hl_inl hf
        have kr7 := mg_isTombstone l hl0 D cB cC cI cO L0 ua v r1 r7 er7
        rw [ez8] at kr7
        refine g_sufNi C0 E0.1.1 (P := []) (X := labX cB cC cI cO L0 ua v) (X1 := labX cB cC cI cO L0 ua v) (As := [.int r1]) (st := []) kr7 hmX6_isTombstone q_444 ⟨Nat.le_of_ble_eq_true rfl, Nat.le_of_ble_eq_true rfl⟩ ⟨by omega, by omega⟩ rfl rfl rfl rfl rfl 0 rfl rfl rfl (Nat.le_of_ble_eq_true rfl) dL_examined_31 ?_
        refine g_if_ne C0 (tgt := 39) dL_examined_34 (by decide) (fun c9 => ?_) (fun c9 => ?_)
        · rw [if_neg c9] at hf
          refine g_lv [2, 3, 0] (lv' := [(0, .ref L0), (1, .int v1), (2, .int (v2 + (1 : Int32)))]) rfl ?_
          exact bL_examined_39 C0 E0 hl0 L0 ua out (fL_examined_2 n) ih   v v1 (v2 + (1 : Int32))  _ _ hf (by omega) (by omega)
        · rw [if_pos c9] at hf
          refine g_iload_n C0 dL_examined_37 rfl 0 rfl ?_
          refine g_widen (kk1 := rmL_examined.cells) (nn1 := rmL_examined.slots) (by omega) (by omega) ?_
          cases hf
          exact g_iret C0 rfl dL_examined_38 rfl rfl
set_option maxHeartbeats 8000000 in
set_option maxRecDepth 100000 in
theorem bL_examined {p : Program} {l : Launch} {e : Env} {s : State} {m : MethodId} {args : Array Value} {below : List Frame} {meth : Method} {c : Code} {D : va_G} {cB cC cI cO : ClassId} {A : Nat → Prop} {g : LG} (C0 : gC RL cL_examined 4 (some .int) p s m args meth c D (hTy cB cC cI cO) A) (E0 : hLw g A s) (hl0 : l.stackTraces = false) (L0 : Nat) (ua : LA) (v : LV) (x0 : Int32) (out : Int32) (hf : fL_examined v x0 = some out) : gG p l e rmL_examined s m args below meth c D A 4 (MQ below (hQi D (labX cB cC cI cO L0 ua v) out A) args s rmL_examined.cells rmL_examined.slots A) 0 0 0 [(0, .ref L0), (1, .int x0)] [] (labX cB cC cI cO L0 ua v) := by
  have hb1 : 0 + 201 ≤ rmL_examined.cells := Nat.le_of_ble_eq_true rfl
  have hb2 : 0 + 1206 ≤ rmL_examined.slots := Nat.le_of_ble_eq_true rfl
  unfold fL_examined at hf
  refine g_iconst C0 (v := (0 : Int32)) dL_examined_0 (by decide) ?_
  refine g_istore_n C0 (lv' := [(2, .int (0 : Int32)), (0, .ref L0), (1, .int x0)]) dL_examined_1 rfl (by decide) rfl ?_
  refine g_lv [1, 2, 0] (lv' := [(0, .ref L0), (1, .int x0), (2, .int (0 : Int32))]) rfl ?_
  exact bL_examined_2 C0 E0 hl0 L0 ua out  66  v x0 (0 : Int32)  _ _ hf (by omega) (by omega)
theorem mL_examined (l : Launch) (hl0 : l.stackTraces = false) (D : va_G) (cB cC cI cO : ClassId) (g : LG) (L0 : Nat) (ua : LA) (v : LV) (x0 : Int32) (out : Int32) (hf : fL_examined v x0 = some out) : ∀ sz, Met l yL_examined (ws_ yL_examined cL_examined 4 (some .int)) rmL_examined (va_Pc [.ref L0, .int x0] (hPreE (hLw g) D (hTy cB cC cI cO) (labX cB cC cI cO L0 ua v) sz)) (hQi D (labX cB cC cI cO L0 ua v) out (va_A (labX cB cC cI cO L0 ua v) sz)) 201 1206 (va_A (labX cB cC cI cO L0 ua v) sz) :=
  g_metE (Qf := fun A => hQi D (labX cB cC cI cO L0 ua v) out A) (by decide +kernel) (Nat.le_of_ble_eq_true rfl) rfl (fun C0 E0 => bL_examined C0 E0 hl0 L0 ua v x0 out hf)
/-! the law's isLine: 24 instructions -/
def fL_isLine_12 (tn : Nat) (tf : Nat → Int32) : Nat → LV → Int32 → Int32 → Option (Int32)
  | 0, _, _, _ => none
  | n + 1, v, v1, v3 => if v1 ≤ v3 then (some (1 : Int32)) else ((gl_charAt v v3).bind fun r3 => inlD r3 fun z4 => (if hl_in v3 tn = true then (if z4 = (tf v3.toNatClampNeg) then (fL_isLine_12 tn tf n v v1 (v3 + (1 : Int32))) else (some (0 : Int32))) else none))
def fL_isLine (v : LV) (tn : Nat) (tf : Nat → Int32) (x0 : Int32) : Option (Int32) := if x0 = (Int32.ofNat tn) then (fL_isLine_12 tn tf  702 v x0 (0 : Int32)) else (some (0 : Int32))
abbrev rmL_isLine : Room := { frames := 9, cells := 703, slots := 4218, locals := 400 }
theorem hmL_isLine : hMS yL_isLine cL_isLine 4 (some .boolean) 3 := ⟨q_834, q_11, q_833, by decide, by decide, by decide +kernel⟩
theorem dL_isLine_0 : decode cL_isLine 0 = .ok (.iload_n 1, 1) := by decide +kernel
theorem dL_isLine_1 : decode cL_isLine 1 = .ok (.aload_n 2, 1) := by decide +kernel
theorem dL_isLine_2 : decode cL_isLine 2 = .ok (.invokevirtual 108, 3) := by decide +kernel
theorem dL_isLine_5 : decode cL_isLine 5 = .ok (.if_icmp .eq 5, 3) := by decide +kernel
theorem dL_isLine_8 : decode cL_isLine 8 = .ok (.iconst 0, 1) := by decide +kernel
theorem dL_isLine_9 : decode cL_isLine 9 = .ok (.ireturn, 1) := by decide +kernel
theorem dL_isLine_10 : decode cL_isLine 10 = .ok (.iconst 0, 1) := by decide +kernel
theorem dL_isLine_11 : decode cL_isLine 11 = .ok (.istore_n 3, 1) := by decide +kernel
theorem dL_isLine_12 : decode cL_isLine 12 = .ok (.iload_n 3, 1) := by decide +kernel
theorem dL_isLine_13 : decode cL_isLine 13 = .ok (.iload_n 1, 1) := by decide +kernel
theorem dL_isLine_14 : decode cL_isLine 14 = .ok (.if_icmp .ge 24, 3) := by decide +kernel
theorem dL_isLine_17 : decode cL_isLine 17 = .ok (.aload_n 0, 1) := by decide +kernel
theorem dL_isLine_18 : decode cL_isLine 18 = .ok (.iload_n 3, 1) := by decide +kernel
theorem dL_isLine_19 : decode cL_isLine 19 = .ok (.invokevirtual 113, 3) := by decide +kernel
theorem dL_isLine_22 : decode cL_isLine 22 = .ok (.aload_n 2, 1) := by decide +kernel
theorem dL_isLine_23 : decode cL_isLine 23 = .ok (.iload_n 3, 1) := by decide +kernel
theorem dL_isLine_24 : decode cL_isLine 24 = .ok (.invokevirtual 117, 3) := by decide +kernel
theorem dL_isLine_27 : decode cL_isLine 27 = .ok (.if_icmp .eq 5, 3) := by decide +kernel
theorem dL_isLine_30 : decode cL_isLine 30 = .ok (.iconst 0, 1) := by decide +kernel
theorem dL_isLine_31 : decode cL_isLine 31 = .ok (.ireturn, 1) := by decide +kernel
theorem dL_isLine_32 : decode cL_isLine 32 = .ok (.iinc 3 1, 3) := by decide +kernel
theorem dL_isLine_35 : decode cL_isLine 35 = .ok (.goto (-23), 3) := by decide +kernel
theorem dL_isLine_38 : decode cL_isLine 38 = .ok (.iconst 1, 1) := by decide +kernel
theorem dL_isLine_39 : decode cL_isLine 39 = .ok (.ireturn, 1) := by decide +kernel
set_option maxHeartbeats 8000000 in
set_option maxRecDepth 100000 in
theorem bL_isLine_12 {p : Program} {l : Launch} {e : Env} {s : State} {m : MethodId} {args : Array Value} {below : List Frame} {meth : Method} {c : Code} {D : va_G} {cB cC cI cO : ClassId} {A : Nat → Prop} {g : LG} {ta tw tn : Nat} {tf : Nat → Int32} (C0 : gC RL cL_isLine 4 (some .boolean) p s m args meth c D (hTy cB cC cI cO) A) (E0 : hLt g ta tw tn tf A s) (hl0 : l.stackTraces = false) (htn : tn < 2147483648) (htx : asc tn tf) (L0 : Nat) (ua : LA) (out : Int32)    : ∀ (n : Nat) (v : LV) (v1 : Int32) (v3 : Int32)  (kk nn : Nat), fL_isLine_12 tn tf n v v1 v3 = some out → kk + (n * 1 + (1)) ≤ rmL_isLine.cells → nn + (n * 6 + (6)) ≤ rmL_isLine.slots → gG p l e rmL_isLine s m args below meth c D A 4 (MQ below (hQi D (labX cB cC cI cO L0 ua v) out A) args s rmL_isLine.cells rmL_isLine.slots A) kk nn 12 [(0, .ref L0), (1, .int v1), (2, .ref ta), (3, .int v3)] [] (List.append [] (labX cB cC cI cO L0 ua v)) := by
  intro n
  induction n with
  | zero => intro v v1 v3 kk nn hf hb1 hb2; rw [fL_isLine_12] at hf; cases hf
  | succ n ih =>
    intro v v1 v3 kk nn hf hb1 hb2
    rw [fL_isLine_12] at hf
    refine g_iload_n C0 dL_isLine_12 rfl 3 rfl ?_
    refine g_iload_n C0 dL_isLine_13 rfl 1 rfl ?_
    refine g_icmp_ge C0 (tgt := 38) dL_isLine_14 (by decide) (fun c2 => ?_) (fun c2 => ?_)
    · rw [if_pos c2] at hf
      refine g_iconst C0 (v := (1 : Int32)) dL_isLine_38 (by decide) ?_
      refine g_widen (kk1 := rmL_isLine.cells) (nn1 := rmL_isLine.slots) (by omega) (by omega) ?_
      cases hf
      exact g_iret C0 rfl dL_isLine_39 rfl rfl
    · rw [if_neg c2] at hf
      refine g_aload_n C0 dL_isLine_17 rfl 0 rfl ?_
      refine g_iload_n C0 dL_isLine_18 rfl 3 rfl ?_
      obtain ⟨r3, er3, hf⟩ := hl_bd hf
      obtain ⟨z4, ez4, hf⟩ := hl_inl hf
      have kr3 := mg_charAt l hl0 D cB cC cI cO L0 ua v v3 r3 er3
      rw [ez4] at kr3
      refine g_sufNi C0 E0.1.1.1 (P := []) (X := labX cB cC cI cO L0 ua v) (X1 := labX cB cC cI cO L0 ua v) (As := [.int v3]) (st := []) kr3 hmX6_charAt q_845 ⟨Nat.le_of_ble_eq_true rfl, Nat.le_of_ble_eq_true rfl⟩ ⟨by omega, by omega⟩ rfl rfl rfl rfl rfl 0 rfl rfl rfl (Nat.le_of_ble_eq_true rfl) dL_isLine_19 ?_
      refine g_aload_n C0 dL_isLine_22 rfl 2 rfl ?_
      refine g_iload_n C0 dL_isLine_23 rfl 3 rfl ?_
      obtain ⟨i5, hf⟩ := hl_ifS hf
      obtain ⟨ji5, hji5, eji5⟩ := hl_inN i5
      refine g_xVi (mc := 0) (ms := 0) (X := []) (pl := labX cB cC cI cO L0 ua v) (wr := []) (As := [.int v3]) (st := [.int z4]) (b := ta) C0 (jT_ok _ _ _ _) (xe_of C0 (jT_ok _ _ _ _) ⟨E0.1.1.2, E0.2⟩) (fun _ _ _ hS => tx_recv E0.2 hS) (by rw [eji5]; exact mJ0_charAt_5068e l D cB cC cI cO ta tw tn tf ji5 htn htx hji5) hmJ0_charAt_5068e q_854 ⟨Nat.le_of_ble_eq_true rfl, Nat.le_of_ble_eq_true rfl⟩ rfl rfl ⟨by omega, by omega⟩ rfl [] [] rfl rfl rfl rfl (by decide) rfl rfl (Nat.le_of_ble_eq_true rfl) dL_isLine_24 (fun _ => ?_)
      rw [show ji5 = v3.toNatClampNeg by rw [eji5, n_cl (by omega)]]
      refine g_eq (ws' := (List.append [] (labX cB cC cI cO L0 ua v))) rfl rfl rfl ?_
      refine g_icmp_eq C0 (tgt := 32) dL_isLine_27 (by decide) (fun c6 => ?_) (fun c6 => ?_)
      · rw [if_pos c6] at hf
        refine g_iinc C0 (lv' := [(3, .int (v3 + (1 : Int32))), (0, .ref L0), (1, .int v1), (2, .ref ta)]) dL_isLine_32 3 rfl rfl (by decide) rfl ?_
        refine g_goto C0 (tgt := 12) dL_isLine_35 (by decide) ?_
        refine g_lv [1, 2, 3, 0] (lv' := [(0, .ref L0), (1, .int v1), (2, .ref ta), (3, .int (v3 + (1 : Int32)))]) rfl ?_
        exact ih v v1 (v3 + (1 : Int32))  _ _ hf (by omega) (by omega)
      · rw [if_neg c6] at hf
        refine g_iconst C0 (v := (0 : Int32)) dL_isLine_30 (by decide) ?_
        refine g_widen (kk1 := rmL_isLine.cells) (nn1 := rmL_isLine.slots) (by omega) (by omega) ?_
        cases hf
        exact g_iret C0 rfl dL_isLine_31 rfl rfl
set_option maxHeartbeats 8000000 in
set_option maxRecDepth 100000 in
theorem bL_isLine {p : Program} {l : Launch} {e : Env} {s : State} {m : MethodId} {args : Array Value} {below : List Frame} {meth : Method} {c : Code} {D : va_G} {cB cC cI cO : ClassId} {A : Nat → Prop} {g : LG} {ta tw tn : Nat} {tf : Nat → Int32} (C0 : gC RL cL_isLine 4 (some .boolean) p s m args meth c D (hTy cB cC cI cO) A) (E0 : hLt g ta tw tn tf A s) (hl0 : l.stackTraces = false) (htn : tn < 2147483648) (htx : asc tn tf) (L0 : Nat) (ua : LA) (v : LV) (x0 : Int32) (out : Int32) (hf : fL_isLine v tn tf x0 = some out) : gG p l e rmL_isLine s m args below meth c D A 4 (MQ below (hQi D (labX cB cC cI cO L0 ua v) out A) args s rmL_isLine.cells rmL_isLine.slots A) 0 0 0 [(0, .ref L0), (1, .int x0), (2, .ref ta)] [] (labX cB cC cI cO L0 ua v) := by
  have hb1 : 0 + 703 ≤ rmL_isLine.cells := Nat.le_of_ble_eq_true rfl
  have hb2 : 0 + 4218 ≤ rmL_isLine.slots := Nat.le_of_ble_eq_true rfl
  unfold fL_isLine at hf
  refine g_iload_n C0 dL_isLine_0 rfl 1 rfl ?_
  refine g_aload_n C0 dL_isLine_1 rfl 2 rfl ?_
  refine g_xVi (mc := 0) (ms := 0) (X := []) (pl := labX cB cC cI cO L0 ua v) (wr := []) (As := []) (st := [.int x0]) (b := ta) C0 (jT_ok _ _ _ _) (xe_of C0 (jT_ok _ _ _ _) ⟨E0.1.1.2, E0.2⟩) (fun _ _ _ hS => tx_recv E0.2 hS) (mJ0_length_8abf5 l D cB cC cI cO ta tw tn tf) hmJ0_length_8abf5 q_835 ⟨Nat.le_of_ble_eq_true rfl, Nat.le_of_ble_eq_true rfl⟩ rfl rfl ⟨by omega, by omega⟩ rfl [] [] rfl rfl rfl rfl (by decide) rfl rfl (Nat.le_of_ble_eq_true rfl) dL_isLine_2 (fun _ => ?_)
  refine g_eq (ws' := (List.append [] (labX cB cC cI cO L0 ua v))) rfl rfl rfl ?_
  refine g_icmp_eq C0 (tgt := 10) dL_isLine_5 (by decide) (fun c1 => ?_) (fun c1 => ?_)
  · rw [if_pos c1] at hf
    refine g_iconst C0 (v := (0 : Int32)) dL_isLine_10 (by decide) ?_
    refine g_istore_n C0 (lv' := [(3, .int (0 : Int32)), (0, .ref L0), (1, .int x0), (2, .ref ta)]) dL_isLine_11 rfl (by decide) rfl ?_
    refine g_lv [1, 2, 3, 0] (lv' := [(0, .ref L0), (1, .int x0), (2, .ref ta), (3, .int (0 : Int32))]) rfl ?_
    exact bL_isLine_12 C0 E0 hl0 htn htx L0 ua out  702  v x0 (0 : Int32)  _ _ hf (by omega) (by omega)
  · rw [if_neg c1] at hf
    refine g_iconst C0 (v := (0 : Int32)) dL_isLine_8 (by decide) ?_
    refine g_widen (kk1 := rmL_isLine.cells) (nn1 := rmL_isLine.slots) (by omega) (by omega) ?_
    cases hf
    exact g_iret C0 rfl dL_isLine_9 rfl rfl
theorem mL_isLine (l : Launch) (hl0 : l.stackTraces = false) (D : va_G) (cB cC cI cO : ClassId) (g : LG) (L0 : Nat) (ua : LA) (v : LV) (ta tw tn : Nat) (tf : Nat → Int32) (x0 : Int32) (out : Int32) (htn : tn < 2147483648) (htx : asc tn tf) (hf : fL_isLine v tn tf x0 = some out) : ∀ sz, Met l yL_isLine (ws_ yL_isLine cL_isLine 4 (some .boolean)) rmL_isLine (va_Pc [.ref L0, .int x0, .ref ta] (hPreE (hLt g ta tw tn tf) D (hTy cB cC cI cO) (labX cB cC cI cO L0 ua v) sz)) (hQi D (labX cB cC cI cO L0 ua v) out (va_A (labX cB cC cI cO L0 ua v) sz)) 703 4218 (va_A (labX cB cC cI cO L0 ua v) sz) :=
  g_metE (Qf := fun A => hQi D (labX cB cC cI cO L0 ua v) out A) (by decide +kernel) (Nat.le_of_ble_eq_true rfl) rfl (fun C0 E0 => bL_isLine C0 E0 hl0 htn htx L0 ua v x0 out hf)
theorem hl_inC {x : Int32} {n : Nat} (h : hl_in x n = true) : x.toNatClampNeg < n := Nat.lt_of_not_le fun h2 => hl_inP h (Or.inr h2)
theorem line_cong12 {v : LV} {tn : Nat} {tf tt : Nat → Int32} (h : ∀ j, j < tn → tf j = tt j) : ∀ (n : Nat) (x0 i : Int32), fL_isLine_12 tn tf n v x0 i = fL_isLine_12 tn tt n v x0 i := by
  intro n
  induction n with
  | zero => intro x0 i; rfl
  | succ n ih =>
    intro x0 i
    rw [fL_isLine_12, fL_isLine_12]
    by_cases hi : hl_in i tn = true
    · simp only [h _ (hl_inC hi), ih]
    · simp only [if_neg hi]
theorem line_cong {v : LV} {tn : Nat} {tf tt : Nat → Int32} {x0 : Int32} (h : ∀ j, j < tn → tf j = tt j) : fL_isLine v tn tf x0 = fL_isLine v tn tt x0 := by
  unfold fL_isLine
  rw [line_cong12 h]
/-! the law's acts: 93 instructions -/
def fL_acts_168 (g : LG) (v : LV) (v3 : Int32) (v4 : Int32) : Option (LV) := (gl_size v).bind fun r21 => (if r21 ≤ 0 then ((fL_remove v v4).bind fun r23 => (some r23.2)) else ((gl_size v).bind fun r24 => (if r24 = 0 then none else (gl_keyAt v (hl_rem v3 r24)).bind fun r26 => inlD r26 fun z27 => ((fL_remove v z27).bind fun r28 => (some r28.2)))))
def fL_acts_29 (g : LG) (v : LV) (v2 : Int32) (v3 : Int32) (k0 : Int32) (k1 : Int32) : Option (LV) := (fL_some g k1 k0).bind fun r3 => ((fL_some g v2 (16 : Int32)).bind fun r4 => (if r4 = (0 : Int32) then ((fL_setKind v (hl_rem v3 (3 : Int32))).bind fun r6 => (some r6.2)) else if r4 = (1 : Int32) then (if (hl_rem v3 (4 : Int32)) = 0 then ((fL_setSeed v (hl_rem v3 (1000 : Int32))).bind fun r9 => (some r9.2)) else (some v)) else if r4 = (2 : Int32) then ((fL_setLimit v ((25 : Int32) + (hl_rem v3 (66 : Int32)))).bind fun r11 => (some r11.2)) else if r4 = (3 : Int32) then ((gl_rebuild v).bind fun r13 => (some r13.2)) else if r4 = (4 : Int32) then (if (hl_rem v3 (5 : Int32)) = 0 then ((gl_clear v).bind fun r16 => (some r16.2)) else (some v)) else if r4 = (5 : Int32) then (fL_acts_168 g  v v3 r3) else if r4 = (6 : Int32) then (fL_acts_168 g  v v3 r3) else if r4 = (7 : Int32) then (fL_acts_168 g  v v3 r3) else ((fL_put v r3 (v3 - (999 : Int32))).bind fun r20 => (some r20.2))))
def fL_acts (g : LG) (v : LV) (x0 : Int32) : Option (LV) := (fL_some g (x0 + (1 : Int32)) (1999 : Int32)).bind fun r1 => (if (hl_rem r1 (3 : Int32)) = 0 then (fL_acts_29 g  v x0 r1 (10000 : Int32) (x0 + (2 : Int32))) else (fL_acts_29 g  v x0 r1 (40 : Int32) (x0 + (2 : Int32))))
abbrev rmL_acts : Room := { frames := 9, cells := 2, slots := 12, locals := 600 }
theorem hmL_acts : hMS yL_acts cL_acts 6 none 3 := ⟨q_798, q_11, q_797, by decide, by decide, by decide +kernel⟩
theorem dL_acts_0 : decode cL_acts 0 = .ok (.aload_n 1, 1) := by decide +kernel
theorem dL_acts_1 : decode cL_acts 1 = .ok (.iload_n 2, 1) := by decide +kernel
theorem dL_acts_2 : decode cL_acts 2 = .ok (.iconst 1, 1) := by decide +kernel
theorem dL_acts_3 : decode cL_acts 3 = .ok (.iadd, 1) := by decide +kernel
theorem dL_acts_4 : decode cL_acts 4 = .ok (.sipush 1999, 3) := by decide +kernel
theorem dL_acts_7 : decode cL_acts 7 = .ok (.invokestatic 56, 3) := by decide +kernel
theorem dL_acts_10 : decode cL_acts 10 = .ok (.istore_n 3, 1) := by decide +kernel
theorem dL_acts_11 : decode cL_acts 11 = .ok (.aload_n 1, 1) := by decide +kernel
theorem dL_acts_12 : decode cL_acts 12 = .ok (.iload_n 2, 1) := by decide +kernel
theorem dL_acts_13 : decode cL_acts 13 = .ok (.iconst 2, 1) := by decide +kernel
theorem dL_acts_14 : decode cL_acts 14 = .ok (.iadd, 1) := by decide +kernel
theorem dL_acts_15 : decode cL_acts 15 = .ok (.iload_n 3, 1) := by decide +kernel
theorem dL_acts_16 : decode cL_acts 16 = .ok (.iconst 3, 1) := by decide +kernel
theorem dL_acts_17 : decode cL_acts 17 = .ok (.irem, 1) := by decide +kernel
theorem dL_acts_18 : decode cL_acts 18 = .ok (.ifCond .ne 9, 3) := by decide +kernel
theorem dL_acts_21 : decode cL_acts 21 = .ok (.sipush 10000, 3) := by decide +kernel
theorem dL_acts_24 : decode cL_acts 24 = .ok (.goto 5, 3) := by decide +kernel
theorem dL_acts_27 : decode cL_acts 27 = .ok (.bipush 40, 2) := by decide +kernel
theorem dL_acts_29 : decode cL_acts 29 = .ok (.invokestatic 56, 3) := by decide +kernel
theorem dL_acts_32 : decode cL_acts 32 = .ok (.istore 4, 2) := by decide +kernel
theorem dL_acts_34 : decode cL_acts 34 = .ok (.aload_n 1, 1) := by decide +kernel
theorem dL_acts_35 : decode cL_acts 35 = .ok (.iload_n 2, 1) := by decide +kernel
theorem dL_acts_36 : decode cL_acts 36 = .ok (.bipush 16, 2) := by decide +kernel
theorem dL_acts_38 : decode cL_acts 38 = .ok (.invokestatic 56, 3) := by decide +kernel
theorem dL_acts_41 : decode cL_acts 41 = .ok (.tableswitch 162 0 7 #[47, 59, 83, 99, 108, 127, 127, 127], 47) := by decide +kernel
theorem dL_acts_88 : decode cL_acts 88 = .ok (.aload_n 0, 1) := by decide +kernel
theorem dL_acts_89 : decode cL_acts 89 = .ok (.iload_n 3, 1) := by decide +kernel
theorem dL_acts_90 : decode cL_acts 90 = .ok (.iconst 3, 1) := by decide +kernel
theorem dL_acts_91 : decode cL_acts 91 = .ok (.irem, 1) := by decide +kernel
theorem dL_acts_92 : decode cL_acts 92 = .ok (.invokestatic 60, 3) := by decide +kernel
theorem dL_acts_95 : decode cL_acts 95 = .ok (.istore 5, 2) := by decide +kernel
theorem dL_acts_97 : decode cL_acts 97 = .ok (.goto 119, 3) := by decide +kernel
theorem dL_acts_100 : decode cL_acts 100 = .ok (.iload_n 3, 1) := by decide +kernel
theorem dL_acts_101 : decode cL_acts 101 = .ok (.iconst 4, 1) := by decide +kernel
theorem dL_acts_102 : decode cL_acts 102 = .ok (.irem, 1) := by decide +kernel
theorem dL_acts_103 : decode cL_acts 103 = .ok (.ifCond .ne 15, 3) := by decide +kernel
theorem dL_acts_106 : decode cL_acts 106 = .ok (.aload_n 0, 1) := by decide +kernel
theorem dL_acts_107 : decode cL_acts 107 = .ok (.iload_n 3, 1) := by decide +kernel
theorem dL_acts_108 : decode cL_acts 108 = .ok (.sipush 1000, 3) := by decide +kernel
theorem dL_acts_111 : decode cL_acts 111 = .ok (.irem, 1) := by decide +kernel
theorem dL_acts_112 : decode cL_acts 112 = .ok (.invokestatic 63, 3) := by decide +kernel
theorem dL_acts_115 : decode cL_acts 115 = .ok (.goto 4, 3) := by decide +kernel
theorem dL_acts_118 : decode cL_acts 118 = .ok (.iconst 0, 1) := by decide +kernel
theorem dL_acts_119 : decode cL_acts 119 = .ok (.istore 5, 2) := by decide +kernel
theorem dL_acts_121 : decode cL_acts 121 = .ok (.goto 95, 3) := by decide +kernel
theorem dL_acts_124 : decode cL_acts 124 = .ok (.aload_n 0, 1) := by decide +kernel
theorem dL_acts_125 : decode cL_acts 125 = .ok (.bipush 25, 2) := by decide +kernel
theorem dL_acts_127 : decode cL_acts 127 = .ok (.iload_n 3, 1) := by decide +kernel
theorem dL_acts_128 : decode cL_acts 128 = .ok (.bipush 66, 2) := by decide +kernel
theorem dL_acts_130 : decode cL_acts 130 = .ok (.irem, 1) := by decide +kernel
theorem dL_acts_131 : decode cL_acts 131 = .ok (.iadd, 1) := by decide +kernel
theorem dL_acts_132 : decode cL_acts 132 = .ok (.invokestatic 69, 3) := by decide +kernel
theorem dL_acts_135 : decode cL_acts 135 = .ok (.istore 5, 2) := by decide +kernel
theorem dL_acts_137 : decode cL_acts 137 = .ok (.goto 79, 3) := by decide +kernel
theorem dL_acts_140 : decode cL_acts 140 = .ok (.aload_n 0, 1) := by decide +kernel
theorem dL_acts_141 : decode cL_acts 141 = .ok (.invokevirtual 71, 3) := by decide +kernel
theorem dL_acts_144 : decode cL_acts 144 = .ok (.istore 5, 2) := by decide +kernel
theorem dL_acts_146 : decode cL_acts 146 = .ok (.goto 70, 3) := by decide +kernel
theorem dL_acts_149 : decode cL_acts 149 = .ok (.iload_n 3, 1) := by decide +kernel
theorem dL_acts_150 : decode cL_acts 150 = .ok (.iconst 5, 1) := by decide +kernel
theorem dL_acts_151 : decode cL_acts 151 = .ok (.irem, 1) := by decide +kernel
theorem dL_acts_152 : decode cL_acts 152 = .ok (.ifCond .ne 10, 3) := by decide +kernel
theorem dL_acts_155 : decode cL_acts 155 = .ok (.aload_n 0, 1) := by decide +kernel
theorem dL_acts_156 : decode cL_acts 156 = .ok (.invokevirtual 74, 3) := by decide +kernel
theorem dL_acts_159 : decode cL_acts 159 = .ok (.goto 4, 3) := by decide +kernel
theorem dL_acts_162 : decode cL_acts 162 = .ok (.iconst 0, 1) := by decide +kernel
theorem dL_acts_163 : decode cL_acts 163 = .ok (.istore 5, 2) := by decide +kernel
theorem dL_acts_165 : decode cL_acts 165 = .ok (.goto 51, 3) := by decide +kernel
theorem dL_acts_168 : decode cL_acts 168 = .ok (.aload_n 0, 1) := by decide +kernel
theorem dL_acts_169 : decode cL_acts 169 = .ok (.invokevirtual 77, 3) := by decide +kernel
theorem dL_acts_172 : decode cL_acts 172 = .ok (.ifCond .le 20, 3) := by decide +kernel
theorem dL_acts_175 : decode cL_acts 175 = .ok (.aload_n 0, 1) := by decide +kernel
theorem dL_acts_176 : decode cL_acts 176 = .ok (.aload_n 0, 1) := by decide +kernel
theorem dL_acts_177 : decode cL_acts 177 = .ok (.iload_n 3, 1) := by decide +kernel
theorem dL_acts_178 : decode cL_acts 178 = .ok (.aload_n 0, 1) := by decide +kernel
theorem dL_acts_179 : decode cL_acts 179 = .ok (.invokevirtual 77, 3) := by decide +kernel
theorem dL_acts_182 : decode cL_acts 182 = .ok (.irem, 1) := by decide +kernel
theorem dL_acts_183 : decode cL_acts 183 = .ok (.invokevirtual 38, 3) := by decide +kernel
theorem dL_acts_186 : decode cL_acts 186 = .ok (.invokestatic 80, 3) := by decide +kernel
theorem dL_acts_189 : decode cL_acts 189 = .ok (.goto 9, 3) := by decide +kernel
theorem dL_acts_192 : decode cL_acts 192 = .ok (.aload_n 0, 1) := by decide +kernel
theorem dL_acts_193 : decode cL_acts 193 = .ok (.iload 4, 2) := by decide +kernel
theorem dL_acts_195 : decode cL_acts 195 = .ok (.invokestatic 80, 3) := by decide +kernel
theorem dL_acts_198 : decode cL_acts 198 = .ok (.istore 5, 2) := by decide +kernel
theorem dL_acts_200 : decode cL_acts 200 = .ok (.goto 16, 3) := by decide +kernel
theorem dL_acts_203 : decode cL_acts 203 = .ok (.aload_n 0, 1) := by decide +kernel
theorem dL_acts_204 : decode cL_acts 204 = .ok (.iload 4, 2) := by decide +kernel
theorem dL_acts_206 : decode cL_acts 206 = .ok (.iload_n 3, 1) := by decide +kernel
theorem dL_acts_207 : decode cL_acts 207 = .ok (.sipush 999, 3) := by decide +kernel
theorem dL_acts_210 : decode cL_acts 210 = .ok (.isub, 1) := by decide +kernel
theorem dL_acts_211 : decode cL_acts 211 = .ok (.invokestatic 82, 3) := by decide +kernel
theorem dL_acts_214 : decode cL_acts 214 = .ok (.istore 5, 2) := by decide +kernel
theorem dL_acts_216 : decode cL_acts 216 = .ok (.return_, 1) := by decide +kernel
set_option maxHeartbeats 8000000 in
set_option maxRecDepth 100000 in
theorem bL_acts_168 {p : Program} {l : Launch} {e : Env} {s : State} {m : MethodId} {args : Array Value} {below : List Frame} {meth : Method} {c : Code} {D : va_G} {cB cC cI cO : ClassId} {A : Nat → Prop} {g : LG} (C0 : gC RL cL_acts 6 none p s m args meth c D (hTy cB cC cI cO) A) (E0 : hLw g A s) (hl0 : l.stackTraces = false) (L0 : Nat) (ua : LA) (out : LV)    : ∀ (v : LV) (v3 : Int32) (v4 : Int32)  (kk nn : Nat), fL_acts_168 g  v v3 v4 = some out → kk + (2) ≤ rmL_acts.cells → nn + (12) ≤ rmL_acts.slots → gG p l e rmL_acts s m args below meth c D A 6 (MQ below (hQv D (labX cB cC cI cO L0 ua out) A) args s rmL_acts.cells rmL_acts.slots A) kk nn 168 [(0, .ref L0), (3, .int v3), (4, .int v4)] [] (List.append [] (labX cB cC cI cO L0 ua v)) := by
  intro v v3 v4 kk nn hf hb1 hb2
  unfold fL_acts_168 at hf
  refine g_aload_n C0 dL_acts_168 rfl 0 rfl ?_
  obtain ⟨r21, er21, hf⟩ := hl_bd hf
  refine g_sufi C0 (P := []) (X := labX cB cC cI cO L0 ua v) (X1 := labX cB cC cI cO L0 ua v) (As := []) (st := []) (mg_size l D cB cC cI cO L0 ua v  r21 er21) hmX6_size q_197 ⟨Nat.le_of_ble_eq_true rfl, Nat.le_of_ble_eq_true rfl⟩ ⟨by omega, by omega⟩ rfl rfl rfl rfl rfl 0 rfl rfl rfl (Nat.le_of_ble_eq_true rfl) dL_acts_169 ?_
  refine g_if_le C0 (tgt := 192) dL_acts_172 (by decide) (fun c22 => ?_) (fun c22 => ?_)
  · rw [if_pos c22] at hf
    refine g_aload_n C0 dL_acts_192 rfl 0 rfl ?_
    refine g_iload C0 dL_acts_193 2 rfl ?_
    obtain ⟨r23, er23, hf⟩ := hl_bd hf
    refine g_hSi C0 E0 (P := []) (X := labX cB cC cI cO L0 ua v) (X1 := labX cB cC cI cO L0 ua r23.2) (As := [.ref L0, .int v4]) (st := []) (mL_remove l hl0 D cB cC cI cO g L0 ua v v4 r23 er23) hmL_remove q_809 ⟨Nat.le_of_ble_eq_true rfl, Nat.le_of_ble_eq_true rfl⟩ rfl rfl ⟨by omega, by omega⟩ rfl rfl rfl rfl (Nat.le_of_ble_eq_true rfl) dL_acts_195 ?_
    refine g_istore C0 (lv' := [(5, .int r23.1), (0, .ref L0), (3, .int v3), (4, .int v4)]) dL_acts_198 (by decide) rfl ?_
    refine g_goto C0 (tgt := 216) dL_acts_200 (by decide) ?_
    refine g_widen (kk1 := rmL_acts.cells) (nn1 := rmL_acts.slots) (by omega) (by omega) ?_
    cases hf
    exact g_vret C0 dL_acts_216 rfl
  · rw [if_neg c22] at hf
    refine g_aload_n C0 dL_acts_175 rfl 0 rfl ?_
    refine g_aload_n C0 dL_acts_176 rfl 0 rfl ?_
    refine g_iload_n C0 dL_acts_177 rfl 1 rfl ?_
    refine g_aload_n C0 dL_acts_178 rfl 0 rfl ?_
    obtain ⟨r24, er24, hf⟩ := hl_bd hf
    refine g_sufi C0 (P := []) (X := labX cB cC cI cO L0 ua v) (X1 := labX cB cC cI cO L0 ua v) (As := []) (st := [.int v3, .ref L0, .ref L0]) (mg_size l D cB cC cI cO L0 ua v  r24 er24) hmX6_size q_197 ⟨Nat.le_of_ble_eq_true rfl, Nat.le_of_ble_eq_true rfl⟩ ⟨by omega, by omega⟩ rfl rfl rfl rfl rfl 0 rfl rfl rfl (Nat.le_of_ble_eq_true rfl) dL_acts_179 ?_
    obtain ⟨z25, hf⟩ := hl_ifN hf
    refine g_irem C0 dL_acts_182 z25 ?_
    obtain ⟨r26, er26, hf⟩ := hl_bd hf
    obtain ⟨z27, ez27, hf⟩ := hl_inl hf
    have kr26 := mg_keyAt l hl0 D cB cC cI cO L0 ua v (hl_rem v3 r24) r26 er26
    rw [ez27] at kr26
    refine g_sufNi C0 E0.1.1 (P := []) (X := labX cB cC cI cO L0 ua v) (X1 := labX cB cC cI cO L0 ua v) (As := [.int (hl_rem v3 r24)]) (st := [.ref L0]) kr26 hmX6_keyAt q_425 ⟨Nat.le_of_ble_eq_true rfl, Nat.le_of_ble_eq_true rfl⟩ ⟨by omega, by omega⟩ rfl rfl rfl rfl rfl 0 rfl rfl rfl (Nat.le_of_ble_eq_true rfl) dL_acts_183 ?_
    obtain ⟨r28, er28, hf⟩ := hl_bd hf
    refine g_hSi C0 E0 (P := []) (X := labX cB cC cI cO L0 ua v) (X1 := labX cB cC cI cO L0 ua r28.2) (As := [.ref L0, .int z27]) (st := []) (mL_remove l hl0 D cB cC cI cO g L0 ua v z27 r28 er28) hmL_remove q_809 ⟨Nat.le_of_ble_eq_true rfl, Nat.le_of_ble_eq_true rfl⟩ rfl rfl ⟨by omega, by omega⟩ rfl rfl rfl rfl (Nat.le_of_ble_eq_true rfl) dL_acts_186 ?_
    refine g_goto C0 (tgt := 198) dL_acts_189 (by decide) ?_
    refine g_istore C0 (lv' := [(5, .int r28.1), (0, .ref L0), (3, .int v3), (4, .int v4)]) dL_acts_198 (by decide) rfl ?_
    refine g_goto C0 (tgt := 216) dL_acts_200 (by decide) ?_
    refine g_widen (kk1 := rmL_acts.cells) (nn1 := rmL_acts.slots) (by omega) (by omega) ?_
    cases hf
    exact g_vret C0 dL_acts_216 rfl
set_option maxHeartbeats 8000000 in
set_option maxRecDepth 100000 in
theorem bL_acts_29 {p : Program} {l : Launch} {e : Env} {s : State} {m : MethodId} {args : Array Value} {below : List Frame} {meth : Method} {c : Code} {D : va_G} {cB cC cI cO : ClassId} {A : Nat → Prop} {g : LG} (C0 : gC RL cL_acts 6 none p s m args meth c D (hTy cB cC cI cO) A) (E0 : hLw g A s) (hl0 : l.stackTraces = false) (L0 : Nat) (ua : LA) (out : LV)    : ∀ (v : LV) (v2 : Int32) (v3 : Int32) (k0 : Int32) (k1 : Int32)  (kk nn : Nat), fL_acts_29 g  v v2 v3 k0 k1 = some out → kk + (2) ≤ rmL_acts.cells → nn + (12) ≤ rmL_acts.slots → gG p l e rmL_acts s m args below meth c D A 6 (MQ below (hQv D (labX cB cC cI cO L0 ua out) A) args s rmL_acts.cells rmL_acts.slots A) kk nn 29 [(0, .ref L0), (1, .ref g.2.2.1), (2, .int v2), (3, .int v3)] [.int k0, .int k1, .ref g.2.2.1] (List.append [] (labX cB cC cI cO L0 ua v)) := by
  intro v v2 v3 k0 k1 kk nn hf hb1 hb2
  unfold fL_acts_29 at hf
  obtain ⟨r3, er3, hf⟩ := hl_bd hf
  refine g_l0i C0 E0 (mL_some l hl0 D cB cC cI cO g k1 k0 r3 er3) hmL_some q_667 ⟨Nat.le_of_ble_eq_true rfl, Nat.le_of_ble_eq_true rfl⟩ rfl rfl ⟨by omega, by omega⟩ rfl rfl (Nat.le_of_ble_eq_true rfl) dL_acts_29 ?_
  refine g_istore C0 (lv' := [(4, .int r3), (0, .ref L0), (1, .ref g.2.2.1), (2, .int v2), (3, .int v3)]) dL_acts_32 (by decide) rfl ?_
  refine g_aload_n C0 dL_acts_34 rfl 2 rfl ?_
  refine g_iload_n C0 dL_acts_35 rfl 3 rfl ?_
  refine g_bipush C0 (v := (16 : Int32)) dL_acts_36 (by decide) ?_
  obtain ⟨r4, er4, hf⟩ := hl_bd hf
  refine g_l0i C0 E0 (mL_some l hl0 D cB cC cI cO g v2 (16 : Int32) r4 er4) hmL_some q_667 ⟨Nat.le_of_ble_eq_true rfl, Nat.le_of_ble_eq_true rfl⟩ rfl rfl ⟨by omega, by omega⟩ rfl rfl (Nat.le_of_ble_eq_true rfl) dL_acts_38 ?_
  by_cases c5 : r4 = (0 : Int32)
  · rw [if_pos c5] at hf
    refine g_tableIn C0 (tgt := 88) dL_acts_41 (by rw [c5]; decide) (by rw [c5]; decide) (by rw [c5]; rfl) (by decide) ?_
    refine g_aload_n C0 dL_acts_88 rfl 1 rfl ?_
    refine g_iload_n C0 dL_acts_89 rfl 4 rfl ?_
    refine g_iconst C0 (v := (3 : Int32)) dL_acts_90 (by decide) ?_
    refine g_irem C0 dL_acts_91 (by decide) ?_
    obtain ⟨r6, er6, hf⟩ := hl_bd hf
    refine g_hSi C0 E0 (P := []) (X := labX cB cC cI cO L0 ua v) (X1 := labX cB cC cI cO L0 ua r6.2) (As := [.ref L0, .int (hl_rem v3 (3 : Int32))]) (st := []) (mL_setKind l hl0 D cB cC cI cO g L0 ua v (hl_rem v3 (3 : Int32)) r6 er6) hmL_setKind q_673 ⟨Nat.le_of_ble_eq_true rfl, Nat.le_of_ble_eq_true rfl⟩ rfl rfl ⟨by omega, by omega⟩ rfl rfl rfl rfl (Nat.le_of_ble_eq_true rfl) dL_acts_92 ?_
    refine g_istore C0 (lv' := [(5, .int r6.1), (4, .int r3), (0, .ref L0), (1, .ref g.2.2.1), (2, .int v2), (3, .int v3)]) dL_acts_95 (by decide) rfl ?_
    refine g_goto C0 (tgt := 216) dL_acts_97 (by decide) ?_
    refine g_widen (kk1 := rmL_acts.cells) (nn1 := rmL_acts.slots) (by omega) (by omega) ?_
    cases hf
    exact g_vret C0 dL_acts_216 rfl
  rw [if_neg c5] at hf
  by_cases c7 : r4 = (1 : Int32)
  · rw [if_pos c7] at hf
    refine g_tableIn C0 (tgt := 100) dL_acts_41 (by rw [c7]; decide) (by rw [c7]; decide) (by rw [c7]; rfl) (by decide) ?_
    refine g_iload_n C0 dL_acts_100 rfl 4 rfl ?_
    refine g_iconst C0 (v := (4 : Int32)) dL_acts_101 (by decide) ?_
    refine g_irem C0 dL_acts_102 (by decide) ?_
    refine g_if_ne C0 (tgt := 118) dL_acts_103 (by decide) (fun c8 => ?_) (fun c8 => ?_)
    · rw [if_neg c8] at hf
      refine g_iconst C0 (v := (0 : Int32)) dL_acts_118 (by decide) ?_
      refine g_istore C0 (lv' := [(5, .int (0 : Int32)), (4, .int r3), (0, .ref L0), (1, .ref g.2.2.1), (2, .int v2), (3, .int v3)]) dL_acts_119 (by decide) rfl ?_
      refine g_goto C0 (tgt := 216) dL_acts_121 (by decide) ?_
      refine g_widen (kk1 := rmL_acts.cells) (nn1 := rmL_acts.slots) (by omega) (by omega) ?_
      cases hf
      exact g_vret C0 dL_acts_216 rfl
    · rw [if_pos c8] at hf
      refine g_aload_n C0 dL_acts_106 rfl 1 rfl ?_
      refine g_iload_n C0 dL_acts_107 rfl 4 rfl ?_
      refine g_sipush C0 (v := (1000 : Int32)) dL_acts_108 (by decide) ?_
      refine g_irem C0 dL_acts_111 (by decide) ?_
      obtain ⟨r9, er9, hf⟩ := hl_bd hf
      refine g_hSi C0 E0 (P := []) (X := labX cB cC cI cO L0 ua v) (X1 := labX cB cC cI cO L0 ua r9.2) (As := [.ref L0, .int (hl_rem v3 (1000 : Int32))]) (st := []) (mL_setSeed l hl0 D cB cC cI cO g L0 ua v (hl_rem v3 (1000 : Int32)) r9 er9) hmL_setSeed q_692 ⟨Nat.le_of_ble_eq_true rfl, Nat.le_of_ble_eq_true rfl⟩ rfl rfl ⟨by omega, by omega⟩ rfl rfl rfl rfl (Nat.le_of_ble_eq_true rfl) dL_acts_112 ?_
      refine g_goto C0 (tgt := 119) dL_acts_115 (by decide) ?_
      refine g_istore C0 (lv' := [(5, .int r9.1), (4, .int r3), (0, .ref L0), (1, .ref g.2.2.1), (2, .int v2), (3, .int v3)]) dL_acts_119 (by decide) rfl ?_
      refine g_goto C0 (tgt := 216) dL_acts_121 (by decide) ?_
      refine g_widen (kk1 := rmL_acts.cells) (nn1 := rmL_acts.slots) (by omega) (by omega) ?_
      cases hf
      exact g_vret C0 dL_acts_216 rfl
  rw [if_neg c7] at hf
  by_cases c10 : r4 = (2 : Int32)
  · rw [if_pos c10] at hf
    refine g_tableIn C0 (tgt := 124) dL_acts_41 (by rw [c10]; decide) (by rw [c10]; decide) (by rw [c10]; rfl) (by decide) ?_
    refine g_aload_n C0 dL_acts_124 rfl 1 rfl ?_
    refine g_bipush C0 (v := (25 : Int32)) dL_acts_125 (by decide) ?_
    refine g_iload_n C0 dL_acts_127 rfl 4 rfl ?_
    refine g_bipush C0 (v := (66 : Int32)) dL_acts_128 (by decide) ?_
    refine g_irem C0 dL_acts_130 (by decide) ?_
    refine g_iadd C0 dL_acts_131 ?_
    obtain ⟨r11, er11, hf⟩ := hl_bd hf
    refine g_hSi C0 E0 (P := []) (X := labX cB cC cI cO L0 ua v) (X1 := labX cB cC cI cO L0 ua r11.2) (As := [.ref L0, .int ((25 : Int32) + (hl_rem v3 (66 : Int32)))]) (st := []) (mL_setLimit l hl0 D cB cC cI cO g L0 ua v ((25 : Int32) + (hl_rem v3 (66 : Int32))) r11 er11) hmL_setLimit q_707 ⟨Nat.le_of_ble_eq_true rfl, Nat.le_of_ble_eq_true rfl⟩ rfl rfl ⟨by omega, by omega⟩ rfl rfl rfl rfl (Nat.le_of_ble_eq_true rfl) dL_acts_132 ?_
    refine g_istore C0 (lv' := [(5, .int r11.1), (4, .int r3), (0, .ref L0), (1, .ref g.2.2.1), (2, .int v2), (3, .int v3)]) dL_acts_135 (by decide) rfl ?_
    refine g_goto C0 (tgt := 216) dL_acts_137 (by decide) ?_
    refine g_widen (kk1 := rmL_acts.cells) (nn1 := rmL_acts.slots) (by omega) (by omega) ?_
    cases hf
    exact g_vret C0 dL_acts_216 rfl
  rw [if_neg c10] at hf
  by_cases c12 : r4 = (3 : Int32)
  · rw [if_pos c12] at hf
    refine g_tableIn C0 (tgt := 140) dL_acts_41 (by rw [c12]; decide) (by rw [c12]; decide) (by rw [c12]; rfl) (by decide) ?_
    refine g_aload_n C0 dL_acts_140 rfl 1 rfl ?_
    obtain ⟨r13, er13, hf⟩ := hl_bd hf
    refine g_sufi C0 (P := []) (X := labX cB cC cI cO L0 ua v) (X1 := labX cB cC cI cO L0 ua r13.2) (As := []) (st := []) (mg_rebuild l D cB cC cI cO L0 ua v  r13 er13) hmX6_rebuild q_799 ⟨Nat.le_of_ble_eq_true rfl, Nat.le_of_ble_eq_true rfl⟩ ⟨by omega, by omega⟩ rfl rfl rfl rfl rfl 0 rfl rfl rfl (Nat.le_of_ble_eq_true rfl) dL_acts_141 ?_
    refine g_istore C0 (lv' := [(5, .int r13.1), (4, .int r3), (0, .ref L0), (1, .ref g.2.2.1), (2, .int v2), (3, .int v3)]) dL_acts_144 (by decide) rfl ?_
    refine g_goto C0 (tgt := 216) dL_acts_146 (by decide) ?_
    refine g_widen (kk1 := rmL_acts.cells) (nn1 := rmL_acts.slots) (by omega) (by omega) ?_
    cases hf
    exact g_vret C0 dL_acts_216 rfl
  rw [if_neg c12] at hf
  by_cases c14 : r4 = (4 : Int32)
  · rw [if_pos c14] at hf
    refine g_tableIn C0 (tgt := 149) dL_acts_41 (by rw [c14]; decide) (by rw [c14]; decide) (by rw [c14]; rfl) (by decide) ?_
    refine g_iload_n C0 dL_acts_149 rfl 4 rfl ?_
    refine g_iconst C0 (v := (5 : Int32)) dL_acts_150 (by decide) ?_
    refine g_irem C0 dL_acts_151 (by decide) ?_
    refine g_if_ne C0 (tgt := 162) dL_acts_152 (by decide) (fun c15 => ?_) (fun c15 => ?_)
    · rw [if_neg c15] at hf
      refine g_iconst C0 (v := (0 : Int32)) dL_acts_162 (by decide) ?_
      refine g_istore C0 (lv' := [(5, .int (0 : Int32)), (4, .int r3), (0, .ref L0), (1, .ref g.2.2.1), (2, .int v2), (3, .int v3)]) dL_acts_163 (by decide) rfl ?_
      refine g_goto C0 (tgt := 216) dL_acts_165 (by decide) ?_
      refine g_widen (kk1 := rmL_acts.cells) (nn1 := rmL_acts.slots) (by omega) (by omega) ?_
      cases hf
      exact g_vret C0 dL_acts_216 rfl
    · rw [if_pos c15] at hf
      refine g_aload_n C0 dL_acts_155 rfl 1 rfl ?_
      obtain ⟨r16, er16, hf⟩ := hl_bd hf
      refine g_sufi C0 (P := []) (X := labX cB cC cI cO L0 ua v) (X1 := labX cB cC cI cO L0 ua r16.2) (As := []) (st := []) (mg_clear l D cB cC cI cO L0 ua v  r16 er16) hmX6_clear q_804 ⟨Nat.le_of_ble_eq_true rfl, Nat.le_of_ble_eq_true rfl⟩ ⟨by omega, by omega⟩ rfl rfl rfl rfl rfl 0 rfl rfl rfl (Nat.le_of_ble_eq_true rfl) dL_acts_156 ?_
      refine g_goto C0 (tgt := 163) dL_acts_159 (by decide) ?_
      refine g_istore C0 (lv' := [(5, .int r16.1), (4, .int r3), (0, .ref L0), (1, .ref g.2.2.1), (2, .int v2), (3, .int v3)]) dL_acts_163 (by decide) rfl ?_
      refine g_goto C0 (tgt := 216) dL_acts_165 (by decide) ?_
      refine g_widen (kk1 := rmL_acts.cells) (nn1 := rmL_acts.slots) (by omega) (by omega) ?_
      cases hf
      exact g_vret C0 dL_acts_216 rfl
  rw [if_neg c14] at hf
  by_cases c17 : r4 = (5 : Int32)
  · rw [if_pos c17] at hf
    refine g_tableIn C0 (tgt := 168) dL_acts_41 (by rw [c17]; decide) (by rw [c17]; decide) (by rw [c17]; rfl) (by decide) ?_
    refine g_lv [1, 4, 0] (lv' := [(0, .ref L0), (3, .int v3), (4, .int r3)]) rfl ?_
    exact bL_acts_168 C0 E0 hl0 L0 ua out   v v3 r3  _ _ hf (by omega) (by omega)
  rw [if_neg c17] at hf
  by_cases c18 : r4 = (6 : Int32)
  · rw [if_pos c18] at hf
    refine g_tableIn C0 (tgt := 168) dL_acts_41 (by rw [c18]; decide) (by rw [c18]; decide) (by rw [c18]; rfl) (by decide) ?_
    refine g_lv [1, 4, 0] (lv' := [(0, .ref L0), (3, .int v3), (4, .int r3)]) rfl ?_
    exact bL_acts_168 C0 E0 hl0 L0 ua out   v v3 r3  _ _ hf (by omega) (by omega)
  rw [if_neg c18] at hf
  by_cases c19 : r4 = (7 : Int32)
  · rw [if_pos c19] at hf
    refine g_tableIn C0 (tgt := 168) dL_acts_41 (by rw [c19]; decide) (by rw [c19]; decide) (by rw [c19]; rfl) (by decide) ?_
    refine g_lv [1, 4, 0] (lv' := [(0, .ref L0), (3, .int v3), (4, .int r3)]) rfl ?_
    exact bL_acts_168 C0 E0 hl0 L0 ua out   v v3 r3  _ _ hf (by omega) (by omega)
  rw [if_neg c19] at hf
  have k_c5 : r4.toInt ≠ 0 := fun z => c5 (Int32.toInt_inj.mp (z.trans (by decide)))
  have k_c7 : r4.toInt ≠ 1 := fun z => c7 (Int32.toInt_inj.mp (z.trans (by decide)))
  have k_c10 : r4.toInt ≠ 2 := fun z => c10 (Int32.toInt_inj.mp (z.trans (by decide)))
  have k_c12 : r4.toInt ≠ 3 := fun z => c12 (Int32.toInt_inj.mp (z.trans (by decide)))
  have k_c14 : r4.toInt ≠ 4 := fun z => c14 (Int32.toInt_inj.mp (z.trans (by decide)))
  have k_c17 : r4.toInt ≠ 5 := fun z => c17 (Int32.toInt_inj.mp (z.trans (by decide)))
  have k_c18 : r4.toInt ≠ 6 := fun z => c18 (Int32.toInt_inj.mp (z.trans (by decide)))
  have k_c19 : r4.toInt ≠ 7 := fun z => c19 (Int32.toInt_inj.mp (z.trans (by decide)))
  refine g_tableOut C0 (tgt := 203) dL_acts_41 (by omega) (by decide) ?_
  refine g_aload_n C0 dL_acts_203 rfl 1 rfl ?_
  refine g_iload C0 dL_acts_204 0 rfl ?_
  refine g_iload_n C0 dL_acts_206 rfl 4 rfl ?_
  refine g_sipush C0 (v := (999 : Int32)) dL_acts_207 (by decide) ?_
  refine g_isub C0 dL_acts_210 ?_
  obtain ⟨r20, er20, hf⟩ := hl_bd hf
  refine g_hSi C0 E0 (P := []) (X := labX cB cC cI cO L0 ua v) (X1 := labX cB cC cI cO L0 ua r20.2) (As := [.ref L0, .int r3, .int (v3 - (999 : Int32))]) (st := []) (mL_put l hl0 D cB cC cI cO g L0 ua v r3 (v3 - (999 : Int32)) r20 er20) hmL_put q_764 ⟨Nat.le_of_ble_eq_true rfl, Nat.le_of_ble_eq_true rfl⟩ rfl rfl ⟨by omega, by omega⟩ rfl rfl rfl rfl (Nat.le_of_ble_eq_true rfl) dL_acts_211 ?_
  refine g_istore C0 (lv' := [(5, .int r20.1), (4, .int r3), (0, .ref L0), (1, .ref g.2.2.1), (2, .int v2), (3, .int v3)]) dL_acts_214 (by decide) rfl ?_
  refine g_widen (kk1 := rmL_acts.cells) (nn1 := rmL_acts.slots) (by omega) (by omega) ?_
  cases hf
  exact g_vret C0 dL_acts_216 rfl
set_option maxHeartbeats 8000000 in
set_option maxRecDepth 100000 in
theorem bL_acts {p : Program} {l : Launch} {e : Env} {s : State} {m : MethodId} {args : Array Value} {below : List Frame} {meth : Method} {c : Code} {D : va_G} {cB cC cI cO : ClassId} {A : Nat → Prop} {g : LG} (C0 : gC RL cL_acts 6 none p s m args meth c D (hTy cB cC cI cO) A) (E0 : hLw g A s) (hl0 : l.stackTraces = false) (L0 : Nat) (ua : LA) (v : LV) (x0 : Int32) (out : LV) (hf : fL_acts g v x0 = some out) : gG p l e rmL_acts s m args below meth c D A 6 (MQ below (hQv D (labX cB cC cI cO L0 ua out) A) args s rmL_acts.cells rmL_acts.slots A) 0 0 0 [(0, .ref L0), (1, .ref g.2.2.1), (2, .int x0)] [] (labX cB cC cI cO L0 ua v) := by
  have hb1 : 0 + 2 ≤ rmL_acts.cells := Nat.le_of_ble_eq_true rfl
  have hb2 : 0 + 12 ≤ rmL_acts.slots := Nat.le_of_ble_eq_true rfl
  unfold fL_acts at hf
  refine g_aload_n C0 dL_acts_0 rfl 1 rfl ?_
  refine g_iload_n C0 dL_acts_1 rfl 2 rfl ?_
  refine g_iconst C0 (v := (1 : Int32)) dL_acts_2 (by decide) ?_
  refine g_iadd C0 dL_acts_3 ?_
  refine g_sipush C0 (v := (1999 : Int32)) dL_acts_4 (by decide) ?_
  obtain ⟨r1, er1, hf⟩ := hl_bd hf
  refine g_l0i C0 E0 (mL_some l hl0 D cB cC cI cO g (x0 + (1 : Int32)) (1999 : Int32) r1 er1) hmL_some q_667 ⟨Nat.le_of_ble_eq_true rfl, Nat.le_of_ble_eq_true rfl⟩ rfl rfl ⟨by omega, by omega⟩ rfl rfl (Nat.le_of_ble_eq_true rfl) dL_acts_7 ?_
  refine g_istore_n C0 (lv' := [(3, .int r1), (0, .ref L0), (1, .ref g.2.2.1), (2, .int x0)]) dL_acts_10 rfl (by decide) rfl ?_
  refine g_aload_n C0 dL_acts_11 rfl 2 rfl ?_
  refine g_iload_n C0 dL_acts_12 rfl 3 rfl ?_
  refine g_iconst C0 (v := (2 : Int32)) dL_acts_13 (by decide) ?_
  refine g_iadd C0 dL_acts_14 ?_
  refine g_iload_n C0 dL_acts_15 rfl 0 rfl ?_
  refine g_iconst C0 (v := (3 : Int32)) dL_acts_16 (by decide) ?_
  refine g_irem C0 dL_acts_17 (by decide) ?_
  refine g_if_ne C0 (tgt := 27) dL_acts_18 (by decide) (fun c2 => ?_) (fun c2 => ?_)
  · rw [if_neg c2] at hf
    refine g_bipush C0 (v := (40 : Int32)) dL_acts_27 (by decide) ?_
    refine g_lv [1, 2, 3, 0] (lv' := [(0, .ref L0), (1, .ref g.2.2.1), (2, .int x0), (3, .int r1)]) rfl ?_
    exact bL_acts_29 C0 E0 hl0 L0 ua out   v x0 r1 (40 : Int32) (x0 + (2 : Int32))  _ _ hf (by omega) (by omega)
  · rw [if_pos c2] at hf
    refine g_sipush C0 (v := (10000 : Int32)) dL_acts_21 (by decide) ?_
    refine g_goto C0 (tgt := 29) dL_acts_24 (by decide) ?_
    refine g_lv [1, 2, 3, 0] (lv' := [(0, .ref L0), (1, .ref g.2.2.1), (2, .int x0), (3, .int r1)]) rfl ?_
    exact bL_acts_29 C0 E0 hl0 L0 ua out   v x0 r1 (10000 : Int32) (x0 + (2 : Int32))  _ _ hf (by omega) (by omega)
theorem mL_acts (l : Launch) (hl0 : l.stackTraces = false) (D : va_G) (cB cC cI cO : ClassId) (g : LG) (L0 : Nat) (ua : LA) (v : LV) (x0 : Int32) (out : LV) (hf : fL_acts g v x0 = some out) : ∀ sz, Met l yL_acts (ws_ yL_acts cL_acts 6 none) rmL_acts (va_Pc [.ref L0, .ref g.2.2.1, .int x0] (hPreE (hLw g) D (hTy cB cC cI cO) (labX cB cC cI cO L0 ua v) sz)) (hQv D (labX cB cC cI cO L0 ua out) (va_A (labX cB cC cI cO L0 ua v) sz)) 2 12 (va_A (labX cB cC cI cO L0 ua v) sz) :=
  g_metE (Qf := fun A => hQv D (labX cB cC cI cO L0 ua out) A) (by decide +kernel) (Nat.le_of_ble_eq_true rfl) rfl (fun C0 E0 => bL_acts C0 E0 hl0 L0 ua v x0 out hf)
/-! the law's build: 30 instructions -/
def fL_build_26 (g : LG) : Nat → LV → Int32 → Option (LV)
  | 0, _, _ => none
  | n + 1, v, v3 => if (24 : Int32) ≤ v3 then (some v) else ((fL_acts g v ((2 : Int32) + ((3 : Int32) * v3))).bind fun r6 => (fL_build_26 g n r6 (v3 + (1 : Int32))))
def fL_build (g : LG) (v : LV)  : Option (LV) := (fL_some g (0 : Int32) (3 : Int32)).bind fun r1 => ((fL_setKind v r1).bind fun r2 => ((fL_some g (1 : Int32) (1000 : Int32)).bind fun r3 => ((fL_setSeed r2.2 r3).bind fun r4 => (fL_build_26 g  25 r4.2 (0 : Int32)))))
abbrev rmL_build : Room := { frames := 11, cells := 52, slots := 312, locals := 800 }
theorem hmL_build : hMS yL_build cL_build 4 none 2 := ⟨q_795, q_11, q_794, by decide, by decide, by decide +kernel⟩
theorem dL_build_0 : decode cL_build 0 = .ok (.aload_n 0, 1) := by decide +kernel
theorem dL_build_1 : decode cL_build 1 = .ok (.aload_n 1, 1) := by decide +kernel
theorem dL_build_2 : decode cL_build 2 = .ok (.iconst 0, 1) := by decide +kernel
theorem dL_build_3 : decode cL_build 3 = .ok (.iconst 3, 1) := by decide +kernel
theorem dL_build_4 : decode cL_build 4 = .ok (.invokestatic 56, 3) := by decide +kernel
theorem dL_build_7 : decode cL_build 7 = .ok (.invokestatic 60, 3) := by decide +kernel
theorem dL_build_10 : decode cL_build 10 = .ok (.istore_n 2, 1) := by decide +kernel
theorem dL_build_11 : decode cL_build 11 = .ok (.aload_n 0, 1) := by decide +kernel
theorem dL_build_12 : decode cL_build 12 = .ok (.aload_n 1, 1) := by decide +kernel
theorem dL_build_13 : decode cL_build 13 = .ok (.iconst 1, 1) := by decide +kernel
theorem dL_build_14 : decode cL_build 14 = .ok (.sipush 1000, 3) := by decide +kernel
theorem dL_build_17 : decode cL_build 17 = .ok (.invokestatic 56, 3) := by decide +kernel
theorem dL_build_20 : decode cL_build 20 = .ok (.invokestatic 63, 3) := by decide +kernel
theorem dL_build_23 : decode cL_build 23 = .ok (.istore_n 2, 1) := by decide +kernel
theorem dL_build_24 : decode cL_build 24 = .ok (.iconst 0, 1) := by decide +kernel
theorem dL_build_25 : decode cL_build 25 = .ok (.istore_n 3, 1) := by decide +kernel
theorem dL_build_26 : decode cL_build 26 = .ok (.iload_n 3, 1) := by decide +kernel
theorem dL_build_27 : decode cL_build 27 = .ok (.bipush 24, 2) := by decide +kernel
theorem dL_build_29 : decode cL_build 29 = .ok (.if_icmp .ge 19, 3) := by decide +kernel
theorem dL_build_32 : decode cL_build 32 = .ok (.aload_n 0, 1) := by decide +kernel
theorem dL_build_33 : decode cL_build 33 = .ok (.aload_n 1, 1) := by decide +kernel
theorem dL_build_34 : decode cL_build 34 = .ok (.iconst 2, 1) := by decide +kernel
theorem dL_build_35 : decode cL_build 35 = .ok (.iconst 3, 1) := by decide +kernel
theorem dL_build_36 : decode cL_build 36 = .ok (.iload_n 3, 1) := by decide +kernel
theorem dL_build_37 : decode cL_build 37 = .ok (.imul, 1) := by decide +kernel
theorem dL_build_38 : decode cL_build 38 = .ok (.iadd, 1) := by decide +kernel
theorem dL_build_39 : decode cL_build 39 = .ok (.invokestatic 65, 3) := by decide +kernel
theorem dL_build_42 : decode cL_build 42 = .ok (.iinc 3 1, 3) := by decide +kernel
theorem dL_build_45 : decode cL_build 45 = .ok (.goto (-19), 3) := by decide +kernel
theorem dL_build_48 : decode cL_build 48 = .ok (.return_, 1) := by decide +kernel
set_option maxHeartbeats 8000000 in
set_option maxRecDepth 100000 in
theorem bL_build_26 {p : Program} {l : Launch} {e : Env} {s : State} {m : MethodId} {args : Array Value} {below : List Frame} {meth : Method} {c : Code} {D : va_G} {cB cC cI cO : ClassId} {A : Nat → Prop} {g : LG} (C0 : gC RL cL_build 4 none p s m args meth c D (hTy cB cC cI cO) A) (E0 : hLw g A s) (hl0 : l.stackTraces = false) (L0 : Nat) (ua : LA) (out : LV)    : ∀ (n : Nat) (v : LV) (v3 : Int32)  (kk nn : Nat), fL_build_26 g n v v3 = some out → kk + (n * 2 + (0)) ≤ rmL_build.cells → nn + (n * 12 + (0)) ≤ rmL_build.slots → gG p l e rmL_build s m args below meth c D A 4 (MQ below (hQv D (labX cB cC cI cO L0 ua out) A) args s rmL_build.cells rmL_build.slots A) kk nn 26 [(0, .ref L0), (1, .ref g.2.2.1), (3, .int v3)] [] (List.append [] (labX cB cC cI cO L0 ua v)) := by
  intro n
  induction n with
  | zero => intro v v3 kk nn hf hb1 hb2; rw [fL_build_26] at hf; cases hf
  | succ n ih =>
    intro v v3 kk nn hf hb1 hb2
    rw [fL_build_26] at hf
    refine g_iload_n C0 dL_build_26 rfl 2 rfl ?_
    refine g_bipush C0 (v := (24 : Int32)) dL_build_27 (by decide) ?_
    refine g_icmp_ge C0 (tgt := 48) dL_build_29 (by decide) (fun c5 => ?_) (fun c5 => ?_)
    · rw [if_pos c5] at hf
      refine g_widen (kk1 := rmL_build.cells) (nn1 := rmL_build.slots) (by omega) (by omega) ?_
      cases hf
      exact g_vret C0 dL_build_48 rfl
    · rw [if_neg c5] at hf
      refine g_aload_n C0 dL_build_32 rfl 0 rfl ?_
      refine g_aload_n C0 dL_build_33 rfl 1 rfl ?_
      refine g_iconst C0 (v := (2 : Int32)) dL_build_34 (by decide) ?_
      refine g_iconst C0 (v := (3 : Int32)) dL_build_35 (by decide) ?_
      refine g_iload_n C0 dL_build_36 rfl 2 rfl ?_
      refine g_imul C0 dL_build_37 ?_
      refine g_iadd C0 dL_build_38 ?_
      obtain ⟨r6, er6, hf⟩ := hl_bd hf
      refine g_lSv C0 E0 (P := []) (X := labX cB cC cI cO L0 ua v) (X1 := labX cB cC cI cO L0 ua r6) (As := [.ref L0, .ref g.2.2.1, .int ((2 : Int32) + ((3 : Int32) * v3))]) (st := []) (mL_acts l hl0 D cB cC cI cO g L0 ua v ((2 : Int32) + ((3 : Int32) * v3)) r6 er6) hmL_acts q_796 ⟨Nat.le_of_ble_eq_true rfl, Nat.le_of_ble_eq_true rfl⟩ rfl rfl ⟨by omega, by omega⟩ rfl rfl rfl rfl (Nat.le_of_ble_eq_true rfl) dL_build_39 ?_
      refine g_iinc C0 (lv' := [(3, .int (v3 + (1 : Int32))), (0, .ref L0), (1, .ref g.2.2.1)]) dL_build_42 2 rfl rfl (by decide) rfl ?_
      refine g_goto C0 (tgt := 26) dL_build_45 (by decide) ?_
      refine g_lv [1, 2, 0] (lv' := [(0, .ref L0), (1, .ref g.2.2.1), (3, .int (v3 + (1 : Int32)))]) rfl ?_
      exact ih r6 (v3 + (1 : Int32))  _ _ hf (by omega) (by omega)
set_option maxHeartbeats 8000000 in
set_option maxRecDepth 100000 in
theorem bL_build {p : Program} {l : Launch} {e : Env} {s : State} {m : MethodId} {args : Array Value} {below : List Frame} {meth : Method} {c : Code} {D : va_G} {cB cC cI cO : ClassId} {A : Nat → Prop} {g : LG} (C0 : gC RL cL_build 4 none p s m args meth c D (hTy cB cC cI cO) A) (E0 : hLw g A s) (hl0 : l.stackTraces = false) (L0 : Nat) (ua : LA) (v : LV)  (out : LV) (hf : fL_build g v  = some out) : gG p l e rmL_build s m args below meth c D A 4 (MQ below (hQv D (labX cB cC cI cO L0 ua out) A) args s rmL_build.cells rmL_build.slots A) 0 0 0 [(0, .ref L0), (1, .ref g.2.2.1)] [] (labX cB cC cI cO L0 ua v) := by
  have hb1 : 0 + 52 ≤ rmL_build.cells := Nat.le_of_ble_eq_true rfl
  have hb2 : 0 + 312 ≤ rmL_build.slots := Nat.le_of_ble_eq_true rfl
  unfold fL_build at hf
  refine g_aload_n C0 dL_build_0 rfl 0 rfl ?_
  refine g_aload_n C0 dL_build_1 rfl 1 rfl ?_
  refine g_iconst C0 (v := (0 : Int32)) dL_build_2 (by decide) ?_
  refine g_iconst C0 (v := (3 : Int32)) dL_build_3 (by decide) ?_
  obtain ⟨r1, er1, hf⟩ := hl_bd hf
  refine g_l0i C0 E0 (mL_some l hl0 D cB cC cI cO g (0 : Int32) (3 : Int32) r1 er1) hmL_some q_667 ⟨Nat.le_of_ble_eq_true rfl, Nat.le_of_ble_eq_true rfl⟩ rfl rfl ⟨by omega, by omega⟩ rfl rfl (Nat.le_of_ble_eq_true rfl) dL_build_4 ?_
  obtain ⟨r2, er2, hf⟩ := hl_bd hf
  refine g_hSi C0 E0 (P := []) (X := labX cB cC cI cO L0 ua v) (X1 := labX cB cC cI cO L0 ua r2.2) (As := [.ref L0, .int r1]) (st := []) (mL_setKind l hl0 D cB cC cI cO g L0 ua v r1 r2 er2) hmL_setKind q_673 ⟨Nat.le_of_ble_eq_true rfl, Nat.le_of_ble_eq_true rfl⟩ rfl rfl ⟨by omega, by omega⟩ rfl rfl rfl rfl (Nat.le_of_ble_eq_true rfl) dL_build_7 ?_
  refine g_istore_n C0 (lv' := [(2, .int r2.1), (0, .ref L0), (1, .ref g.2.2.1)]) dL_build_10 rfl (by decide) rfl ?_
  refine g_aload_n C0 dL_build_11 rfl 1 rfl ?_
  refine g_aload_n C0 dL_build_12 rfl 2 rfl ?_
  refine g_iconst C0 (v := (1 : Int32)) dL_build_13 (by decide) ?_
  refine g_sipush C0 (v := (1000 : Int32)) dL_build_14 (by decide) ?_
  obtain ⟨r3, er3, hf⟩ := hl_bd hf
  refine g_l0i C0 E0 (mL_some l hl0 D cB cC cI cO g (1 : Int32) (1000 : Int32) r3 er3) hmL_some q_667 ⟨Nat.le_of_ble_eq_true rfl, Nat.le_of_ble_eq_true rfl⟩ rfl rfl ⟨by omega, by omega⟩ rfl rfl (Nat.le_of_ble_eq_true rfl) dL_build_17 ?_
  obtain ⟨r4, er4, hf⟩ := hl_bd hf
  refine g_hSi C0 E0 (P := []) (X := labX cB cC cI cO L0 ua r2.2) (X1 := labX cB cC cI cO L0 ua r4.2) (As := [.ref L0, .int r3]) (st := []) (mL_setSeed l hl0 D cB cC cI cO g L0 ua r2.2 r3 r4 er4) hmL_setSeed q_692 ⟨Nat.le_of_ble_eq_true rfl, Nat.le_of_ble_eq_true rfl⟩ rfl rfl ⟨by omega, by omega⟩ rfl rfl rfl rfl (Nat.le_of_ble_eq_true rfl) dL_build_20 ?_
  refine g_istore_n C0 (lv' := [(2, .int r4.1), (0, .ref L0), (1, .ref g.2.2.1)]) dL_build_23 rfl (by decide) rfl ?_
  refine g_iconst C0 (v := (0 : Int32)) dL_build_24 (by decide) ?_
  refine g_istore_n C0 (lv' := [(3, .int (0 : Int32)), (2, .int r4.1), (0, .ref L0), (1, .ref g.2.2.1)]) dL_build_25 rfl (by decide) rfl ?_
  refine g_lv [2, 3, 0] (lv' := [(0, .ref L0), (1, .ref g.2.2.1), (3, .int (0 : Int32))]) rfl ?_
  exact bL_build_26 C0 E0 hl0 L0 ua out  25  r4.2 (0 : Int32)  _ _ hf (by omega) (by omega)
theorem mL_build (l : Launch) (hl0 : l.stackTraces = false) (D : va_G) (cB cC cI cO : ClassId) (g : LG) (L0 : Nat) (ua : LA) (v : LV)  (out : LV) (hf : fL_build g v  = some out) : ∀ sz, Met l yL_build (ws_ yL_build cL_build 4 none) rmL_build (va_Pc [.ref L0, .ref g.2.2.1] (hPreE (hLw g) D (hTy cB cC cI cO) (labX cB cC cI cO L0 ua v) sz)) (hQv D (labX cB cC cI cO L0 ua out) (va_A (labX cB cC cI cO L0 ua v) sz)) 52 312 (va_A (labX cB cC cI cO L0 ua v) sz) :=
  g_metE (Qf := fun A => hQv D (labX cB cC cI cO L0 ua out) A) (by decide +kernel) (Nat.le_of_ble_eq_true rfl) rfl (fun C0 E0 => bL_build C0 E0 hl0 L0 ua v  out hf)
