/-! the law: its decode rows, a new laboratory -/
abbrev labNew : List Value := [.null, .null, .null, .null, .null, .null, .null, .int 0, .int 0, .int 0]
theorem hl_dX6 (z : Nat) (hz : z < 10) : defaultValue (tyX6 z) = vp_V labNew z := by
  rcases (show z = 0 ∨ z = 1 ∨ z = 2 ∨ z = 3 ∨ z = 4 ∨ z = 5 ∨ z = 6 ∨ z = 7 ∨ z = 8 ∨ z = 9 by omega) with rfl | rfl | rfl | rfl | rfl | rfl | rfl | rfl | rfl | rfl <;> rfl
def lv0 (K0 : Nat → Int32) : LV := (lvI [(0 : Int32), (-1 : Int32), (-1 : Int32), 8, 0, 0, 70, 0, 0, 0, 0, 8, 0, 0, 70, 0, 0, 0, 0, 8, 0, 0, 70, 0, 0, 0, 0, 8, 0, 0, 70, 0, 0, 0, 0, 0, 0, 0, 0, 0, 0], lvF [K0, (fun _ => 0), (fun _ => 0), (fun _ => 0), K0, (fun _ => 0), (fun _ => 0), (fun _ => 0), K0, (fun _ => 0), (fun _ => 0), (fun _ => 0), K0, (fun _ => 0), (fun _ => 0), (fun _ => 0), (fun _ => 0), (fun _ => 0), (fun _ => 0), (fun _ => 0), (fun _ => 0)], (fun _ => hT0 K0))
/-! java/lang/Float.isNaN(F)Z: 8 instructions -/
def fJxf58ca_isNaN_12338  (x0 : UInt32) : Option (Int32) := if (Op.cmpValue (FP.fcmp x0 x0) CmpOp.l) = 0 then (some ((0 : Int32))) else (some ((1 : Int32)))
abbrev rmJxf58ca_isNaN_12338 : Room := { frames := 0, cells := 0, slots := 0, locals := 0 }
theorem hmJxf58ca_isNaN_12338 : hMS yJxf58ca_isNaN_12338 cJxf58ca_isNaN_12338 1 (some .boolean) 1 := ⟨q_907, q_40, q_906, by decide, by decide, by decide +kernel⟩
theorem dJxf58ca_isNaN_12338_0 : decode cJxf58ca_isNaN_12338 0 = .ok (.fload_n 0, 1) := by decide +kernel
theorem dJxf58ca_isNaN_12338_1 : decode cJxf58ca_isNaN_12338 1 = .ok (.fload_n 0, 1) := by decide +kernel
theorem dJxf58ca_isNaN_12338_2 : decode cJxf58ca_isNaN_12338 2 = .ok (.fcmp .l, 1) := by decide +kernel
theorem dJxf58ca_isNaN_12338_3 : decode cJxf58ca_isNaN_12338 3 = .ok (.ifCond .eq 7, 3) := by decide +kernel
theorem dJxf58ca_isNaN_12338_6 : decode cJxf58ca_isNaN_12338 6 = .ok (.iconst 1, 1) := by decide +kernel
theorem dJxf58ca_isNaN_12338_7 : decode cJxf58ca_isNaN_12338 7 = .ok (.goto 4, 3) := by decide +kernel
theorem dJxf58ca_isNaN_12338_10 : decode cJxf58ca_isNaN_12338 10 = .ok (.iconst 0, 1) := by decide +kernel
theorem dJxf58ca_isNaN_12338_11 : decode cJxf58ca_isNaN_12338 11 = .ok (.ireturn, 1) := by decide +kernel
set_option maxHeartbeats 4000000 in
set_option maxRecDepth 100000 in
theorem bJxf58ca_isNaN_12338 {p : Program} {l : Launch} {e : Env} {s : State} {m : MethodId} {args : Array Value} {below : List Frame} {meth : Method} {c : Code} {D : va_G} {cB cC cI cO : ClassId} {A : Nat → Prop} (C0 : gC RJxf58ca cJxf58ca_isNaN_12338 1 (some .boolean) p s m args meth c D (hTy cB cC cI cO) A)  (out : Int32)  (x0 : UInt32) (hf : fJxf58ca_isNaN_12338 x0 = some out) : gG p l e rmJxf58ca_isNaN_12338 s m args below meth c D A 1 (MQ below (hQi D [] out A) args s 0 0 A) 0 0 0 [(0, .float x0)] [] [] := by
  unfold fJxf58ca_isNaN_12338 at hf
  refine g_fload_n C0 dJxf58ca_isNaN_12338_0 rfl 0 rfl ?_
  refine g_fload_n C0 dJxf58ca_isNaN_12338_1 rfl 0 rfl ?_
  refine g_fcmp C0 dJxf58ca_isNaN_12338_2 ?_
  refine g_if_eq C0 (tgt := 10) dJxf58ca_isNaN_12338_3 (by decide) (fun c1 => ?_) (fun c1 => ?_)
  · rw [if_pos c1] at hf
    refine g_iconst C0 (v := (0 : Int32)) dJxf58ca_isNaN_12338_10 (by decide) ?_
    cases hf
    exact g_iret C0 rfl dJxf58ca_isNaN_12338_11 rfl rfl
  · rw [if_neg c1] at hf
    refine g_iconst C0 (v := (1 : Int32)) dJxf58ca_isNaN_12338_6 (by decide) ?_
    refine g_goto C0 (tgt := 11) dJxf58ca_isNaN_12338_7 (by decide) ?_
    cases hf
    exact g_iret C0 rfl dJxf58ca_isNaN_12338_11 rfl rfl
theorem mJxf58ca_isNaN_12338 (l : Launch) (D : va_G) (cB cC cI cO : ClassId)    (x0 : UInt32) (out : Int32) (hf : fJxf58ca_isNaN_12338 x0 = some out) : ∀ sz, Met l yJxf58ca_isNaN_12338 (ws_ yJxf58ca_isNaN_12338 cJxf58ca_isNaN_12338 1 (some .boolean)) rmJxf58ca_isNaN_12338 (va_Pc [.float x0] (hPre D (hTy cB cC cI cO) [] sz)) (hQi D [] out (va_A [] sz)) 0 0 (va_A [] sz) :=
  g_met (Qf := fun A => hQi D [] out A) (by decide +kernel) (Nat.le_of_ble_eq_true rfl) rfl (fun C0 => bJxf58ca_isNaN_12338 C0  out  x0 hf)
/-! java/lang/Float.floatToIntBits(F)I: 8 instructions -/
def fJxf58ca_floatToIntBits_5c35a  (x0 : UInt32) : Option (Int32) := (fJxf58ca_isNaN_12338 x0).bind fun r1 => (if r1 = 0 then (some (x0.toInt32)) else (some ((2143289344 : Int32))))
abbrev rmJxf58ca_floatToIntBits_5c35a : Room := { frames := 1, cells := 0, slots := 0, locals := 40 }
theorem hmJxf58ca_floatToIntBits_5c35a : hMS yJxf58ca_floatToIntBits_5c35a cJxf58ca_floatToIntBits_5c35a 1 (some .int) 1 := ⟨q_904, q_40, q_903, by decide, by decide, by decide +kernel⟩
theorem dJxf58ca_floatToIntBits_5c35a_0 : decode cJxf58ca_floatToIntBits_5c35a 0 = .ok (.fload_n 0, 1) := by decide +kernel
theorem dJxf58ca_floatToIntBits_5c35a_1 : decode cJxf58ca_floatToIntBits_5c35a 1 = .ok (.invokestatic 59, 3) := by decide +kernel
theorem dJxf58ca_floatToIntBits_5c35a_4 : decode cJxf58ca_floatToIntBits_5c35a 4 = .ok (.ifCond .ne 8, 3) := by decide +kernel
theorem dJxf58ca_floatToIntBits_5c35a_7 : decode cJxf58ca_floatToIntBits_5c35a 7 = .ok (.fload_n 0, 1) := by decide +kernel
theorem dJxf58ca_floatToIntBits_5c35a_8 : decode cJxf58ca_floatToIntBits_5c35a 8 = .ok (.invokestatic 74, 3) := by decide +kernel
theorem dJxf58ca_floatToIntBits_5c35a_11 : decode cJxf58ca_floatToIntBits_5c35a 11 = .ok (.ireturn, 1) := by decide +kernel
theorem dJxf58ca_floatToIntBits_5c35a_12 : decode cJxf58ca_floatToIntBits_5c35a 12 = .ok (.ldc 77, 2) := by decide +kernel
theorem dJxf58ca_floatToIntBits_5c35a_14 : decode cJxf58ca_floatToIntBits_5c35a 14 = .ok (.ireturn, 1) := by decide +kernel
set_option maxHeartbeats 4000000 in
set_option maxRecDepth 100000 in
theorem bJxf58ca_floatToIntBits_5c35a {p : Program} {l : Launch} {e : Env} {s : State} {m : MethodId} {args : Array Value} {below : List Frame} {meth : Method} {c : Code} {D : va_G} {cB cC cI cO : ClassId} {A : Nat → Prop} (C0 : gC RJxf58ca cJxf58ca_floatToIntBits_5c35a 1 (some .int) p s m args meth c D (hTy cB cC cI cO) A)  (out : Int32)  (x0 : UInt32) (hf : fJxf58ca_floatToIntBits_5c35a x0 = some out) : gG p l e rmJxf58ca_floatToIntBits_5c35a s m args below meth c D A 1 (MQ below (hQi D [] out A) args s 0 0 A) 0 0 0 [(0, .float x0)] [] [] := by
  unfold fJxf58ca_floatToIntBits_5c35a at hf
  refine g_fload_n C0 dJxf58ca_floatToIntBits_5c35a_0 rfl 0 rfl ?_
  obtain ⟨r1, er1, hf⟩ := hl_bd hf
  try dsimp only at hf
  refine g_callSi C0 (ws' := []) (mJxf58ca_isNaN_12338 l D cB cC cI cO    x0 r1 er1) hmJxf58ca_isNaN_12338 q_905 ⟨Nat.le_of_ble_eq_true rfl, Nat.le_of_ble_eq_true rfl⟩ ⟨Nat.le_of_ble_eq_true rfl, Nat.le_of_ble_eq_true rfl⟩ rfl rfl [] rfl rfl rfl rfl rfl rfl (Nat.le_of_ble_eq_true rfl) dJxf58ca_floatToIntBits_5c35a_1 ?_
  refine g_if_ne C0 (tgt := 12) dJxf58ca_floatToIntBits_5c35a_4 (by decide) (fun c2 => ?_) (fun c2 => ?_)
  · rw [if_neg c2] at hf
    refine g_ldc C0 dJxf58ca_floatToIntBits_5c35a_12 q_911 ?_
    cases hf
    exact g_iret C0 rfl dJxf58ca_floatToIntBits_5c35a_14 rfl rfl
  · rw [if_pos c2] at hf
    refine g_fload_n C0 dJxf58ca_floatToIntBits_5c35a_7 rfl 0 rfl ?_
    refine g_fraw C0 q_908 q_910 q_909 q_40 (Nat.le_of_ble_eq_true rfl) (Nat.le_of_ble_eq_true rfl) dJxf58ca_floatToIntBits_5c35a_8 ?_
    cases hf
    exact g_iret C0 rfl dJxf58ca_floatToIntBits_5c35a_11 rfl rfl
theorem mJxf58ca_floatToIntBits_5c35a (l : Launch) (D : va_G) (cB cC cI cO : ClassId)    (x0 : UInt32) (out : Int32) (hf : fJxf58ca_floatToIntBits_5c35a x0 = some out) : ∀ sz, Met l yJxf58ca_floatToIntBits_5c35a (ws_ yJxf58ca_floatToIntBits_5c35a cJxf58ca_floatToIntBits_5c35a 1 (some .int)) rmJxf58ca_floatToIntBits_5c35a (va_Pc [.float x0] (hPre D (hTy cB cC cI cO) [] sz)) (hQi D [] out (va_A [] sz)) 0 0 (va_A [] sz) :=
  g_met (Qf := fun A => hQi D [] out A) (by decide +kernel) (Nat.le_of_ble_eq_true rfl) rfl (fun C0 => bJxf58ca_floatToIntBits_5c35a C0  out  x0 hf)
/-! java/lang/Double.isNaN(D)Z: 8 instructions -/
def fJxe99ae_isNaN_b9ae7  (x0 : UInt64) : Option (Int32) := if (Op.cmpValue (FP.dcmp x0 x0) CmpOp.l) = 0 then (some ((0 : Int32))) else (some ((1 : Int32)))
abbrev rmJxe99ae_isNaN_b9ae7 : Room := { frames := 0, cells := 0, slots := 0, locals := 0 }
theorem hmJxe99ae_isNaN_b9ae7 : hMS yJxe99ae_isNaN_b9ae7 cJxe99ae_isNaN_b9ae7 2 (some .boolean) 1 := ⟨q_897, q_42, q_896, by decide, by decide, by decide +kernel⟩
theorem dJxe99ae_isNaN_b9ae7_0 : decode cJxe99ae_isNaN_b9ae7 0 = .ok (.dload_n 0, 1) := by decide +kernel
theorem dJxe99ae_isNaN_b9ae7_1 : decode cJxe99ae_isNaN_b9ae7 1 = .ok (.dload_n 0, 1) := by decide +kernel
theorem dJxe99ae_isNaN_b9ae7_2 : decode cJxe99ae_isNaN_b9ae7 2 = .ok (.dcmp .l, 1) := by decide +kernel
theorem dJxe99ae_isNaN_b9ae7_3 : decode cJxe99ae_isNaN_b9ae7 3 = .ok (.ifCond .eq 7, 3) := by decide +kernel
theorem dJxe99ae_isNaN_b9ae7_6 : decode cJxe99ae_isNaN_b9ae7 6 = .ok (.iconst 1, 1) := by decide +kernel
theorem dJxe99ae_isNaN_b9ae7_7 : decode cJxe99ae_isNaN_b9ae7 7 = .ok (.goto 4, 3) := by decide +kernel
theorem dJxe99ae_isNaN_b9ae7_10 : decode cJxe99ae_isNaN_b9ae7 10 = .ok (.iconst 0, 1) := by decide +kernel
theorem dJxe99ae_isNaN_b9ae7_11 : decode cJxe99ae_isNaN_b9ae7 11 = .ok (.ireturn, 1) := by decide +kernel
set_option maxHeartbeats 4000000 in
set_option maxRecDepth 100000 in
theorem bJxe99ae_isNaN_b9ae7 {p : Program} {l : Launch} {e : Env} {s : State} {m : MethodId} {args : Array Value} {below : List Frame} {meth : Method} {c : Code} {D : va_G} {cB cC cI cO : ClassId} {A : Nat → Prop} (C0 : gC RJxe99ae cJxe99ae_isNaN_b9ae7 2 (some .boolean) p s m args meth c D (hTy cB cC cI cO) A)  (out : Int32)  (x0 : UInt64) (hf : fJxe99ae_isNaN_b9ae7 x0 = some out) : gG p l e rmJxe99ae_isNaN_b9ae7 s m args below meth c D A 2 (MQ below (hQi D [] out A) args s 0 0 A) 0 0 0 [(0, .double x0)] [] [] := by
  unfold fJxe99ae_isNaN_b9ae7 at hf
  refine g_dload_n C0 dJxe99ae_isNaN_b9ae7_0 rfl 0 rfl ?_
  refine g_dload_n C0 dJxe99ae_isNaN_b9ae7_1 rfl 0 rfl ?_
  refine g_dcmp C0 dJxe99ae_isNaN_b9ae7_2 ?_
  refine g_if_eq C0 (tgt := 10) dJxe99ae_isNaN_b9ae7_3 (by decide) (fun c1 => ?_) (fun c1 => ?_)
  · rw [if_pos c1] at hf
    refine g_iconst C0 (v := (0 : Int32)) dJxe99ae_isNaN_b9ae7_10 (by decide) ?_
    cases hf
    exact g_iret C0 rfl dJxe99ae_isNaN_b9ae7_11 rfl rfl
  · rw [if_neg c1] at hf
    refine g_iconst C0 (v := (1 : Int32)) dJxe99ae_isNaN_b9ae7_6 (by decide) ?_
    refine g_goto C0 (tgt := 11) dJxe99ae_isNaN_b9ae7_7 (by decide) ?_
    cases hf
    exact g_iret C0 rfl dJxe99ae_isNaN_b9ae7_11 rfl rfl
theorem mJxe99ae_isNaN_b9ae7 (l : Launch) (D : va_G) (cB cC cI cO : ClassId)    (x0 : UInt64) (out : Int32) (hf : fJxe99ae_isNaN_b9ae7 x0 = some out) : ∀ sz, Met l yJxe99ae_isNaN_b9ae7 (ws_ yJxe99ae_isNaN_b9ae7 cJxe99ae_isNaN_b9ae7 2 (some .boolean)) rmJxe99ae_isNaN_b9ae7 (va_Pc [.double x0] (hPre D (hTy cB cC cI cO) [] sz)) (hQi D [] out (va_A [] sz)) 0 0 (va_A [] sz) :=
  g_met (Qf := fun A => hQi D [] out A) (by decide +kernel) (Nat.le_of_ble_eq_true rfl) rfl (fun C0 => bJxe99ae_isNaN_b9ae7 C0  out  x0 hf)
/-! java/lang/Double.doubleToLongBits(D)J: 8 instructions -/
def fJxe99ae_doubleToLongBits_ccdee  (x0 : UInt64) : Option (Int64) := (fJxe99ae_isNaN_b9ae7 x0).bind fun r1 => (if r1 = 0 then (some (x0.toInt64)) else (some ((9221120237041090560 : Int64))))
abbrev rmJxe99ae_doubleToLongBits_ccdee : Room := { frames := 1, cells := 0, slots := 0, locals := 40 }
theorem hmJxe99ae_doubleToLongBits_ccdee : hMS yJxe99ae_doubleToLongBits_ccdee cJxe99ae_doubleToLongBits_ccdee 2 (some .long) 1 := ⟨q_894, q_42, q_893, by decide, by decide, by decide +kernel⟩
theorem dJxe99ae_doubleToLongBits_ccdee_0 : decode cJxe99ae_doubleToLongBits_ccdee 0 = .ok (.dload_n 0, 1) := by decide +kernel
theorem dJxe99ae_doubleToLongBits_ccdee_1 : decode cJxe99ae_doubleToLongBits_ccdee 1 = .ok (.invokestatic 122, 3) := by decide +kernel
theorem dJxe99ae_doubleToLongBits_ccdee_4 : decode cJxe99ae_doubleToLongBits_ccdee 4 = .ok (.ifCond .ne 8, 3) := by decide +kernel
theorem dJxe99ae_doubleToLongBits_ccdee_7 : decode cJxe99ae_doubleToLongBits_ccdee 7 = .ok (.dload_n 0, 1) := by decide +kernel
theorem dJxe99ae_doubleToLongBits_ccdee_8 : decode cJxe99ae_doubleToLongBits_ccdee 8 = .ok (.invokestatic 134, 3) := by decide +kernel
theorem dJxe99ae_doubleToLongBits_ccdee_11 : decode cJxe99ae_doubleToLongBits_ccdee 11 = .ok (.lreturn, 1) := by decide +kernel
theorem dJxe99ae_doubleToLongBits_ccdee_12 : decode cJxe99ae_doubleToLongBits_ccdee 12 = .ok (.ldc2_w 137, 3) := by decide +kernel
theorem dJxe99ae_doubleToLongBits_ccdee_15 : decode cJxe99ae_doubleToLongBits_ccdee 15 = .ok (.lreturn, 1) := by decide +kernel
set_option maxHeartbeats 4000000 in
set_option maxRecDepth 100000 in
theorem bJxe99ae_doubleToLongBits_ccdee {p : Program} {l : Launch} {e : Env} {s : State} {m : MethodId} {args : Array Value} {below : List Frame} {meth : Method} {c : Code} {D : va_G} {cB cC cI cO : ClassId} {A : Nat → Prop} (C0 : gC RJxe99ae cJxe99ae_doubleToLongBits_ccdee 2 (some .long) p s m args meth c D (hTy cB cC cI cO) A)  (out : Int64)  (x0 : UInt64) (hf : fJxe99ae_doubleToLongBits_ccdee x0 = some out) : gG p l e rmJxe99ae_doubleToLongBits_ccdee s m args below meth c D A 2 (MQ below (hQl D [] out A) args s 0 0 A) 0 0 0 [(0, .double x0)] [] [] := by
  unfold fJxe99ae_doubleToLongBits_ccdee at hf
  refine g_dload_n C0 dJxe99ae_doubleToLongBits_ccdee_0 rfl 0 rfl ?_
  obtain ⟨r1, er1, hf⟩ := hl_bd hf
  try dsimp only at hf
  refine g_callSi C0 (ws' := []) (mJxe99ae_isNaN_b9ae7 l D cB cC cI cO    x0 r1 er1) hmJxe99ae_isNaN_b9ae7 q_895 ⟨Nat.le_of_ble_eq_true rfl, Nat.le_of_ble_eq_true rfl⟩ ⟨Nat.le_of_ble_eq_true rfl, Nat.le_of_ble_eq_true rfl⟩ rfl rfl [] rfl rfl rfl rfl rfl rfl (Nat.le_of_ble_eq_true rfl) dJxe99ae_doubleToLongBits_ccdee_1 ?_
  refine g_if_ne C0 (tgt := 12) dJxe99ae_doubleToLongBits_ccdee_4 (by decide) (fun c2 => ?_) (fun c2 => ?_)
  · rw [if_neg c2] at hf
    refine g_ldc2l C0 dJxe99ae_doubleToLongBits_ccdee_12 q_901 ?_
    cases hf
    exact g_lret C0 dJxe99ae_doubleToLongBits_ccdee_15 rfl rfl
  · rw [if_pos c2] at hf
    refine g_dload_n C0 dJxe99ae_doubleToLongBits_ccdee_7 rfl 0 rfl ?_
    refine g_draw C0 q_898 q_900 q_899 q_42 (Nat.le_of_ble_eq_true rfl) (Nat.le_of_ble_eq_true rfl) dJxe99ae_doubleToLongBits_ccdee_8 ?_
    cases hf
    exact g_lret C0 dJxe99ae_doubleToLongBits_ccdee_11 rfl rfl
theorem mJxe99ae_doubleToLongBits_ccdee (l : Launch) (D : va_G) (cB cC cI cO : ClassId)    (x0 : UInt64) (out : Int64) (hf : fJxe99ae_doubleToLongBits_ccdee x0 = some out) : ∀ sz, Met l yJxe99ae_doubleToLongBits_ccdee (ws_ yJxe99ae_doubleToLongBits_ccdee cJxe99ae_doubleToLongBits_ccdee 2 (some .long)) rmJxe99ae_doubleToLongBits_ccdee (va_Pc [.double x0] (hPre D (hTy cB cC cI cO) [] sz)) (hQl D [] out (va_A [] sz)) 0 0 (va_A [] sz) :=
  g_met (Qf := fun A => hQl D [] out A) (by decide +kernel) (Nat.le_of_ble_eq_true rfl) rfl (fun C0 => bJxe99ae_doubleToLongBits_ccdee C0  out  x0 hf)
theorem dL_law_0 : decode cL_law 0 = .ok (.new 14, 3) := by decide +kernel
theorem dL_law_3 : decode cL_law 3 = .ok (.dup, 1) := by decide +kernel
theorem dL_law_4 : decode cL_law 4 = .ok (.invokespecial 118, 3) := by decide +kernel
theorem dL_law_7 : decode cL_law 7 = .ok (.astore_n 1, 1) := by decide +kernel
theorem dL_law_8 : decode cL_law 8 = .ok (.aload_n 1, 1) := by decide +kernel
theorem dL_law_9 : decode cL_law 9 = .ok (.aload_n 0, 1) := by decide +kernel
theorem dL_law_10 : decode cL_law 10 = .ok (.invokestatic 119, 3) := by decide +kernel
theorem dL_law_13 : decode cL_law 13 = .ok (.iconst 0, 1) := by decide +kernel
theorem dL_law_14 : decode cL_law 14 = .ok (.istore_n 2, 1) := by decide +kernel
theorem dL_law_15 : decode cL_law 15 = .ok (.iload_n 2, 1) := by decide +kernel
theorem dL_law_16 : decode cL_law 16 = .ok (.iconst 3, 1) := by decide +kernel
theorem dL_law_17 : decode cL_law 17 = .ok (.if_icmp .ge 1212, 3) := by decide +kernel
theorem dL_law_20 : decode cL_law 20 = .ok (.aload_n 1, 1) := by decide +kernel
theorem dL_law_21 : decode cL_law 21 = .ok (.invokevirtual 85, 3) := by decide +kernel
theorem dL_law_24 : decode cL_law 24 = .ok (.istore_n 3, 1) := by decide +kernel
theorem dL_law_25 : decode cL_law 25 = .ok (.iconst 0, 1) := by decide +kernel
theorem dL_law_26 : decode cL_law 26 = .ok (.istore 4, 2) := by decide +kernel
theorem dL_law_28 : decode cL_law 28 = .ok (.iconst 0, 1) := by decide +kernel
theorem dL_law_29 : decode cL_law 29 = .ok (.istore 5, 2) := by decide +kernel
theorem dL_law_31 : decode cL_law 31 = .ok (.iconst 0, 1) := by decide +kernel
theorem dL_law_32 : decode cL_law 32 = .ok (.istore 6, 2) := by decide +kernel
theorem dL_law_34 : decode cL_law 34 = .ok (.iconst 0, 1) := by decide +kernel
theorem dL_law_35 : decode cL_law 35 = .ok (.istore 7, 2) := by decide +kernel
theorem dL_law_37 : decode cL_law 37 = .ok (.iconst 0, 1) := by decide +kernel
theorem dL_law_38 : decode cL_law 38 = .ok (.istore 8, 2) := by decide +kernel
theorem dL_law_40 : decode cL_law 40 = .ok (.sipush (-30000), 3) := by decide +kernel
theorem dL_law_43 : decode cL_law 43 = .ok (.istore 9, 2) := by decide +kernel
theorem dL_law_45 : decode cL_law 45 = .ok (.iconst 0, 1) := by decide +kernel
theorem dL_law_46 : decode cL_law 46 = .ok (.istore 10, 2) := by decide +kernel
theorem dL_law_48 : decode cL_law 48 = .ok (.ldc 123, 2) := by decide +kernel
theorem dL_law_50 : decode cL_law 50 = .ok (.astore 11, 2) := by decide +kernel
theorem dL_law_52 : decode cL_law 52 = .ok (.ldc 123, 2) := by decide +kernel
theorem dL_law_54 : decode cL_law 54 = .ok (.astore 12, 2) := by decide +kernel
theorem dL_law_56 : decode cL_law 56 = .ok (.iconst 0, 1) := by decide +kernel
theorem dL_law_57 : decode cL_law 57 = .ok (.istore 13, 2) := by decide +kernel
theorem dL_law_59 : decode cL_law 59 = .ok (.iload 13, 2) := by decide +kernel
theorem dL_law_61 : decode cL_law 61 = .ok (.iload_n 3, 1) := by decide +kernel
theorem dL_law_62 : decode cL_law 62 = .ok (.if_icmp .ge 490, 3) := by decide +kernel
theorem dL_law_65 : decode cL_law 65 = .ok (.aload_n 1, 1) := by decide +kernel
theorem dL_law_66 : decode cL_law 66 = .ok (.iload 13, 2) := by decide +kernel
theorem dL_law_68 : decode cL_law 68 = .ok (.invokestatic 99, 3) := by decide +kernel
theorem dL_law_71 : decode cL_law 71 = .ok (.istore 14, 2) := by decide +kernel
theorem dL_law_73 : decode cL_law 73 = .ok (.iconst 0, 1) := by decide +kernel
theorem dL_law_74 : decode cL_law 74 = .ok (.istore 15, 2) := by decide +kernel
theorem dL_law_76 : decode cL_law 76 = .ok (.aload_n 1, 1) := by decide +kernel
theorem dL_law_77 : decode cL_law 77 = .ok (.iload 13, 2) := by decide +kernel
theorem dL_law_79 : decode cL_law 79 = .ok (.invokevirtual 101, 3) := by decide +kernel
theorem dL_law_82 : decode cL_law 82 = .ok (.ifCond .ne 12, 3) := by decide +kernel
theorem dL_law_85 : decode cL_law 85 = .ok (.aload_n 1, 1) := by decide +kernel
theorem dL_law_86 : decode cL_law 86 = .ok (.iload 13, 2) := by decide +kernel
theorem dL_law_88 : decode cL_law 88 = .ok (.invokevirtual 105, 3) := by decide +kernel
theorem dL_law_91 : decode cL_law 91 = .ok (.ifCond .eq 7, 3) := by decide +kernel
theorem dL_law_94 : decode cL_law 94 = .ok (.iconst 1, 1) := by decide +kernel
theorem dL_law_95 : decode cL_law 95 = .ok (.goto 4, 3) := by decide +kernel
theorem dL_law_98 : decode cL_law 98 = .ok (.iconst 0, 1) := by decide +kernel
theorem dL_law_99 : decode cL_law 99 = .ok (.istore 16, 2) := by decide +kernel
theorem dL_law_101 : decode cL_law 101 = .ok (.aload_n 1, 1) := by decide +kernel
theorem dL_law_102 : decode cL_law 102 = .ok (.iload 13, 2) := by decide +kernel
theorem dL_law_104 : decode cL_law 104 = .ok (.iload_n 3, 1) := by decide +kernel
theorem dL_law_105 : decode cL_law 105 = .ok (.iadd, 1) := by decide +kernel
theorem dL_law_106 : decode cL_law 106 = .ok (.iconst 1, 1) := by decide +kernel
theorem dL_law_107 : decode cL_law 107 = .ok (.isub, 1) := by decide +kernel
theorem dL_law_108 : decode cL_law 108 = .ok (.iload_n 3, 1) := by decide +kernel
theorem dL_law_109 : decode cL_law 109 = .ok (.irem, 1) := by decide +kernel
theorem dL_law_110 : decode cL_law 110 = .ok (.invokevirtual 101, 3) := by decide +kernel
theorem dL_law_113 : decode cL_law 113 = .ok (.ifCond .ne 18, 3) := by decide +kernel
theorem dL_law_116 : decode cL_law 116 = .ok (.aload_n 1, 1) := by decide +kernel
theorem dL_law_117 : decode cL_law 117 = .ok (.iload 13, 2) := by decide +kernel
theorem dL_law_119 : decode cL_law 119 = .ok (.iload_n 3, 1) := by decide +kernel
theorem dL_law_120 : decode cL_law 120 = .ok (.iadd, 1) := by decide +kernel
theorem dL_law_121 : decode cL_law 121 = .ok (.iconst 1, 1) := by decide +kernel
theorem dL_law_122 : decode cL_law 122 = .ok (.isub, 1) := by decide +kernel
theorem dL_law_123 : decode cL_law 123 = .ok (.iload_n 3, 1) := by decide +kernel
theorem dL_law_124 : decode cL_law 124 = .ok (.irem, 1) := by decide +kernel
theorem dL_law_125 : decode cL_law 125 = .ok (.invokevirtual 105, 3) := by decide +kernel
theorem dL_law_128 : decode cL_law 128 = .ok (.ifCond .eq 7, 3) := by decide +kernel
theorem dL_law_131 : decode cL_law 131 = .ok (.iconst 1, 1) := by decide +kernel
theorem dL_law_132 : decode cL_law 132 = .ok (.goto 4, 3) := by decide +kernel
theorem dL_law_135 : decode cL_law 135 = .ok (.iconst 0, 1) := by decide +kernel
theorem dL_law_136 : decode cL_law 136 = .ok (.istore 17, 2) := by decide +kernel
theorem dL_law_138 : decode cL_law 138 = .ok (.aload_n 1, 1) := by decide +kernel
theorem dL_law_139 : decode cL_law 139 = .ok (.iload 13, 2) := by decide +kernel
theorem dL_law_141 : decode cL_law 141 = .ok (.invokevirtual 101, 3) := by decide +kernel
theorem dL_law_144 : decode cL_law 144 = .ok (.ifCond .eq 12, 3) := by decide +kernel
theorem dL_law_147 : decode cL_law 147 = .ok (.aload_n 1, 1) := by decide +kernel
theorem dL_law_148 : decode cL_law 148 = .ok (.iload 13, 2) := by decide +kernel
theorem dL_law_150 : decode cL_law 150 = .ok (.invokevirtual 105, 3) := by decide +kernel
theorem dL_law_153 : decode cL_law 153 = .ok (.ifCond .ne 22, 3) := by decide +kernel
theorem dL_law_156 : decode cL_law 156 = .ok (.aload_n 1, 1) := by decide +kernel
theorem dL_law_157 : decode cL_law 157 = .ok (.iload 13, 2) := by decide +kernel
theorem dL_law_159 : decode cL_law 159 = .ok (.invokevirtual 101, 3) := by decide +kernel
theorem dL_law_162 : decode cL_law 162 = .ok (.iload 14, 2) := by decide +kernel
theorem dL_law_164 : decode cL_law 164 = .ok (.ifCond .lt 7, 3) := by decide +kernel
theorem dL_law_167 : decode cL_law 167 = .ok (.iconst 1, 1) := by decide +kernel
theorem dL_law_168 : decode cL_law 168 = .ok (.goto 4, 3) := by decide +kernel
theorem dL_law_171 : decode cL_law 171 = .ok (.iconst 0, 1) := by decide +kernel
theorem dL_law_172 : decode cL_law 172 = .ok (.if_icmp .eq 5, 3) := by decide +kernel
theorem dL_law_175 : decode cL_law 175 = .ok (.iconst 0, 1) := by decide +kernel
theorem dL_law_176 : decode cL_law 176 = .ok (.ireturn, 1) := by decide +kernel
theorem dL_law_177 : decode cL_law 177 = .ok (.iload 4, 2) := by decide +kernel
theorem dL_law_179 : decode cL_law 179 = .ok (.aload_n 1, 1) := by decide +kernel
theorem dL_law_180 : decode cL_law 180 = .ok (.iload 13, 2) := by decide +kernel
theorem dL_law_182 : decode cL_law 182 = .ok (.invokevirtual 101, 3) := by decide +kernel
theorem dL_law_185 : decode cL_law 185 = .ok (.ifCond .eq 7, 3) := by decide +kernel
theorem dL_law_188 : decode cL_law 188 = .ok (.iconst 1, 1) := by decide +kernel
theorem dL_law_189 : decode cL_law 189 = .ok (.goto 4, 3) := by decide +kernel
theorem dL_law_192 : decode cL_law 192 = .ok (.iconst 0, 1) := by decide +kernel
theorem dL_law_193 : decode cL_law 193 = .ok (.iadd, 1) := by decide +kernel
theorem dL_law_194 : decode cL_law 194 = .ok (.istore 4, 2) := by decide +kernel
theorem dL_law_196 : decode cL_law 196 = .ok (.iload 5, 2) := by decide +kernel
theorem dL_law_198 : decode cL_law 198 = .ok (.aload_n 1, 1) := by decide +kernel
theorem dL_law_199 : decode cL_law 199 = .ok (.iload 13, 2) := by decide +kernel
theorem dL_law_201 : decode cL_law 201 = .ok (.invokevirtual 105, 3) := by decide +kernel
theorem dL_law_204 : decode cL_law 204 = .ok (.ifCond .eq 7, 3) := by decide +kernel
theorem dL_law_207 : decode cL_law 207 = .ok (.iconst 1, 1) := by decide +kernel
theorem dL_law_208 : decode cL_law 208 = .ok (.goto 4, 3) := by decide +kernel
theorem dL_law_211 : decode cL_law 211 = .ok (.iconst 0, 1) := by decide +kernel
theorem dL_law_212 : decode cL_law 212 = .ok (.iadd, 1) := by decide +kernel
theorem dL_law_213 : decode cL_law 213 = .ok (.istore 5, 2) := by decide +kernel
theorem dL_law_215 : decode cL_law 215 = .ok (.iload 6, 2) := by decide +kernel
theorem dL_law_217 : decode cL_law 217 = .ok (.iload 16, 2) := by decide +kernel
theorem dL_law_219 : decode cL_law 219 = .ok (.ifCond .eq 12, 3) := by decide +kernel
theorem dL_law_222 : decode cL_law 222 = .ok (.iload 17, 2) := by decide +kernel
theorem dL_law_224 : decode cL_law 224 = .ok (.ifCond .ne 7, 3) := by decide +kernel
theorem dL_law_227 : decode cL_law 227 = .ok (.iconst 1, 1) := by decide +kernel
theorem dL_law_228 : decode cL_law 228 = .ok (.goto 4, 3) := by decide +kernel
theorem dL_law_231 : decode cL_law 231 = .ok (.iconst 0, 1) := by decide +kernel
theorem dL_law_232 : decode cL_law 232 = .ok (.iadd, 1) := by decide +kernel
theorem dL_law_233 : decode cL_law 233 = .ok (.istore 6, 2) := by decide +kernel
theorem dL_law_235 : decode cL_law 235 = .ok (.iload 16, 2) := by decide +kernel
theorem dL_law_237 : decode cL_law 237 = .ok (.ifCond .eq 82, 3) := by decide +kernel
theorem dL_law_240 : decode cL_law 240 = .ok (.iload 13, 2) := by decide +kernel
theorem dL_law_242 : decode cL_law 242 = .ok (.istore 18, 2) := by decide +kernel
theorem dL_law_244 : decode cL_law 244 = .ok (.aload_n 1, 1) := by decide +kernel
theorem dL_law_245 : decode cL_law 245 = .ok (.iload 18, 2) := by decide +kernel
theorem dL_law_247 : decode cL_law 247 = .ok (.iload_n 3, 1) := by decide +kernel
theorem dL_law_248 : decode cL_law 248 = .ok (.iadd, 1) := by decide +kernel
theorem dL_law_249 : decode cL_law 249 = .ok (.iconst 1, 1) := by decide +kernel
theorem dL_law_250 : decode cL_law 250 = .ok (.isub, 1) := by decide +kernel
theorem dL_law_251 : decode cL_law 251 = .ok (.iload_n 3, 1) := by decide +kernel
theorem dL_law_252 : decode cL_law 252 = .ok (.irem, 1) := by decide +kernel
theorem dL_law_253 : decode cL_law 253 = .ok (.invokevirtual 101, 3) := by decide +kernel
theorem dL_law_256 : decode cL_law 256 = .ok (.ifCond .ne 18, 3) := by decide +kernel
theorem dL_law_259 : decode cL_law 259 = .ok (.aload_n 1, 1) := by decide +kernel
theorem dL_law_260 : decode cL_law 260 = .ok (.iload 18, 2) := by decide +kernel
theorem dL_law_262 : decode cL_law 262 = .ok (.iload_n 3, 1) := by decide +kernel
theorem dL_law_263 : decode cL_law 263 = .ok (.iadd, 1) := by decide +kernel
theorem dL_law_264 : decode cL_law 264 = .ok (.iconst 1, 1) := by decide +kernel
theorem dL_law_265 : decode cL_law 265 = .ok (.isub, 1) := by decide +kernel
theorem dL_law_266 : decode cL_law 266 = .ok (.iload_n 3, 1) := by decide +kernel
theorem dL_law_267 : decode cL_law 267 = .ok (.irem, 1) := by decide +kernel
theorem dL_law_268 : decode cL_law 268 = .ok (.invokevirtual 105, 3) := by decide +kernel
theorem dL_law_271 : decode cL_law 271 = .ok (.ifCond .eq 16, 3) := by decide +kernel
theorem dL_law_274 : decode cL_law 274 = .ok (.iload 18, 2) := by decide +kernel
theorem dL_law_276 : decode cL_law 276 = .ok (.iload_n 3, 1) := by decide +kernel
theorem dL_law_277 : decode cL_law 277 = .ok (.iadd, 1) := by decide +kernel
theorem dL_law_278 : decode cL_law 278 = .ok (.iconst 1, 1) := by decide +kernel
theorem dL_law_279 : decode cL_law 279 = .ok (.isub, 1) := by decide +kernel
theorem dL_law_280 : decode cL_law 280 = .ok (.iload_n 3, 1) := by decide +kernel
theorem dL_law_281 : decode cL_law 281 = .ok (.irem, 1) := by decide +kernel
theorem dL_law_282 : decode cL_law 282 = .ok (.istore 18, 2) := by decide +kernel
theorem dL_law_284 : decode cL_law 284 = .ok (.goto (-40), 3) := by decide +kernel
theorem dL_law_287 : decode cL_law 287 = .ok (.aload_n 1, 1) := by decide +kernel
theorem dL_law_288 : decode cL_law 288 = .ok (.iload 18, 2) := by decide +kernel
theorem dL_law_290 : decode cL_law 290 = .ok (.invokevirtual 101, 3) := by decide +kernel
theorem dL_law_293 : decode cL_law 293 = .ok (.ifCond .ne 12, 3) := by decide +kernel
theorem dL_law_296 : decode cL_law 296 = .ok (.aload_n 1, 1) := by decide +kernel
theorem dL_law_297 : decode cL_law 297 = .ok (.iload 18, 2) := by decide +kernel
theorem dL_law_299 : decode cL_law 299 = .ok (.invokevirtual 105, 3) := by decide +kernel
theorem dL_law_302 : decode cL_law 302 = .ok (.ifCond .eq 17, 3) := by decide +kernel
theorem dL_law_305 : decode cL_law 305 = .ok (.iinc 15 1, 3) := by decide +kernel
theorem dL_law_308 : decode cL_law 308 = .ok (.iload 18, 2) := by decide +kernel
theorem dL_law_310 : decode cL_law 310 = .ok (.iconst 1, 1) := by decide +kernel
theorem dL_law_311 : decode cL_law 311 = .ok (.iadd, 1) := by decide +kernel
theorem dL_law_312 : decode cL_law 312 = .ok (.iload_n 3, 1) := by decide +kernel
theorem dL_law_313 : decode cL_law 313 = .ok (.irem, 1) := by decide +kernel
theorem dL_law_314 : decode cL_law 314 = .ok (.istore 18, 2) := by decide +kernel
theorem dL_law_316 : decode cL_law 316 = .ok (.goto (-29), 3) := by decide +kernel
theorem dL_law_319 : decode cL_law 319 = .ok (.iload 7, 2) := by decide +kernel
theorem dL_law_321 : decode cL_law 321 = .ok (.iload 15, 2) := by decide +kernel
theorem dL_law_323 : decode cL_law 323 = .ok (.invokestatic 125, 3) := by decide +kernel
theorem dL_law_326 : decode cL_law 326 = .ok (.istore 7, 2) := by decide +kernel
theorem dL_law_328 : decode cL_law 328 = .ok (.aload_n 1, 1) := by decide +kernel
theorem dL_law_329 : decode cL_law 329 = .ok (.iload 13, 2) := by decide +kernel
theorem dL_law_331 : decode cL_law 331 = .ok (.invokevirtual 131, 3) := by decide +kernel
theorem dL_law_334 : decode cL_law 334 = .ok (.iload 15, 2) := by decide +kernel
theorem dL_law_336 : decode cL_law 336 = .ok (.if_icmp .eq 5, 3) := by decide +kernel
theorem dL_law_339 : decode cL_law 339 = .ok (.iconst 0, 1) := by decide +kernel
theorem dL_law_340 : decode cL_law 340 = .ok (.ireturn, 1) := by decide +kernel
theorem dL_law_341 : decode cL_law 341 = .ok (.iload 14, 2) := by decide +kernel
theorem dL_law_343 : decode cL_law 343 = .ok (.ifCond .ge 38, 3) := by decide +kernel
theorem dL_law_346 : decode cL_law 346 = .ok (.new 134, 3) := by decide +kernel
theorem dL_law_349 : decode cL_law 349 = .ok (.dup, 1) := by decide +kernel
theorem dL_law_350 : decode cL_law 350 = .ok (.invokespecial 136, 3) := by decide +kernel
theorem dL_law_353 : decode cL_law 353 = .ok (.aload 11, 2) := by decide +kernel
theorem dL_law_355 : decode cL_law 355 = .ok (.invokevirtual 137, 3) := by decide +kernel
theorem dL_law_358 : decode cL_law 358 = .ok (.iload 16, 2) := by decide +kernel
theorem dL_law_360 : decode cL_law 360 = .ok (.ifCond .eq 8, 3) := by decide +kernel
theorem dL_law_363 : decode cL_law 363 = .ok (.ldc 141, 2) := by decide +kernel
theorem dL_law_365 : decode cL_law 365 = .ok (.goto 5, 3) := by decide +kernel
theorem dL_law_368 : decode cL_law 368 = .ok (.ldc 143, 2) := by decide +kernel
theorem dL_law_370 : decode cL_law 370 = .ok (.invokevirtual 137, 3) := by decide +kernel
theorem dL_law_373 : decode cL_law 373 = .ok (.invokevirtual 145, 3) := by decide +kernel
theorem dL_law_376 : decode cL_law 376 = .ok (.astore 11, 2) := by decide +kernel
theorem dL_law_378 : decode cL_law 378 = .ok (.goto 168, 3) := by decide +kernel
theorem dL_law_381 : decode cL_law 381 = .ok (.aload_n 1, 1) := by decide +kernel
theorem dL_law_382 : decode cL_law 382 = .ok (.iload 14, 2) := by decide +kernel
theorem dL_law_384 : decode cL_law 384 = .ok (.invokestatic 149, 3) := by decide +kernel
theorem dL_law_387 : decode cL_law 387 = .ok (.istore 18, 2) := by decide +kernel
theorem dL_law_389 : decode cL_law 389 = .ok (.iload 8, 2) := by decide +kernel
theorem dL_law_391 : decode cL_law 391 = .ok (.iload 18, 2) := by decide +kernel
theorem dL_law_393 : decode cL_law 393 = .ok (.iadd, 1) := by decide +kernel
theorem dL_law_394 : decode cL_law 394 = .ok (.istore 8, 2) := by decide +kernel
theorem dL_law_396 : decode cL_law 396 = .ok (.new 134, 3) := by decide +kernel
theorem dL_law_399 : decode cL_law 399 = .ok (.dup, 1) := by decide +kernel
theorem dL_law_400 : decode cL_law 400 = .ok (.invokespecial 136, 3) := by decide +kernel
theorem dL_law_403 : decode cL_law 403 = .ok (.aload 11, 2) := by decide +kernel
theorem dL_law_405 : decode cL_law 405 = .ok (.invokevirtual 137, 3) := by decide +kernel
theorem dL_law_408 : decode cL_law 408 = .ok (.iload 18, 2) := by decide +kernel
theorem dL_law_410 : decode cL_law 410 = .ok (.bipush 9, 2) := by decide +kernel
theorem dL_law_412 : decode cL_law 412 = .ok (.if_icmp .le 8, 3) := by decide +kernel
theorem dL_law_415 : decode cL_law 415 = .ok (.ldc 152, 2) := by decide +kernel
theorem dL_law_417 : decode cL_law 417 = .ok (.goto 23, 3) := by decide +kernel
theorem dL_law_420 : decode cL_law 420 = .ok (.new 134, 3) := by decide +kernel
theorem dL_law_423 : decode cL_law 423 = .ok (.dup, 1) := by decide +kernel
theorem dL_law_424 : decode cL_law 424 = .ok (.invokespecial 136, 3) := by decide +kernel
theorem dL_law_427 : decode cL_law 427 = .ok (.ldc 123, 2) := by decide +kernel
theorem dL_law_429 : decode cL_law 429 = .ok (.invokevirtual 137, 3) := by decide +kernel
theorem dL_law_432 : decode cL_law 432 = .ok (.iload 18, 2) := by decide +kernel
theorem dL_law_434 : decode cL_law 434 = .ok (.invokevirtual 154, 3) := by decide +kernel
theorem dL_law_437 : decode cL_law 437 = .ok (.invokevirtual 145, 3) := by decide +kernel
theorem dL_law_440 : decode cL_law 440 = .ok (.invokevirtual 137, 3) := by decide +kernel
theorem dL_law_443 : decode cL_law 443 = .ok (.invokevirtual 145, 3) := by decide +kernel
theorem dL_law_446 : decode cL_law 446 = .ok (.astore 11, 2) := by decide +kernel
theorem dL_law_448 : decode cL_law 448 = .ok (.iload 18, 2) := by decide +kernel
theorem dL_law_450 : decode cL_law 450 = .ok (.iload 10, 2) := by decide +kernel
theorem dL_law_452 : decode cL_law 452 = .ok (.if_icmp .gt 17, 3) := by decide +kernel
theorem dL_law_455 : decode cL_law 455 = .ok (.iload 18, 2) := by decide +kernel
theorem dL_law_457 : decode cL_law 457 = .ok (.iload 10, 2) := by decide +kernel
theorem dL_law_459 : decode cL_law 459 = .ok (.if_icmp .ne 15, 3) := by decide +kernel
theorem dL_law_462 : decode cL_law 462 = .ok (.iload 14, 2) := by decide +kernel
theorem dL_law_464 : decode cL_law 464 = .ok (.iload 9, 2) := by decide +kernel
theorem dL_law_466 : decode cL_law 466 = .ok (.if_icmp .ge 8, 3) := by decide +kernel
theorem dL_law_469 : decode cL_law 469 = .ok (.iload 14, 2) := by decide +kernel
theorem dL_law_471 : decode cL_law 471 = .ok (.goto 5, 3) := by decide +kernel
theorem dL_law_474 : decode cL_law 474 = .ok (.iload 9, 2) := by decide +kernel
theorem dL_law_476 : decode cL_law 476 = .ok (.istore 9, 2) := by decide +kernel
theorem dL_law_478 : decode cL_law 478 = .ok (.iload 10, 2) := by decide +kernel
theorem dL_law_480 : decode cL_law 480 = .ok (.iload 18, 2) := by decide +kernel
theorem dL_law_482 : decode cL_law 482 = .ok (.invokestatic 125, 3) := by decide +kernel
theorem dL_law_485 : decode cL_law 485 = .ok (.istore 10, 2) := by decide +kernel
theorem dL_law_487 : decode cL_law 487 = .ok (.aload_n 1, 1) := by decide +kernel
theorem dL_law_488 : decode cL_law 488 = .ok (.iload 14, 2) := by decide +kernel
theorem dL_law_490 : decode cL_law 490 = .ok (.invokevirtual 157, 3) := by decide +kernel
theorem dL_law_493 : decode cL_law 493 = .ok (.iload 13, 2) := by decide +kernel
theorem dL_law_495 : decode cL_law 495 = .ok (.if_icmp .ne 49, 3) := by decide +kernel
theorem dL_law_498 : decode cL_law 498 = .ok (.aload_n 1, 1) := by decide +kernel
theorem dL_law_499 : decode cL_law 499 = .ok (.iload 14, 2) := by decide +kernel
theorem dL_law_501 : decode cL_law 501 = .ok (.iload 18, 2) := by decide +kernel
theorem dL_law_503 : decode cL_law 503 = .ok (.iconst 1, 1) := by decide +kernel
theorem dL_law_504 : decode cL_law 504 = .ok (.isub, 1) := by decide +kernel
theorem dL_law_505 : decode cL_law 505 = .ok (.invokestatic 96, 3) := by decide +kernel
theorem dL_law_508 : decode cL_law 508 = .ok (.iload 13, 2) := by decide +kernel
theorem dL_law_510 : decode cL_law 510 = .ok (.if_icmp .ne 34, 3) := by decide +kernel
theorem dL_law_513 : decode cL_law 513 = .ok (.aload_n 1, 1) := by decide +kernel
theorem dL_law_514 : decode cL_law 514 = .ok (.iload 14, 2) := by decide +kernel
theorem dL_law_516 : decode cL_law 516 = .ok (.invokevirtual 160, 3) := by decide +kernel
theorem dL_law_519 : decode cL_law 519 = .ok (.iload 18, 2) := by decide +kernel
theorem dL_law_521 : decode cL_law 521 = .ok (.if_icmp .ne 23, 3) := by decide +kernel
theorem dL_law_524 : decode cL_law 524 = .ok (.aload_n 1, 1) := by decide +kernel
theorem dL_law_525 : decode cL_law 525 = .ok (.iload 14, 2) := by decide +kernel
theorem dL_law_527 : decode cL_law 527 = .ok (.invokevirtual 35, 3) := by decide +kernel
theorem dL_law_530 : decode cL_law 530 = .ok (.iload 18, 2) := by decide +kernel
theorem dL_law_532 : decode cL_law 532 = .ok (.if_icmp .ne 12, 3) := by decide +kernel
theorem dL_law_535 : decode cL_law 535 = .ok (.aload_n 1, 1) := by decide +kernel
theorem dL_law_536 : decode cL_law 536 = .ok (.iload 14, 2) := by decide +kernel
theorem dL_law_538 : decode cL_law 538 = .ok (.invokevirtual 163, 3) := by decide +kernel
theorem dL_law_541 : decode cL_law 541 = .ok (.ifCond .ne 5, 3) := by decide +kernel
theorem dL_law_544 : decode cL_law 544 = .ok (.iconst 0, 1) := by decide +kernel
theorem dL_law_545 : decode cL_law 545 = .ok (.ireturn, 1) := by decide +kernel
theorem dL_law_546 : decode cL_law 546 = .ok (.iinc 13 1, 3) := by decide +kernel
theorem dL_law_549 : decode cL_law 549 = .ok (.goto (-490), 3) := by decide +kernel
theorem dL_law_552 : decode cL_law 552 = .ok (.iconst 0, 1) := by decide +kernel
theorem dL_law_553 : decode cL_law 553 = .ok (.istore 13, 2) := by decide +kernel
theorem dL_law_555 : decode cL_law 555 = .ok (.iload 13, 2) := by decide +kernel
theorem dL_law_557 : decode cL_law 557 = .ok (.iload 4, 2) := by decide +kernel
theorem dL_law_559 : decode cL_law 559 = .ok (.if_icmp .ge 88, 3) := by decide +kernel
theorem dL_law_562 : decode cL_law 562 = .ok (.aload_n 1, 1) := by decide +kernel
theorem dL_law_563 : decode cL_law 563 = .ok (.iload 13, 2) := by decide +kernel
theorem dL_law_565 : decode cL_law 565 = .ok (.invokevirtual 38, 3) := by decide +kernel
theorem dL_law_568 : decode cL_law 568 = .ok (.istore 14, 2) := by decide +kernel
theorem dL_law_570 : decode cL_law 570 = .ok (.iload 13, 2) := by decide +kernel
theorem dL_law_572 : decode cL_law 572 = .ok (.ifCond .le 18, 3) := by decide +kernel
theorem dL_law_575 : decode cL_law 575 = .ok (.iload 14, 2) := by decide +kernel
theorem dL_law_577 : decode cL_law 577 = .ok (.aload_n 1, 1) := by decide +kernel
theorem dL_law_578 : decode cL_law 578 = .ok (.iload 13, 2) := by decide +kernel
theorem dL_law_580 : decode cL_law 580 = .ok (.iconst 1, 1) := by decide +kernel
theorem dL_law_581 : decode cL_law 581 = .ok (.isub, 1) := by decide +kernel
theorem dL_law_582 : decode cL_law 582 = .ok (.invokevirtual 38, 3) := by decide +kernel
theorem dL_law_585 : decode cL_law 585 = .ok (.if_icmp .gt 5, 3) := by decide +kernel
theorem dL_law_588 : decode cL_law 588 = .ok (.iconst 0, 1) := by decide +kernel
theorem dL_law_589 : decode cL_law 589 = .ok (.ireturn, 1) := by decide +kernel
theorem dL_law_590 : decode cL_law 590 = .ok (.new 134, 3) := by decide +kernel
theorem dL_law_593 : decode cL_law 593 = .ok (.dup, 1) := by decide +kernel
theorem dL_law_594 : decode cL_law 594 = .ok (.invokespecial 136, 3) := by decide +kernel
theorem dL_law_597 : decode cL_law 597 = .ok (.aload 12, 2) := by decide +kernel
theorem dL_law_599 : decode cL_law 599 = .ok (.invokevirtual 137, 3) := by decide +kernel
theorem dL_law_602 : decode cL_law 602 = .ok (.iload 13, 2) := by decide +kernel
theorem dL_law_604 : decode cL_law 604 = .ok (.ifCond .le 8, 3) := by decide +kernel
theorem dL_law_607 : decode cL_law 607 = .ok (.ldc 166, 2) := by decide +kernel
theorem dL_law_609 : decode cL_law 609 = .ok (.goto 5, 3) := by decide +kernel
theorem dL_law_612 : decode cL_law 612 = .ok (.ldc 123, 2) := by decide +kernel
theorem dL_law_614 : decode cL_law 614 = .ok (.invokevirtual 137, 3) := by decide +kernel
theorem dL_law_617 : decode cL_law 617 = .ok (.iload 14, 2) := by decide +kernel
theorem dL_law_619 : decode cL_law 619 = .ok (.invokevirtual 154, 3) := by decide +kernel
theorem dL_law_622 : decode cL_law 622 = .ok (.ldc 168, 2) := by decide +kernel
theorem dL_law_624 : decode cL_law 624 = .ok (.invokevirtual 137, 3) := by decide +kernel
theorem dL_law_627 : decode cL_law 627 = .ok (.aload_n 1, 1) := by decide +kernel
theorem dL_law_628 : decode cL_law 628 = .ok (.iload 14, 2) := by decide +kernel
theorem dL_law_630 : decode cL_law 630 = .ok (.invokevirtual 32, 3) := by decide +kernel
theorem dL_law_633 : decode cL_law 633 = .ok (.invokevirtual 154, 3) := by decide +kernel
theorem dL_law_636 : decode cL_law 636 = .ok (.invokevirtual 145, 3) := by decide +kernel
theorem dL_law_639 : decode cL_law 639 = .ok (.astore 12, 2) := by decide +kernel
theorem dL_law_641 : decode cL_law 641 = .ok (.iinc 13 1, 3) := by decide +kernel
theorem dL_law_644 : decode cL_law 644 = .ok (.goto (-89), 3) := by decide +kernel
theorem dL_law_647 : decode cL_law 647 = .ok (.iconst 0, 1) := by decide +kernel
theorem dL_law_648 : decode cL_law 648 = .ok (.istore 13, 2) := by decide +kernel
theorem dL_law_650 : decode cL_law 650 = .ok (.iload 13, 2) := by decide +kernel
theorem dL_law_652 : decode cL_law 652 = .ok (.bipush 6, 2) := by decide +kernel
theorem dL_law_654 : decode cL_law 654 = .ok (.if_icmp .ge 121, 3) := by decide +kernel
theorem dL_law_657 : decode cL_law 657 = .ok (.aload_n 0, 1) := by decide +kernel
theorem dL_law_658 : decode cL_law 658 = .ok (.bipush 90, 2) := by decide +kernel
theorem dL_law_660 : decode cL_law 660 = .ok (.bipush 6, 2) := by decide +kernel
theorem dL_law_662 : decode cL_law 662 = .ok (.iload_n 2, 1) := by decide +kernel
theorem dL_law_663 : decode cL_law 663 = .ok (.imul, 1) := by decide +kernel
theorem dL_law_664 : decode cL_law 664 = .ok (.iadd, 1) := by decide +kernel
theorem dL_law_665 : decode cL_law 665 = .ok (.iload 13, 2) := by decide +kernel
theorem dL_law_667 : decode cL_law 667 = .ok (.iadd, 1) := by decide +kernel
theorem dL_law_668 : decode cL_law 668 = .ok (.sipush 10000, 3) := by decide +kernel
theorem dL_law_671 : decode cL_law 671 = .ok (.invokestatic 56, 3) := by decide +kernel
theorem dL_law_674 : decode cL_law 674 = .ok (.istore 14, 2) := by decide +kernel
theorem dL_law_676 : decode cL_law 676 = .ok (.aload_n 0, 1) := by decide +kernel
theorem dL_law_677 : decode cL_law 677 = .ok (.bipush 110, 2) := by decide +kernel
theorem dL_law_679 : decode cL_law 679 = .ok (.iload 13, 2) := by decide +kernel
theorem dL_law_681 : decode cL_law 681 = .ok (.iadd, 1) := by decide +kernel
theorem dL_law_682 : decode cL_law 682 = .ok (.iload_n 3, 1) := by decide +kernel
theorem dL_law_683 : decode cL_law 683 = .ok (.invokestatic 56, 3) := by decide +kernel
theorem dL_law_686 : decode cL_law 686 = .ok (.istore 15, 2) := by decide +kernel
theorem dL_law_688 : decode cL_law 688 = .ok (.aload_n 1, 1) := by decide +kernel
theorem dL_law_689 : decode cL_law 689 = .ok (.iload 14, 2) := by decide +kernel
theorem dL_law_691 : decode cL_law 691 = .ok (.iload 15, 2) := by decide +kernel
theorem dL_law_693 : decode cL_law 693 = .ok (.invokevirtual 170, 3) := by decide +kernel
theorem dL_law_696 : decode cL_law 696 = .ok (.aload_n 1, 1) := by decide +kernel
theorem dL_law_697 : decode cL_law 697 = .ok (.iload 14, 2) := by decide +kernel
theorem dL_law_699 : decode cL_law 699 = .ok (.iload 15, 2) := by decide +kernel
theorem dL_law_701 : decode cL_law 701 = .ok (.invokestatic 96, 3) := by decide +kernel
theorem dL_law_704 : decode cL_law 704 = .ok (.if_icmp .ne 63, 3) := by decide +kernel
theorem dL_law_707 : decode cL_law 707 = .ok (.aload_n 1, 1) := by decide +kernel
theorem dL_law_708 : decode cL_law 708 = .ok (.iload 14, 2) := by decide +kernel
theorem dL_law_710 : decode cL_law 710 = .ok (.invokevirtual 160, 3) := by decide +kernel
theorem dL_law_713 : decode cL_law 713 = .ok (.aload_n 1, 1) := by decide +kernel
theorem dL_law_714 : decode cL_law 714 = .ok (.iload 14, 2) := by decide +kernel
theorem dL_law_716 : decode cL_law 716 = .ok (.invokestatic 149, 3) := by decide +kernel
theorem dL_law_719 : decode cL_law 719 = .ok (.if_icmp .ne 48, 3) := by decide +kernel
theorem dL_law_722 : decode cL_law 722 = .ok (.aload_n 1, 1) := by decide +kernel
theorem dL_law_723 : decode cL_law 723 = .ok (.iload 14, 2) := by decide +kernel
theorem dL_law_725 : decode cL_law 725 = .ok (.invokevirtual 173, 3) := by decide +kernel
theorem dL_law_728 : decode cL_law 728 = .ok (.iconst 2, 1) := by decide +kernel
theorem dL_law_729 : decode cL_law 729 = .ok (.irem, 1) := by decide +kernel
theorem dL_law_730 : decode cL_law 730 = .ok (.iconst 1, 1) := by decide +kernel
theorem dL_law_731 : decode cL_law 731 = .ok (.if_icmp .ne 36, 3) := by decide +kernel
theorem dL_law_734 : decode cL_law 734 = .ok (.aload_n 1, 1) := by decide +kernel
theorem dL_law_735 : decode cL_law 735 = .ok (.iload 14, 2) := by decide +kernel
theorem dL_law_737 : decode cL_law 737 = .ok (.invokevirtual 163, 3) := by decide +kernel
theorem dL_law_740 : decode cL_law 740 = .ok (.ifCond .ne 29, 3) := by decide +kernel
theorem dL_law_743 : decode cL_law 743 = .ok (.aload_n 1, 1) := by decide +kernel
theorem dL_law_744 : decode cL_law 744 = .ok (.iload 14, 2) := by decide +kernel
theorem dL_law_746 : decode cL_law 746 = .ok (.invokestatic 176, 3) := by decide +kernel
theorem dL_law_749 : decode cL_law 749 = .ok (.sipush (-30000), 3) := by decide +kernel
theorem dL_law_752 : decode cL_law 752 = .ok (.if_icmp .ne 15, 3) := by decide +kernel
theorem dL_law_755 : decode cL_law 755 = .ok (.aload_n 1, 1) := by decide +kernel
theorem dL_law_756 : decode cL_law 756 = .ok (.iload 14, 2) := by decide +kernel
theorem dL_law_758 : decode cL_law 758 = .ok (.invokestatic 178, 3) := by decide +kernel
theorem dL_law_761 : decode cL_law 761 = .ok (.sipush (-30000), 3) := by decide +kernel
theorem dL_law_764 : decode cL_law 764 = .ok (.if_icmp .eq 5, 3) := by decide +kernel
theorem dL_law_767 : decode cL_law 767 = .ok (.iconst 0, 1) := by decide +kernel
theorem dL_law_768 : decode cL_law 768 = .ok (.ireturn, 1) := by decide +kernel
theorem dL_law_769 : decode cL_law 769 = .ok (.iinc 13 1, 3) := by decide +kernel
theorem dL_law_772 : decode cL_law 772 = .ok (.goto (-122), 3) := by decide +kernel
theorem dL_law_775 : decode cL_law 775 = .ok (.aload_n 1, 1) := by decide +kernel
theorem dL_law_776 : decode cL_law 776 = .ok (.invokevirtual 77, 3) := by decide +kernel
theorem dL_law_779 : decode cL_law 779 = .ok (.iload 4, 2) := by decide +kernel
theorem dL_law_781 : decode cL_law 781 = .ok (.if_icmp .ne 163, 3) := by decide +kernel
theorem dL_law_784 : decode cL_law 784 = .ok (.aload_n 1, 1) := by decide +kernel
theorem dL_law_785 : decode cL_law 785 = .ok (.invokevirtual 180, 3) := by decide +kernel
theorem dL_law_788 : decode cL_law 788 = .ok (.iload 5, 2) := by decide +kernel
theorem dL_law_790 : decode cL_law 790 = .ok (.if_icmp .ne 154, 3) := by decide +kernel
theorem dL_law_793 : decode cL_law 793 = .ok (.aload_n 1, 1) := by decide +kernel
theorem dL_law_794 : decode cL_law 794 = .ok (.invokevirtual 183, 3) := by decide +kernel
theorem dL_law_797 : decode cL_law 797 = .ok (.iload 6, 2) := by decide +kernel
theorem dL_law_799 : decode cL_law 799 = .ok (.if_icmp .ne 145, 3) := by decide +kernel
theorem dL_law_802 : decode cL_law 802 = .ok (.aload_n 1, 1) := by decide +kernel
theorem dL_law_803 : decode cL_law 803 = .ok (.invokevirtual 186, 3) := by decide +kernel
theorem dL_law_806 : decode cL_law 806 = .ok (.iload 7, 2) := by decide +kernel
theorem dL_law_808 : decode cL_law 808 = .ok (.if_icmp .ne 136, 3) := by decide +kernel
theorem dL_law_811 : decode cL_law 811 = .ok (.aload_n 1, 1) := by decide +kernel
theorem dL_law_812 : decode cL_law 812 = .ok (.invokevirtual 189, 3) := by decide +kernel
theorem dL_law_815 : decode cL_law 815 = .ok (.iload 7, 2) := by decide +kernel
theorem dL_law_817 : decode cL_law 817 = .ok (.if_icmp .ne 127, 3) := by decide +kernel
theorem dL_law_820 : decode cL_law 820 = .ok (.aload_n 1, 1) := by decide +kernel
theorem dL_law_821 : decode cL_law 821 = .ok (.invokestatic 192, 3) := by decide +kernel
theorem dL_law_824 : decode cL_law 824 = .ok (.iload 9, 2) := by decide +kernel
theorem dL_law_826 : decode cL_law 826 = .ok (.if_icmp .ne 118, 3) := by decide +kernel
theorem dL_law_829 : decode cL_law 829 = .ok (.aload_n 1, 1) := by decide +kernel
theorem dL_law_830 : decode cL_law 830 = .ok (.iload 4, 2) := by decide +kernel
theorem dL_law_832 : decode cL_law 832 = .ok (.invokestatic 195, 3) := by decide +kernel
theorem dL_law_835 : decode cL_law 835 = .ok (.sipush (-30000), 3) := by decide +kernel
theorem dL_law_838 : decode cL_law 838 = .ok (.if_icmp .ne 106, 3) := by decide +kernel
theorem dL_law_841 : decode cL_law 841 = .ok (.aload_n 1, 1) := by decide +kernel
theorem dL_law_842 : decode cL_law 842 = .ok (.invokevirtual 197, 3) := by decide +kernel
theorem dL_law_845 : decode cL_law 845 = .ok (.ifCond .eq 99, 3) := by decide +kernel
theorem dL_law_848 : decode cL_law 848 = .ok (.aload_n 1, 1) := by decide +kernel
theorem dL_law_849 : decode cL_law 849 = .ok (.invokevirtual 201, 3) := by decide +kernel
theorem dL_law_852 : decode cL_law 852 = .ok (.aload_n 1, 1) := by decide +kernel
theorem dL_law_853 : decode cL_law 853 = .ok (.invokevirtual 204, 3) := by decide +kernel
theorem dL_law_856 : decode cL_law 856 = .ok (.if_icmp .gt 88, 3) := by decide +kernel
theorem dL_law_859 : decode cL_law 859 = .ok (.aload_n 1, 1) := by decide +kernel
theorem dL_law_860 : decode cL_law 860 = .ok (.invokevirtual 207, 3) := by decide +kernel
theorem dL_law_863 : decode cL_law 863 = .ok (.bipush 100, 2) := by decide +kernel
theorem dL_law_865 : decode cL_law 865 = .ok (.iload 4, 2) := by decide +kernel
theorem dL_law_867 : decode cL_law 867 = .ok (.iload 5, 2) := by decide +kernel
theorem dL_law_869 : decode cL_law 869 = .ok (.iadd, 1) := by decide +kernel
theorem dL_law_870 : decode cL_law 870 = .ok (.iconst 1, 1) := by decide +kernel
theorem dL_law_871 : decode cL_law 871 = .ok (.iadd, 1) := by decide +kernel
theorem dL_law_872 : decode cL_law 872 = .ok (.imul, 1) := by decide +kernel
theorem dL_law_873 : decode cL_law 873 = .ok (.aload_n 1, 1) := by decide +kernel
theorem dL_law_874 : decode cL_law 874 = .ok (.invokevirtual 210, 3) := by decide +kernel
theorem dL_law_877 : decode cL_law 877 = .ok (.iload_n 3, 1) := by decide +kernel
theorem dL_law_878 : decode cL_law 878 = .ok (.imul, 1) := by decide +kernel
theorem dL_law_879 : decode cL_law 879 = .ok (.if_icmp .le 7, 3) := by decide +kernel
theorem dL_law_882 : decode cL_law 882 = .ok (.iconst 1, 1) := by decide +kernel
theorem dL_law_883 : decode cL_law 883 = .ok (.goto 4, 3) := by decide +kernel
theorem dL_law_886 : decode cL_law 886 = .ok (.iconst 0, 1) := by decide +kernel
theorem dL_law_887 : decode cL_law 887 = .ok (.if_icmp .ne 57, 3) := by decide +kernel
theorem dL_law_890 : decode cL_law 890 = .ok (.aload_n 1, 1) := by decide +kernel
theorem dL_law_891 : decode cL_law 891 = .ok (.invokevirtual 213, 3) := by decide +kernel
theorem dL_law_894 : decode cL_law 894 = .ok (.iload 4, 2) := by decide +kernel
theorem dL_law_896 : decode cL_law 896 = .ok (.i2f, 1) := by decide +kernel
theorem dL_law_897 : decode cL_law 897 = .ok (.iload_n 3, 1) := by decide +kernel
theorem dL_law_898 : decode cL_law 898 = .ok (.i2f, 1) := by decide +kernel
theorem dL_law_899 : decode cL_law 899 = .ok (.fdiv, 1) := by decide +kernel
theorem dL_law_900 : decode cL_law 900 = .ok (.fcmp .l, 1) := by decide +kernel
theorem dL_law_901 : decode cL_law 901 = .ok (.ifCond .ne 43, 3) := by decide +kernel
theorem dL_law_904 : decode cL_law 904 = .ok (.aload_n 1, 1) := by decide +kernel
theorem dL_law_905 : decode cL_law 905 = .ok (.invokevirtual 217, 3) := by decide +kernel
theorem dL_law_908 : decode cL_law 908 = .ok (.aload_n 1, 1) := by decide +kernel
theorem dL_law_909 : decode cL_law 909 = .ok (.invokevirtual 213, 3) := by decide +kernel
theorem dL_law_912 : decode cL_law 912 = .ok (.invokestatic 220, 3) := by decide +kernel
theorem dL_law_915 : decode cL_law 915 = .ok (.if_icmp .ne 29, 3) := by decide +kernel
theorem dL_law_918 : decode cL_law 918 = .ok (.aload_n 1, 1) := by decide +kernel
theorem dL_law_919 : decode cL_law 919 = .ok (.aload_n 1, 1) := by decide +kernel
theorem dL_law_920 : decode cL_law 920 = .ok (.invokevirtual 226, 3) := by decide +kernel
theorem dL_law_923 : decode cL_law 923 = .ok (.aload 11, 2) := by decide +kernel
theorem dL_law_925 : decode cL_law 925 = .ok (.invokestatic 229, 3) := by decide +kernel
theorem dL_law_928 : decode cL_law 928 = .ok (.ifCond .eq 16, 3) := by decide +kernel
theorem dL_law_931 : decode cL_law 931 = .ok (.aload_n 1, 1) := by decide +kernel
theorem dL_law_932 : decode cL_law 932 = .ok (.aload_n 1, 1) := by decide +kernel
theorem dL_law_933 : decode cL_law 933 = .ok (.invokevirtual 233, 3) := by decide +kernel
theorem dL_law_936 : decode cL_law 936 = .ok (.aload 12, 2) := by decide +kernel
theorem dL_law_938 : decode cL_law 938 = .ok (.invokestatic 229, 3) := by decide +kernel
theorem dL_law_941 : decode cL_law 941 = .ok (.ifCond .ne 5, 3) := by decide +kernel
theorem dL_law_944 : decode cL_law 944 = .ok (.iconst 0, 1) := by decide +kernel
theorem dL_law_945 : decode cL_law 945 = .ok (.ireturn, 1) := by decide +kernel
theorem dL_law_946 : decode cL_law 946 = .ok (.iload 4, 2) := by decide +kernel
theorem dL_law_948 : decode cL_law 948 = .ok (.ifCond .le 35, 3) := by decide +kernel
theorem dL_law_951 : decode cL_law 951 = .ok (.aload_n 1, 1) := by decide +kernel
theorem dL_law_952 : decode cL_law 952 = .ok (.invokevirtual 236, 3) := by decide +kernel
theorem dL_law_955 : decode cL_law 955 = .ok (.iload 8, 2) := by decide +kernel
theorem dL_law_957 : decode cL_law 957 = .ok (.i2d, 1) := by decide +kernel
theorem dL_law_958 : decode cL_law 958 = .ok (.iload 4, 2) := by decide +kernel
theorem dL_law_960 : decode cL_law 960 = .ok (.i2d, 1) := by decide +kernel
theorem dL_law_961 : decode cL_law 961 = .ok (.ddiv, 1) := by decide +kernel
theorem dL_law_962 : decode cL_law 962 = .ok (.dcmp .l, 1) := by decide +kernel
theorem dL_law_963 : decode cL_law 963 = .ok (.ifCond .ne 18, 3) := by decide +kernel
theorem dL_law_966 : decode cL_law 966 = .ok (.aload_n 1, 1) := by decide +kernel
theorem dL_law_967 : decode cL_law 967 = .ok (.invokevirtual 240, 3) := by decide +kernel
theorem dL_law_970 : decode cL_law 970 = .ok (.aload_n 1, 1) := by decide +kernel
theorem dL_law_971 : decode cL_law 971 = .ok (.invokevirtual 236, 3) := by decide +kernel
theorem dL_law_974 : decode cL_law 974 = .ok (.invokestatic 244, 3) := by decide +kernel
theorem dL_law_977 : decode cL_law 977 = .ok (.lcmp, 1) := by decide +kernel
theorem dL_law_978 : decode cL_law 978 = .ok (.ifCond .eq 5, 3) := by decide +kernel
theorem dL_law_981 : decode cL_law 981 = .ok (.iconst 0, 1) := by decide +kernel
theorem dL_law_982 : decode cL_law 982 = .ok (.ireturn, 1) := by decide +kernel
theorem dL_law_983 : decode cL_law 983 = .ok (.aload_n 0, 1) := by decide +kernel
theorem dL_law_984 : decode cL_law 984 = .ok (.bipush 120, 2) := by decide +kernel
theorem dL_law_986 : decode cL_law 986 = .ok (.iload_n 2, 1) := by decide +kernel
theorem dL_law_987 : decode cL_law 987 = .ok (.iadd, 1) := by decide +kernel
theorem dL_law_988 : decode cL_law 988 = .ok (.sipush 10007, 3) := by decide +kernel
theorem dL_law_991 : decode cL_law 991 = .ok (.invokestatic 56, 3) := by decide +kernel
theorem dL_law_994 : decode cL_law 994 = .ok (.istore 13, 2) := by decide +kernel
theorem dL_law_996 : decode cL_law 996 = .ok (.iconst 1, 1) := by decide +kernel
theorem dL_law_997 : decode cL_law 997 = .ok (.aload_n 0, 1) := by decide +kernel
theorem dL_law_998 : decode cL_law 998 = .ok (.bipush 124, 2) := by decide +kernel
theorem dL_law_1000 : decode cL_law 1000 = .ok (.iload_n 2, 1) := by decide +kernel
theorem dL_law_1001 : decode cL_law 1001 = .ok (.iadd, 1) := by decide +kernel
theorem dL_law_1002 : decode cL_law 1002 = .ok (.bipush 14, 2) := by decide +kernel
theorem dL_law_1004 : decode cL_law 1004 = .ok (.invokestatic 56, 3) := by decide +kernel
theorem dL_law_1007 : decode cL_law 1007 = .ok (.iadd, 1) := by decide +kernel
theorem dL_law_1008 : decode cL_law 1008 = .ok (.istore 14, 2) := by decide +kernel
theorem dL_law_1010 : decode cL_law 1010 = .ok (.iconst 0, 1) := by decide +kernel
theorem dL_law_1011 : decode cL_law 1011 = .ok (.istore 15, 2) := by decide +kernel
theorem dL_law_1013 : decode cL_law 1013 = .ok (.iconst 0, 1) := by decide +kernel
theorem dL_law_1014 : decode cL_law 1014 = .ok (.istore 16, 2) := by decide +kernel
theorem dL_law_1016 : decode cL_law 1016 = .ok (.iconst 0, 1) := by decide +kernel
theorem dL_law_1017 : decode cL_law 1017 = .ok (.istore 17, 2) := by decide +kernel
theorem dL_law_1019 : decode cL_law 1019 = .ok (.iload 17, 2) := by decide +kernel
theorem dL_law_1021 : decode cL_law 1021 = .ok (.iconst 3, 1) := by decide +kernel
theorem dL_law_1022 : decode cL_law 1022 = .ok (.if_icmp .ge 174, 3) := by decide +kernel
theorem dL_law_1025 : decode cL_law 1025 = .ok (.new 14, 3) := by decide +kernel
theorem dL_law_1028 : decode cL_law 1028 = .ok (.dup, 1) := by decide +kernel
theorem dL_law_1029 : decode cL_law 1029 = .ok (.invokespecial 118, 3) := by decide +kernel
theorem dL_law_1032 : decode cL_law 1032 = .ok (.astore 18, 2) := by decide +kernel
theorem dL_law_1034 : decode cL_law 1034 = .ok (.aload 18, 2) := by decide +kernel
theorem dL_law_1036 : decode cL_law 1036 = .ok (.iload 17, 2) := by decide +kernel
theorem dL_law_1038 : decode cL_law 1038 = .ok (.invokestatic 60, 3) := by decide +kernel
theorem dL_law_1041 : decode cL_law 1041 = .ok (.istore 19, 2) := by decide +kernel
theorem dL_law_1043 : decode cL_law 1043 = .ok (.iload 13, 2) := by decide +kernel
theorem dL_law_1045 : decode cL_law 1045 = .ok (.istore 20, 2) := by decide +kernel
theorem dL_law_1047 : decode cL_law 1047 = .ok (.iconst 0, 1) := by decide +kernel
theorem dL_law_1048 : decode cL_law 1048 = .ok (.istore 21, 2) := by decide +kernel
theorem dL_law_1050 : decode cL_law 1050 = .ok (.aload 18, 2) := by decide +kernel
theorem dL_law_1052 : decode cL_law 1052 = .ok (.aload_n 1, 1) := by decide +kernel
theorem dL_law_1053 : decode cL_law 1053 = .ok (.invokevirtual 89, 3) := by decide +kernel
theorem dL_law_1056 : decode cL_law 1056 = .ok (.invokestatic 63, 3) := by decide +kernel
theorem dL_law_1059 : decode cL_law 1059 = .ok (.istore 19, 2) := by decide +kernel
theorem dL_law_1061 : decode cL_law 1061 = .ok (.aload 18, 2) := by decide +kernel
theorem dL_law_1063 : decode cL_law 1063 = .ok (.aload_n 1, 1) := by decide +kernel
theorem dL_law_1064 : decode cL_law 1064 = .ok (.invokevirtual 210, 3) := by decide +kernel
theorem dL_law_1067 : decode cL_law 1067 = .ok (.invokestatic 69, 3) := by decide +kernel
theorem dL_law_1070 : decode cL_law 1070 = .ok (.istore 19, 2) := by decide +kernel
theorem dL_law_1072 : decode cL_law 1072 = .ok (.iconst 0, 1) := by decide +kernel
theorem dL_law_1073 : decode cL_law 1073 = .ok (.istore 22, 2) := by decide +kernel
theorem dL_law_1075 : decode cL_law 1075 = .ok (.iload 22, 2) := by decide +kernel
theorem dL_law_1077 : decode cL_law 1077 = .ok (.iload 14, 2) := by decide +kernel
theorem dL_law_1079 : decode cL_law 1079 = .ok (.if_icmp .ge 54, 3) := by decide +kernel
theorem dL_law_1082 : decode cL_law 1082 = .ok (.sipush 137, 3) := by decide +kernel
theorem dL_law_1085 : decode cL_law 1085 = .ok (.iload 20, 2) := by decide +kernel
theorem dL_law_1087 : decode cL_law 1087 = .ok (.imul, 1) := by decide +kernel
theorem dL_law_1088 : decode cL_law 1088 = .ok (.bipush 59, 2) := by decide +kernel
theorem dL_law_1090 : decode cL_law 1090 = .ok (.iadd, 1) := by decide +kernel
theorem dL_law_1091 : decode cL_law 1091 = .ok (.sipush 10007, 3) := by decide +kernel
theorem dL_law_1094 : decode cL_law 1094 = .ok (.irem, 1) := by decide +kernel
theorem dL_law_1095 : decode cL_law 1095 = .ok (.istore 20, 2) := by decide +kernel
theorem dL_law_1097 : decode cL_law 1097 = .ok (.iload 21, 2) := by decide +kernel
theorem dL_law_1099 : decode cL_law 1099 = .ok (.aload 18, 2) := by decide +kernel
theorem dL_law_1101 : decode cL_law 1101 = .ok (.iload 20, 2) := by decide +kernel
theorem dL_law_1103 : decode cL_law 1103 = .ok (.sipush 10000, 3) := by decide +kernel
theorem dL_law_1106 : decode cL_law 1106 = .ok (.irem, 1) := by decide +kernel
theorem dL_law_1107 : decode cL_law 1107 = .ok (.invokevirtual 160, 3) := by decide +kernel
theorem dL_law_1110 : decode cL_law 1110 = .ok (.iadd, 1) := by decide +kernel
theorem dL_law_1111 : decode cL_law 1111 = .ok (.istore 21, 2) := by decide +kernel
theorem dL_law_1113 : decode cL_law 1113 = .ok (.aload 18, 2) := by decide +kernel
theorem dL_law_1115 : decode cL_law 1115 = .ok (.iload 20, 2) := by decide +kernel
theorem dL_law_1117 : decode cL_law 1117 = .ok (.sipush 10000, 3) := by decide +kernel
theorem dL_law_1120 : decode cL_law 1120 = .ok (.irem, 1) := by decide +kernel
theorem dL_law_1121 : decode cL_law 1121 = .ok (.iconst 1, 1) := by decide +kernel
theorem dL_law_1122 : decode cL_law 1122 = .ok (.invokestatic 82, 3) := by decide +kernel
theorem dL_law_1125 : decode cL_law 1125 = .ok (.istore 19, 2) := by decide +kernel
theorem dL_law_1127 : decode cL_law 1127 = .ok (.iinc 22 1, 3) := by decide +kernel
theorem dL_law_1130 : decode cL_law 1130 = .ok (.goto (-55), 3) := by decide +kernel
theorem dL_law_1133 : decode cL_law 1133 = .ok (.iload 17, 2) := by decide +kernel
theorem dL_law_1135 : decode cL_law 1135 = .ok (.ifCond .eq 10, 3) := by decide +kernel
theorem dL_law_1138 : decode cL_law 1138 = .ok (.iload 21, 2) := by decide +kernel
theorem dL_law_1140 : decode cL_law 1140 = .ok (.iload 16, 2) := by decide +kernel
theorem dL_law_1142 : decode cL_law 1142 = .ok (.if_icmp .ge 8, 3) := by decide +kernel
theorem dL_law_1145 : decode cL_law 1145 = .ok (.iload 17, 2) := by decide +kernel
theorem dL_law_1147 : decode cL_law 1147 = .ok (.goto 5, 3) := by decide +kernel
theorem dL_law_1150 : decode cL_law 1150 = .ok (.iload 15, 2) := by decide +kernel
theorem dL_law_1152 : decode cL_law 1152 = .ok (.istore 15, 2) := by decide +kernel
theorem dL_law_1154 : decode cL_law 1154 = .ok (.iload 17, 2) := by decide +kernel
theorem dL_law_1156 : decode cL_law 1156 = .ok (.ifCond .ne 8, 3) := by decide +kernel
theorem dL_law_1159 : decode cL_law 1159 = .ok (.iload 21, 2) := by decide +kernel
theorem dL_law_1161 : decode cL_law 1161 = .ok (.goto 10, 3) := by decide +kernel
theorem dL_law_1164 : decode cL_law 1164 = .ok (.iload 16, 2) := by decide +kernel
theorem dL_law_1166 : decode cL_law 1166 = .ok (.iload 21, 2) := by decide +kernel
theorem dL_law_1168 : decode cL_law 1168 = .ok (.invokestatic 250, 3) := by decide +kernel
theorem dL_law_1171 : decode cL_law 1171 = .ok (.istore 16, 2) := by decide +kernel
theorem dL_law_1173 : decode cL_law 1173 = .ok (.aload_n 1, 1) := by decide +kernel
theorem dL_law_1174 : decode cL_law 1174 = .ok (.iload 17, 2) := by decide +kernel
theorem dL_law_1176 : decode cL_law 1176 = .ok (.iload 13, 2) := by decide +kernel
theorem dL_law_1178 : decode cL_law 1178 = .ok (.iload 14, 2) := by decide +kernel
theorem dL_law_1180 : decode cL_law 1180 = .ok (.invokevirtual 253, 3) := by decide +kernel
theorem dL_law_1183 : decode cL_law 1183 = .ok (.iload 21, 2) := by decide +kernel
theorem dL_law_1185 : decode cL_law 1185 = .ok (.if_icmp .eq 5, 3) := by decide +kernel
theorem dL_law_1188 : decode cL_law 1188 = .ok (.iconst 0, 1) := by decide +kernel
theorem dL_law_1189 : decode cL_law 1189 = .ok (.ireturn, 1) := by decide +kernel
theorem dL_law_1190 : decode cL_law 1190 = .ok (.iinc 17 1, 3) := by decide +kernel
theorem dL_law_1193 : decode cL_law 1193 = .ok (.goto (-174), 3) := by decide +kernel
theorem dL_law_1196 : decode cL_law 1196 = .ok (.aload_n 1, 1) := by decide +kernel
theorem dL_law_1197 : decode cL_law 1197 = .ok (.iload 13, 2) := by decide +kernel
theorem dL_law_1199 : decode cL_law 1199 = .ok (.iload 14, 2) := by decide +kernel
theorem dL_law_1201 : decode cL_law 1201 = .ok (.invokevirtual 257, 3) := by decide +kernel
theorem dL_law_1204 : decode cL_law 1204 = .ok (.iload 15, 2) := by decide +kernel
theorem dL_law_1206 : decode cL_law 1206 = .ok (.if_icmp .eq 5, 3) := by decide +kernel
theorem dL_law_1209 : decode cL_law 1209 = .ok (.iconst 0, 1) := by decide +kernel
theorem dL_law_1210 : decode cL_law 1210 = .ok (.ireturn, 1) := by decide +kernel
theorem dL_law_1211 : decode cL_law 1211 = .ok (.aload_n 1, 1) := by decide +kernel
theorem dL_law_1212 : decode cL_law 1212 = .ok (.aload_n 0, 1) := by decide +kernel
theorem dL_law_1213 : decode cL_law 1213 = .ok (.sipush 130, 3) := by decide +kernel
theorem dL_law_1216 : decode cL_law 1216 = .ok (.iconst 3, 1) := by decide +kernel
theorem dL_law_1217 : decode cL_law 1217 = .ok (.iload_n 2, 1) := by decide +kernel
theorem dL_law_1218 : decode cL_law 1218 = .ok (.imul, 1) := by decide +kernel
theorem dL_law_1219 : decode cL_law 1219 = .ok (.iadd, 1) := by decide +kernel
theorem dL_law_1220 : decode cL_law 1220 = .ok (.invokestatic 65, 3) := by decide +kernel
theorem dL_law_1223 : decode cL_law 1223 = .ok (.iinc 2 1, 3) := by decide +kernel
theorem dL_law_1226 : decode cL_law 1226 = .ok (.goto (-1211), 3) := by decide +kernel
theorem dL_law_1229 : decode cL_law 1229 = .ok (.iconst 1, 1) := by decide +kernel
theorem dL_law_1230 : decode cL_law 1230 = .ok (.ireturn, 1) := by decide +kernel
