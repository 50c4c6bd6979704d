section GO
variable {p : Program} {l : Launch} {e : Env} {R : Room} {s : State} {m : MethodId} {args : Array Value} {below : List Frame} {meth : Method} {c : Code} {D : va_G} {tys : List (ClassId × FieldType)} {A : Nat → Prop} {own : String} {cc : ByteArray} {nL : Nat} {ret0 : Option FieldType} {Q : State → Prop} {pc : Nat} {lv lv' : List (Nat × Value)} {st : List Value} {ws ws' : va_W} {kk nn : Nat}
theorem g_getO (C0 : gC own cc nL ret0 p s m args meth c D tys A) {o n d : String} {index q : Nat} {v : Value} (hE : va_OF o n d v q A s s.heap) (hlink : Cond.fieldLink own index o n d ∈ hAll) (hdg : decode cc pc = .ok (.getfield index, 3)) (k : gG p l e R s m args below meth c D A nL Q kk nn (pc + 3) lv (v :: st) ws) : gG p l e R s m args below meth c D A nL Q kk nn pc lv (.ref q :: st) ws := fun H locs ls hP hD hS hl => vk_getf (gC_x C0) (gC_b C0) hE hS (gC_o C0) (gC_t C0 _ hlink) (fun _ h => h) hdg (k H locs ls hP hD hS hl)
theorem g_getS (C0 : gC own cc nL ret0 p s m args meth c D tys A) {o n d : String} {index : Nat} {v : Value} (hE : va_Z o n d v A s s.heap) (hlink : Cond.fieldLink own index o n d ∈ hAll) (hdg : decode cc pc = .ok (.getstatic index, 3)) (k : gG p l e R s m args below meth c D A nL Q kk nn (pc + 3) lv (v :: st) ws) : gG p l e R s m args below meth c D A nL Q kk nn pc lv st ws := fun H locs ls hP hD hS hl => va_gets (gC_x C0) (gC_b C0) hE hS (gC_o C0) (gC_t C0 _ hlink) (fun _ h => h) hdg (k H locs ls hP hD hS hl)
theorem g_ldcS (C0 : gC own cc nL ret0 p s m args meth c D tys A) {tx : String} {index q : Nat} (hR : vk_R own index tx q s) (hdg : decode cc pc = .ok (.ldc index, 2)) (k : gG p l e R s m args below meth c D A nL Q kk nn (pc + 2) lv (.ref q :: st) ws) : gG p l e R s m args below meth c D A nL Q kk nn pc lv st ws := fun H locs ls hP hD hS hl => va_ldcS (gC_x C0) (gC_b C0) (gC_o C0) hR hdg (k H locs ls hP hD hS hl)
theorem g_tlen (C0 : gC own cc nL ret0 p s m args meth c D tys A) {ty : FieldType} {t N : Nat} {f : Nat → Value} {v : Int32} (hT : va_T ty t N f A s s.heap) (hv : Int32.ofNat N = v) (hdg : decode cc pc = .ok (.arraylength, 1)) (k : gG p l e R s m args below meth c D A nL Q kk nn (pc + 1) lv (.int v :: st) ws) : gG p l e R s m args below meth c D A nL Q kk nn pc lv (.ref t :: st) ws := fun H locs ls hP hD hS hl => va_tlen (gC_x C0) (gC_b C0) hT hS hv hdg (k H locs ls hP hD hS hl)
theorem g_tb (C0 : gC own cc nL ret0 p s m args meth c D tys A) {t N : Nat} {f : Nat → Value} {i : Int32} {v : Value} (hT : va_T .byte t N f A s s.heap) (hin : hl_in i N = true) (hv : f i.toNatClampNeg = v) (hdg : decode cc pc = .ok (.baload, 1)) (k : gG p l e R s m args below meth c D A nL Q kk nn (pc + 1) lv (v :: st) ws) : gG p l e R s m args below meth c D A nL Q kk nn pc lv (.int i :: .ref t :: st) ws := fun H locs ls hP hD hS hl => va_tb (gC_x C0) (gC_b C0) hT hS (hl_inP hin) hv hdg (k H locs ls hP hD hS hl)
theorem g_ishr (C0 : gC own cc nL ret0 p s m args meth c D tys A) {x y : Int32} (hdg : decode cc pc = .ok (.ishr, 1)) (k : gG p l e R s m args below meth c D A nL Q kk nn (pc + 1) lv (.int (x >>> (y &&& 31)) :: st) ws) : gG p l e R s m args below meth c D A nL Q kk nn pc lv (.int y :: .int x :: st) ws := fun H locs ls hP hD hS hl => lv_ishr (gC_x C0) (gC_b C0) hdg (k H locs ls hP hD hS hl)
theorem g_popv (C0 : gC own cc nL ret0 p s m args meth c D tys A) {x : Int32} (hdg : decode cc pc = .ok (.pop, 1)) (k : gG p l e R s m args below meth c D A nL Q kk nn (pc + 1) lv st ws) : gG p l e R s m args below meth c D A nL Q kk nn pc lv (.int x :: st) ws := g_pop C0 hdg rfl k
end GO
def hchr (i k : Nat) : Int32 := (hVB.getD i []).getD k 0
theorem hchr_ok : ∀ i, i < 7 → ∀ k, k < hVL.getD i 0 → hl_c (hchr i k &&& 255) = hchr i k ∧ narrow .char (.int (hchr i k)) = .int (hchr i k) := by decide +kernel
theorem hlen_ok : ∀ i, i < 7 → Int32.ofNat (hVL.getD i 0) >>> ((0 : Int32) &&& 31) = Int32.ofNat (hVL.getD i 0) := by decide +kernel
theorem hlen_pos : ∀ i, i < 7 → (Int32.ofNat (hVL.getD i 0)).toInt = (hVL.getD i 0 : Int) := by decide +kernel
theorem hnotlt {a b : Int32} (h : b.toInt ≤ a.toInt) : ¬ a < b := fun z => by
  have := (fa_lt _ _).mp z
  omega
theorem hislt {a b : Int32} (h : a.toInt < b.toInt) : a < b := (fa_lt _ _).mpr h
def fJ0_length (i : Nat) : Option Int32 := if i < 7 then some (Int32.ofNat (hVL.getD i 0)) else none
def fJ0_charAt (i : Nat) (k : Int32) : Option Int32 := if i < 7 then (if hl_in k (hVL.getD i 0) = true then some (hchr i k.toNatClampNeg) else none) else none
def fX4_wordOf (x0 : Int32) : Option Nat := if x0 = (0 : Int32) then some 0 else if x0 = (1 : Int32) then some 1 else if x0 = (2 : Int32) then some 2 else if x0 = (3 : Int32) then some 3 else if x0 = (4 : Int32) then some 4 else if x0 = (5 : Int32) then some 5 else some 6
/-! java/lang/String.coder()B -/
abbrev rmJ0_coder_7d493 : Room := { frames := 0, cells := 0, slots := 0, locals := 0 }
theorem hmJ0_coder_7d493 : hMV yJ0_coder_7d493 cJ0_coder_7d493 1 (some .byte) 0 := ⟨q_974, q_82, q_972, q_973, by decide, by decide, by decide +kernel⟩
theorem dJ0_coder_7d493_0 : decode cJ0_coder_7d493 0 = .ok (.getstatic 38, 3) := by decide +kernel
theorem dJ0_coder_7d493_3 : decode cJ0_coder_7d493 3 = .ok (.ifCond .eq 10, 3) := by decide +kernel
theorem dJ0_coder_7d493_6 : decode cJ0_coder_7d493 6 = .ok (.aload_n 0, 1) := by decide +kernel
theorem dJ0_coder_7d493_7 : decode cJ0_coder_7d493 7 = .ok (.getfield 15, 3) := by decide +kernel
theorem dJ0_coder_7d493_10 : decode cJ0_coder_7d493 10 = .ok (.goto 4, 3) := by decide +kernel
theorem dJ0_coder_7d493_13 : decode cJ0_coder_7d493 13 = .ok (.iconst 1, 1) := by decide +kernel
theorem dJ0_coder_7d493_14 : decode cJ0_coder_7d493 14 = .ok (.ireturn, 1) := by decide +kernel
set_option maxHeartbeats 4000000 in
set_option maxRecDepth 100000 in
theorem bJ0_coder_7d493 {p : Program} {l : Launch} {e : Env} {s : State} {m : MethodId} {args : Array Value} {below : List Frame} {meth : Method} {c : Code} {D : va_G} {cC cI cO : ClassId} {A : Nat → Prop} {adK adV : Nat → Nat} (C0 : gC RJ0 cJ0_coder_7d493 1 (some .byte) p s m args meth c D (hTy cC cI cO) A) (E0 : hSt adK adV A s) (i : Nat) (hi : i < 7) : gG p l e rmJ0_coder_7d493 s m args below meth c D A 1 (MQ below (hQi D [] 0 A) args s 0 0 A) 0 0 0 [(0, .ref (adK i))] [] [] := by
  refine g_getS C0 E0.1 q_975 dJ0_coder_7d493_0 ?_
  refine g_if_eq C0 (tgt := 13) dJ0_coder_7d493_3 (by decide) (fun c1 => absurd c1 (by decide)) (fun c1 => ?_)
  refine g_aload_n C0 dJ0_coder_7d493_6 rfl 0 rfl ?_
  refine g_getO C0 (E0.2.1.1 i hi).2.1 q_1602 dJ0_coder_7d493_7 ?_
  refine g_goto C0 (tgt := 14) dJ0_coder_7d493_10 (by decide) ?_
  exact g_iret C0 rfl dJ0_coder_7d493_14 rfl rfl
theorem mJ0_coder_7d493 (l : Launch) (D : va_G) (cC cI cO : ClassId) (adK adV : Nat → Nat) (i : Nat) (hi : i < 7) : ∀ sz, Met l yJ0_coder_7d493 (ws_ yJ0_coder_7d493 cJ0_coder_7d493 1 (some .byte)) rmJ0_coder_7d493 (va_Pc [.ref (adK i)] (hPreE (hSt adK adV) D (hTy cC cI cO) [] sz)) (hQi D [] 0 (va_A [] sz)) 0 0 (va_A [] sz) :=
  g_metE (Qf := fun A => hQi D [] 0 A) (by decide +kernel) (Nat.le_of_ble_eq_true rfl) rfl (fun C0 E0 => bJ0_coder_7d493 C0 E0 i hi)
/-! java/lang/String.isLatin1()Z -/
abbrev rmJ0_isLatin1_aae02 : Room := { frames := 0, cells := 0, slots := 0, locals := 0 }
theorem hmJ0_isLatin1_aae02 : hMV yJ0_isLatin1_aae02 cJ0_isLatin1_aae02 1 (some .boolean) 0 := ⟨q_988, q_82, q_986, q_987, by decide, by decide, by decide +kernel⟩
theorem dJ0_isLatin1_aae02_0 : decode cJ0_isLatin1_aae02 0 = .ok (.getstatic 38, 3) := by decide +kernel
theorem dJ0_isLatin1_aae02_3 : decode cJ0_isLatin1_aae02 3 = .ok (.ifCond .eq 14, 3) := by decide +kernel
theorem dJ0_isLatin1_aae02_6 : decode cJ0_isLatin1_aae02 6 = .ok (.aload_n 0, 1) := by decide +kernel
theorem dJ0_isLatin1_aae02_7 : decode cJ0_isLatin1_aae02 7 = .ok (.getfield 15, 3) := by decide +kernel
theorem dJ0_isLatin1_aae02_10 : decode cJ0_isLatin1_aae02 10 = .ok (.ifCond .ne 7, 3) := by decide +kernel
theorem dJ0_isLatin1_aae02_13 : decode cJ0_isLatin1_aae02 13 = .ok (.iconst 1, 1) := by decide +kernel
theorem dJ0_isLatin1_aae02_14 : decode cJ0_isLatin1_aae02 14 = .ok (.goto 4, 3) := by decide +kernel
theorem dJ0_isLatin1_aae02_17 : decode cJ0_isLatin1_aae02 17 = .ok (.iconst 0, 1) := by decide +kernel
theorem dJ0_isLatin1_aae02_18 : decode cJ0_isLatin1_aae02 18 = .ok (.ireturn, 1) := by decide +kernel
set_option maxHeartbeats 4000000 in
set_option maxRecDepth 100000 in
theorem bJ0_isLatin1_aae02 {p : Program} {l : Launch} {e : Env} {s : State} {m : MethodId} {args : Array Value} {below : List Frame} {meth : Method} {c : Code} {D : va_G} {cC cI cO : ClassId} {A : Nat → Prop} {adK adV : Nat → Nat} (C0 : gC RJ0 cJ0_isLatin1_aae02 1 (some .boolean) p s m args meth c D (hTy cC cI cO) A) (E0 : hSt adK adV A s) (i : Nat) (hi : i < 7) : gG p l e rmJ0_isLatin1_aae02 s m args below meth c D A 1 (MQ below (hQi D [] 1 A) args s 0 0 A) 0 0 0 [(0, .ref (adK i))] [] [] := by
  refine g_getS C0 E0.1 q_975 dJ0_isLatin1_aae02_0 ?_
  refine g_if_eq C0 (tgt := 17) dJ0_isLatin1_aae02_3 (by decide) (fun c1 => absurd c1 (by decide)) (fun c1 => ?_)
  refine g_aload_n C0 dJ0_isLatin1_aae02_6 rfl 0 rfl ?_
  refine g_getO C0 (E0.2.1.1 i hi).2.1 q_1602 dJ0_isLatin1_aae02_7 ?_
  refine g_if_ne C0 (tgt := 17) dJ0_isLatin1_aae02_10 (by decide) (fun c1 => absurd rfl c1) (fun c1 => ?_)
  refine g_iconst C0 (v := (1 : Int32)) dJ0_isLatin1_aae02_13 (by decide) ?_
  refine g_goto C0 (tgt := 18) dJ0_isLatin1_aae02_14 (by decide) ?_
  exact g_iret C0 rfl dJ0_isLatin1_aae02_18 rfl rfl
theorem mJ0_isLatin1_aae02 (l : Launch) (D : va_G) (cC cI cO : ClassId) (adK adV : Nat → Nat) (i : Nat) (hi : i < 7) : ∀ sz, Met l yJ0_isLatin1_aae02 (ws_ yJ0_isLatin1_aae02 cJ0_isLatin1_aae02 1 (some .boolean)) rmJ0_isLatin1_aae02 (va_Pc [.ref (adK i)] (hPreE (hSt adK adV) D (hTy cC cI cO) [] sz)) (hQi D [] 1 (va_A [] sz)) 0 0 (va_A [] sz) :=
  g_metE (Qf := fun A => hQi D [] 1 A) (by decide +kernel) (Nat.le_of_ble_eq_true rfl) rfl (fun C0 E0 => bJ0_isLatin1_aae02 C0 E0 i hi)
/-! java/lang/String.length()I -/
abbrev rmJ0_length_8abf5 : Room := { frames := 1, cells := 0, slots := 0, locals := 40 }
theorem hmJ0_length_8abf5 : hMV yJ0_length_8abf5 cJ0_length_8abf5 1 (some .int) 0 := ⟨q_970, q_82, q_968, q_969, by decide, by decide, by decide +kernel⟩
theorem dJ0_length_8abf5_0 : decode cJ0_length_8abf5 0 = .ok (.aload_n 0, 1) := by decide +kernel
theorem dJ0_length_8abf5_1 : decode cJ0_length_8abf5 1 = .ok (.getfield 9, 3) := by decide +kernel
theorem dJ0_length_8abf5_4 : decode cJ0_length_8abf5 4 = .ok (.arraylength, 1) := by decide +kernel
theorem dJ0_length_8abf5_5 : decode cJ0_length_8abf5 5 = .ok (.aload_n 0, 1) := by decide +kernel
theorem dJ0_length_8abf5_6 : decode cJ0_length_8abf5 6 = .ok (.invokevirtual 335, 3) := by decide +kernel
theorem dJ0_length_8abf5_9 : decode cJ0_length_8abf5 9 = .ok (.ishr, 1) := by decide +kernel
theorem dJ0_length_8abf5_10 : decode cJ0_length_8abf5 10 = .ok (.ireturn, 1) := by decide +kernel
set_option maxHeartbeats 4000000 in
set_option maxRecDepth 100000 in
theorem bJ0_length_8abf5 {p : Program} {l : Launch} {e : Env} {s : State} {m : MethodId} {args : Array Value} {below : List Frame} {meth : Method} {c : Code} {D : va_G} {cC cI cO : ClassId} {A : Nat → Prop} {adK adV : Nat → Nat} (C0 : gC RJ0 cJ0_length_8abf5 1 (some .int) p s m args meth c D (hTy cC cI cO) A) (E0 : hSt adK adV A s) (i : Nat) (hi : i < 7) : gG p l e rmJ0_length_8abf5 s m args below meth c D A 1 (MQ below (hQi D [] (Int32.ofNat (hVL.getD i 0)) A) args s 0 0 A) 0 0 0 [(0, .ref (adK i))] [] [] := by
  refine g_aload_n C0 dJ0_length_8abf5_0 rfl 0 rfl ?_
  refine g_getO C0 (E0.2.1.1 i hi).2.2.1 q_1601 dJ0_length_8abf5_1 ?_
  refine g_tlen C0 (E0.2.1.1 i hi).2.2.2 rfl dJ0_length_8abf5_4 ?_
  refine g_aload_n C0 dJ0_length_8abf5_5 rfl 0 rfl ?_
  refine g_callECi C0 (hSt_ok adK adV) E0 (ws' := []) (mJ0_coder_7d493 l D cC cI cO adK adV i hi) hmJ0_coder_7d493 q_971 ⟨Nat.le_of_ble_eq_true rfl, Nat.le_of_ble_eq_true rfl⟩ ⟨Nat.le_of_ble_eq_true rfl, Nat.le_of_ble_eq_true rfl⟩ rfl rfl [] rfl rfl rfl rfl rfl (fun hS => vk_recv E0.2.1 hi hS) rfl (Nat.le_of_ble_eq_true rfl) dJ0_length_8abf5_6 ?_
  refine g_ishr C0 dJ0_length_8abf5_9 ?_
  rw [hlen_ok i hi]
  exact g_iret C0 rfl dJ0_length_8abf5_10 rfl rfl
theorem mJ0_length_8abf5 (l : Launch) (D : va_G) (cC cI cO : ClassId) (adK adV : Nat → Nat) (i : Nat) (hi : i < 7) : ∀ sz, Met l yJ0_length_8abf5 (ws_ yJ0_length_8abf5 cJ0_length_8abf5 1 (some .int)) rmJ0_length_8abf5 (va_Pc [.ref (adK i)] (hPreE (hSt adK adV) D (hTy cC cI cO) [] sz)) (hQi D [] (Int32.ofNat (hVL.getD i 0)) (va_A [] sz)) 0 0 (va_A [] sz) :=
  g_metE (Qf := fun A => hQi D [] (Int32.ofNat (hVL.getD i 0)) A) (by decide +kernel) (Nat.le_of_ble_eq_true rfl) rfl (fun C0 E0 => bJ0_length_8abf5 C0 E0 i hi)
/-! jdk/internal/util/Preconditions.checkIndex(IILjava/util/function/BiFunction;)I -/
abbrev rmJ3_checkIndex_8e157 : Room := { frames := 0, cells := 0, slots := 0, locals := 0 }
theorem hmJ3_checkIndex_8e157 : hMS yJ3_checkIndex_8e157 cJ3_checkIndex_8e157 3 (some .int) 3 := ⟨q_999, q_91, q_998, by decide, by decide, by decide +kernel⟩
theorem dJ3_checkIndex_8e157_0 : decode cJ3_checkIndex_8e157 0 = .ok (.iload_n 0, 1) := by decide +kernel
theorem dJ3_checkIndex_8e157_1 : decode cJ3_checkIndex_8e157 1 = .ok (.ifCond .lt 8, 3) := by decide +kernel
theorem dJ3_checkIndex_8e157_4 : decode cJ3_checkIndex_8e157 4 = .ok (.iload_n 0, 1) := by decide +kernel
theorem dJ3_checkIndex_8e157_5 : decode cJ3_checkIndex_8e157 5 = .ok (.iload_n 1, 1) := by decide +kernel
theorem dJ3_checkIndex_8e157_6 : decode cJ3_checkIndex_8e157 6 = .ok (.if_icmp .lt 10, 3) := by decide +kernel
theorem dJ3_checkIndex_8e157_9 : decode cJ3_checkIndex_8e157 9 = .ok (.aload_n 2, 1) := by decide +kernel
theorem dJ3_checkIndex_8e157_10 : decode cJ3_checkIndex_8e157 10 = .ok (.iload_n 0, 1) := by decide +kernel
theorem dJ3_checkIndex_8e157_11 : decode cJ3_checkIndex_8e157 11 = .ok (.iload_n 1, 1) := by decide +kernel
theorem dJ3_checkIndex_8e157_12 : decode cJ3_checkIndex_8e157 12 = .ok (.invokestatic 95, 3) := by decide +kernel
theorem dJ3_checkIndex_8e157_15 : decode cJ3_checkIndex_8e157 15 = .ok (.athrow, 1) := by decide +kernel
theorem dJ3_checkIndex_8e157_16 : decode cJ3_checkIndex_8e157 16 = .ok (.iload_n 0, 1) := by decide +kernel
theorem dJ3_checkIndex_8e157_17 : decode cJ3_checkIndex_8e157 17 = .ok (.ireturn, 1) := by decide +kernel
set_option maxHeartbeats 4000000 in
set_option maxRecDepth 100000 in
theorem bJ3_checkIndex_8e157 {p : Program} {l : Launch} {e : Env} {s : State} {m : MethodId} {args : Array Value} {below : List Frame} {meth : Method} {c : Code} {D : va_G} {cC cI cO : ClassId} {A : Nat → Prop} {adK adV : Nat → Nat} (C0 : gC RJ3 cJ3_checkIndex_8e157 3 (some .int) p s m args meth c D (hTy cC cI cO) A) (E0 : hSt adK adV A s) (k n : Int32) (qo : Option Nat) (h1 : ¬ k < 0) (h2 : k < n) : gG p l e rmJ3_checkIndex_8e157 s m args below meth c D A 3 (MQ below (hQi D [] k A) args s 0 0 A) 0 0 0 [(0, .int k), (1, .int n), (2, va_rf qo)] [] [] := by
  refine g_iload_n C0 dJ3_checkIndex_8e157_0 rfl 0 rfl ?_
  refine g_if_lt C0 (tgt := 9) dJ3_checkIndex_8e157_1 (by decide) (fun c1 => absurd c1 h1) (fun c1 => ?_)
  refine g_iload_n C0 dJ3_checkIndex_8e157_4 rfl 0 rfl ?_
  refine g_iload_n C0 dJ3_checkIndex_8e157_5 rfl 1 rfl ?_
  refine g_icmp_lt C0 (tgt := 16) dJ3_checkIndex_8e157_6 (by decide) (fun c1 => ?_) (fun c1 => absurd h2 c1)
  refine g_iload_n C0 dJ3_checkIndex_8e157_16 rfl 0 rfl ?_
  exact g_iret C0 rfl dJ3_checkIndex_8e157_17 rfl rfl
theorem mJ3_checkIndex_8e157 (l : Launch) (D : va_G) (cC cI cO : ClassId) (adK adV : Nat → Nat) (k n : Int32) (qo : Option Nat) (h1 : ¬ k < 0) (h2 : k < n) : ∀ sz, Met l yJ3_checkIndex_8e157 (ws_ yJ3_checkIndex_8e157 cJ3_checkIndex_8e157 3 (some .int)) rmJ3_checkIndex_8e157 (va_Pc [.int k, .int n, va_rf qo] (hPreE (hSt adK adV) D (hTy cC cI cO) [] sz)) (hQi D [] k (va_A [] sz)) 0 0 (va_A [] sz) :=
  g_metE (Qf := fun A => hQi D [] k A) (by decide +kernel) (by cases qo <;> exact Nat.le_of_ble_eq_true rfl) (by cases qo <;> rfl) (fun C0 E0 => bJ3_checkIndex_8e157 C0 E0 k n qo h1 h2)
/-! java/lang/String.checkIndex(II)V -/
abbrev rmJ0_checkIndex_df160 : Room := { frames := 1, cells := 0, slots := 0, locals := 40 }
theorem hmJ0_checkIndex_df160 : hMS yJ0_checkIndex_df160 cJ0_checkIndex_df160 2 none 2 := ⟨q_994, q_82, q_993, by decide, by decide, by decide +kernel⟩
theorem dJ0_checkIndex_df160_0 : decode cJ0_checkIndex_df160 0 = .ok (.iload_n 0, 1) := by decide +kernel
theorem dJ0_checkIndex_df160_1 : decode cJ0_checkIndex_df160 1 = .ok (.iload_n 1, 1) := by decide +kernel
theorem dJ0_checkIndex_df160_2 : decode cJ0_checkIndex_df160 2 = .ok (.getstatic 1053, 3) := by decide +kernel
theorem dJ0_checkIndex_df160_5 : decode cJ0_checkIndex_df160 5 = .ok (.invokestatic 1059, 3) := by decide +kernel
theorem dJ0_checkIndex_df160_8 : decode cJ0_checkIndex_df160 8 = .ok (.pop, 1) := by decide +kernel
theorem dJ0_checkIndex_df160_9 : decode cJ0_checkIndex_df160 9 = .ok (.return_, 1) := by decide +kernel
set_option maxHeartbeats 4000000 in
set_option maxRecDepth 100000 in
theorem bJ0_checkIndex_df160 {p : Program} {l : Launch} {e : Env} {s : State} {m : MethodId} {args : Array Value} {below : List Frame} {meth : Method} {c : Code} {D : va_G} {cC cI cO : ClassId} {A : Nat → Prop} {adK adV : Nat → Nat} (C0 : gC RJ0 cJ0_checkIndex_df160 2 none p s m args meth c D (hTy cC cI cO) A) (E0 : hSt adK adV A s) (k n : Int32) (h1 : ¬ k < 0) (h2 : k < n) : gG p l e rmJ0_checkIndex_df160 s m args below meth c D A 2 (MQ below (hQv D [] A) args s 0 0 A) 0 0 0 [(0, .int k), (1, .int n)] [] [] := by
  have hz : ∃ qo : Option Nat, va_Z "jdk/internal/util/Preconditions" "SIOOBE_FORMATTER" "Ljava/util/function/BiFunction;" (va_rf qo) A s s.heap := by
    rcases E0.2.2.1 with h | ⟨t, h⟩
    · exact ⟨none, h⟩
    · exact ⟨some t, h⟩
  obtain ⟨qo, hz⟩ := hz
  refine g_iload_n C0 dJ0_checkIndex_df160_0 rfl 0 rfl ?_
  refine g_iload_n C0 dJ0_checkIndex_df160_1 rfl 1 rfl ?_
  refine g_getS C0 hz q_995 dJ0_checkIndex_df160_2 ?_
  refine g_callESi C0 (hSt_ok adK adV) E0 (ws' := []) (mJ3_checkIndex_8e157 l D cC cI cO adK adV k n qo h1 h2) hmJ3_checkIndex_8e157 q_997 ⟨Nat.le_of_ble_eq_true rfl, Nat.le_of_ble_eq_true rfl⟩ ⟨Nat.le_of_ble_eq_true rfl, Nat.le_of_ble_eq_true rfl⟩ rfl rfl [] rfl rfl rfl rfl rfl rfl (Nat.le_of_ble_eq_true rfl) dJ0_checkIndex_df160_5 ?_
  refine g_popv C0 dJ0_checkIndex_df160_8 ?_
  exact g_vret C0 dJ0_checkIndex_df160_9 rfl
theorem mJ0_checkIndex_df160 (l : Launch) (D : va_G) (cC cI cO : ClassId) (adK adV : Nat → Nat) (k n : Int32) (h1 : ¬ k < 0) (h2 : k < n) : ∀ sz, Met l yJ0_checkIndex_df160 (ws_ yJ0_checkIndex_df160 cJ0_checkIndex_df160 2 none) rmJ0_checkIndex_df160 (va_Pc [.int k, .int n] (hPreE (hSt adK adV) D (hTy cC cI cO) [] sz)) (hQv D [] (va_A [] sz)) 0 0 (va_A [] sz) :=
  g_metE (Qf := fun A => hQv D [] A) (by decide +kernel) (Nat.le_of_ble_eq_true rfl) rfl (fun C0 E0 => bJ0_checkIndex_df160 C0 E0 k n h1 h2)
/-! java/lang/StringLatin1.charAt([BI)C -/
abbrev rmJ1_charAt_3b067 : Room := { frames := 2, cells := 0, slots := 0, locals := 80 }
theorem hmJ1_charAt_3b067 : hMS yJ1_charAt_3b067 cJ1_charAt_3b067 2 (some .char) 2 := ⟨q_991, q_90, q_990, by decide, by decide, by decide +kernel⟩
theorem dJ1_charAt_3b067_0 : decode cJ1_charAt_3b067 0 = .ok (.iload_n 1, 1) := by decide +kernel
theorem dJ1_charAt_3b067_1 : decode cJ1_charAt_3b067 1 = .ok (.aload_n 0, 1) := by decide +kernel
theorem dJ1_charAt_3b067_2 : decode cJ1_charAt_3b067 2 = .ok (.arraylength, 1) := by decide +kernel
theorem dJ1_charAt_3b067_3 : decode cJ1_charAt_3b067 3 = .ok (.invokestatic 9, 3) := by decide +kernel
theorem dJ1_charAt_3b067_6 : decode cJ1_charAt_3b067 6 = .ok (.aload_n 0, 1) := by decide +kernel
theorem dJ1_charAt_3b067_7 : decode cJ1_charAt_3b067 7 = .ok (.iload_n 1, 1) := by decide +kernel
theorem dJ1_charAt_3b067_8 : decode cJ1_charAt_3b067 8 = .ok (.baload, 1) := by decide +kernel
theorem dJ1_charAt_3b067_9 : decode cJ1_charAt_3b067 9 = .ok (.sipush 255, 3) := by decide +kernel
theorem dJ1_charAt_3b067_12 : decode cJ1_charAt_3b067 12 = .ok (.iand, 1) := by decide +kernel
theorem dJ1_charAt_3b067_13 : decode cJ1_charAt_3b067 13 = .ok (.i2c, 1) := by decide +kernel
theorem dJ1_charAt_3b067_14 : decode cJ1_charAt_3b067 14 = .ok (.ireturn, 1) := by decide +kernel
set_option maxHeartbeats 4000000 in
set_option maxRecDepth 100000 in
theorem bJ1_charAt_3b067 {p : Program} {l : Launch} {e : Env} {s : State} {m : MethodId} {args : Array Value} {below : List Frame} {meth : Method} {c : Code} {D : va_G} {cC cI cO : ClassId} {A : Nat → Prop} {adK adV : Nat → Nat} (C0 : gC RJ1 cJ1_charAt_3b067 2 (some .char) p s m args meth c D (hTy cC cI cO) A) (E0 : hSt adK adV A s) (i : Nat) (k : Int32) (hi : i < 7) (hk : hl_in k (hVL.getD i 0) = true) : gG p l e rmJ1_charAt_3b067 s m args below meth c D A 2 (MQ below (hQi D [] (hchr i k.toNatClampNeg) A) args s 0 0 A) 0 0 0 [(0, .ref (adV i)), (1, .int k)] [] [] := by
  have hI := hl_inI hk
  have h1 : ¬ k < 0 := hnotlt hI.1
  have h2 : k < Int32.ofNat (hVL.getD i 0) := hislt (by rw [hlen_pos i hi]; exact hI.2)
  obtain ⟨j, hj, hjk⟩ := hl_inE hk
  have hc := hchr_ok i hi j hj
  refine g_iload_n C0 dJ1_charAt_3b067_0 rfl 1 rfl ?_
  refine g_aload_n C0 dJ1_charAt_3b067_1 rfl 0 rfl ?_
  refine g_tlen C0 (E0.2.1.1 i hi).2.2.2 rfl dJ1_charAt_3b067_2 ?_
  refine g_callESv C0 (hSt_ok adK adV) E0 (ws' := []) (mJ0_checkIndex_df160 l D cC cI cO adK adV k _ h1 h2) hmJ0_checkIndex_df160 q_992 ⟨Nat.le_of_ble_eq_true rfl, Nat.le_of_ble_eq_true rfl⟩ ⟨Nat.le_of_ble_eq_true rfl, Nat.le_of_ble_eq_true rfl⟩ rfl rfl [] rfl rfl rfl rfl rfl rfl (Nat.le_of_ble_eq_true rfl) dJ1_charAt_3b067_3 ?_
  refine g_aload_n C0 dJ1_charAt_3b067_6 rfl 0 rfl ?_
  refine g_iload_n C0 dJ1_charAt_3b067_7 rfl 1 rfl ?_
  refine g_tb C0 (E0.2.1.1 i hi).2.2.2 hk (v := .int (hchr i j)) (by rw [hjk]; rfl) dJ1_charAt_3b067_8 ?_
  refine g_sipush C0 (v := (255 : Int32)) dJ1_charAt_3b067_9 (by decide) ?_
  refine g_iand C0 dJ1_charAt_3b067_12 ?_
  refine g_i2c C0 dJ1_charAt_3b067_13 ?_
  rw [hc.1]
  exact g_iret C0 hc.2 dJ1_charAt_3b067_14 (by rw [hjk]) rfl
theorem mJ1_charAt_3b067 (l : Launch) (D : va_G) (cC cI cO : ClassId) (adK adV : Nat → Nat) (i : Nat) (k : Int32) (hi : i < 7) (hk : hl_in k (hVL.getD i 0) = true) : ∀ sz, Met l yJ1_charAt_3b067 (ws_ yJ1_charAt_3b067 cJ1_charAt_3b067 2 (some .char)) rmJ1_charAt_3b067 (va_Pc [.ref (adV i), .int k] (hPreE (hSt adK adV) D (hTy cC cI cO) [] sz)) (hQi D [] (hchr i k.toNatClampNeg) (va_A [] sz)) 0 0 (va_A [] sz) :=
  g_metE (Qf := fun A => hQi D [] (hchr i k.toNatClampNeg) A) (by decide +kernel) (Nat.le_of_ble_eq_true rfl) rfl (fun C0 E0 => bJ1_charAt_3b067 C0 E0 i k hi hk)
/-! java/lang/String.charAt(I)C -/
abbrev rmJ0_charAt_5068e : Room := { frames := 3, cells := 0, slots := 0, locals := 120 }
theorem hmJ0_charAt_5068e : hMV yJ0_charAt_5068e cJ0_charAt_5068e 2 (some .char) 1 := ⟨q_984, q_82, q_982, q_983, by decide, by decide, by decide +kernel⟩
theorem dJ0_charAt_5068e_0 : decode cJ0_charAt_5068e 0 = .ok (.aload_n 0, 1) := by decide +kernel
theorem dJ0_charAt_5068e_1 : decode cJ0_charAt_5068e 1 = .ok (.invokevirtual 492, 3) := by decide +kernel
theorem dJ0_charAt_5068e_4 : decode cJ0_charAt_5068e 4 = .ok (.ifCond .eq 12, 3) := by decide +kernel
theorem dJ0_charAt_5068e_7 : decode cJ0_charAt_5068e 7 = .ok (.aload_n 0, 1) := by decide +kernel
theorem dJ0_charAt_5068e_8 : decode cJ0_charAt_5068e 8 = .ok (.getfield 9, 3) := by decide +kernel
theorem dJ0_charAt_5068e_11 : decode cJ0_charAt_5068e 11 = .ok (.iload_n 1, 1) := by decide +kernel
theorem dJ0_charAt_5068e_12 : decode cJ0_charAt_5068e 12 = .ok (.invokestatic 495, 3) := by decide +kernel
theorem dJ0_charAt_5068e_15 : decode cJ0_charAt_5068e 15 = .ok (.ireturn, 1) := by decide +kernel
theorem dJ0_charAt_5068e_16 : decode cJ0_charAt_5068e 16 = .ok (.aload_n 0, 1) := by decide +kernel
theorem dJ0_charAt_5068e_17 : decode cJ0_charAt_5068e 17 = .ok (.getfield 9, 3) := by decide +kernel
theorem dJ0_charAt_5068e_20 : decode cJ0_charAt_5068e 20 = .ok (.iload_n 1, 1) := by decide +kernel
theorem dJ0_charAt_5068e_21 : decode cJ0_charAt_5068e 21 = .ok (.invokestatic 498, 3) := by decide +kernel
theorem dJ0_charAt_5068e_24 : decode cJ0_charAt_5068e 24 = .ok (.ireturn, 1) := by decide +kernel
set_option maxHeartbeats 4000000 in
set_option maxRecDepth 100000 in
theorem bJ0_charAt_5068e {p : Program} {l : Launch} {e : Env} {s : State} {m : MethodId} {args : Array Value} {below : List Frame} {meth : Method} {c : Code} {D : va_G} {cC cI cO : ClassId} {A : Nat → Prop} {adK adV : Nat → Nat} (C0 : gC RJ0 cJ0_charAt_5068e 2 (some .char) p s m args meth c D (hTy cC cI cO) A) (E0 : hSt adK adV A s) (i : Nat) (k : Int32) (hi : i < 7) (hk : hl_in k (hVL.getD i 0) = true) : gG p l e rmJ0_charAt_5068e s m args below meth c D A 2 (MQ below (hQi D [] (hchr i k.toNatClampNeg) A) args s 0 0 A) 0 0 0 [(0, .ref (adK i)), (1, .int k)] [] [] := by
  obtain ⟨j, hj, hjk⟩ := hl_inE hk
  have hc := hchr_ok i hi j hj
  refine g_aload_n C0 dJ0_charAt_5068e_0 rfl 0 rfl ?_
  refine g_callECi C0 (hSt_ok adK adV) E0 (ws' := []) (mJ0_isLatin1_aae02 l D cC cI cO adK adV i hi) hmJ0_isLatin1_aae02 q_985 ⟨Nat.le_of_ble_eq_true rfl, Nat.le_of_ble_eq_true rfl⟩ ⟨Nat.le_of_ble_eq_true rfl, Nat.le_of_ble_eq_true rfl⟩ rfl rfl [] rfl rfl rfl rfl rfl (fun hS => vk_recv E0.2.1 hi hS) rfl (Nat.le_of_ble_eq_true rfl) dJ0_charAt_5068e_1 ?_
  refine g_if_eq C0 (tgt := 16) dJ0_charAt_5068e_4 (by decide) (fun c1 => absurd c1 (by decide)) (fun c1 => ?_)
  refine g_aload_n C0 dJ0_charAt_5068e_7 rfl 0 rfl ?_
  refine g_getO C0 (E0.2.1.1 i hi).2.2.1 q_1601 dJ0_charAt_5068e_8 ?_
  refine g_iload_n C0 dJ0_charAt_5068e_11 rfl 1 rfl ?_
  refine g_callESi C0 (hSt_ok adK adV) E0 (ws' := []) (mJ1_charAt_3b067 l D cC cI cO adK adV i k hi hk) hmJ1_charAt_3b067 q_989 ⟨Nat.le_of_ble_eq_true rfl, Nat.le_of_ble_eq_true rfl⟩ ⟨Nat.le_of_ble_eq_true rfl, Nat.le_of_ble_eq_true rfl⟩ rfl rfl [] rfl rfl rfl rfl rfl rfl (Nat.le_of_ble_eq_true rfl) dJ0_charAt_5068e_12 ?_
  exact g_iret C0 (by rw [hjk]; exact hc.2) dJ0_charAt_5068e_15 rfl rfl
theorem mJ0_charAt_5068e (l : Launch) (D : va_G) (cC cI cO : ClassId) (adK adV : Nat → Nat) (i : Nat) (k : Int32) (hi : i < 7) (hk : hl_in k (hVL.getD i 0) = true) : ∀ sz, Met l yJ0_charAt_5068e (ws_ yJ0_charAt_5068e cJ0_charAt_5068e 2 (some .char)) rmJ0_charAt_5068e (va_Pc [.ref (adK i), .int k] (hPreE (hSt adK adV) D (hTy cC cI cO) [] sz)) (hQi D [] (hchr i k.toNatClampNeg) (va_A [] sz)) 0 0 (va_A [] sz) :=
  g_metE (Qf := fun A => hQi D [] (hchr i k.toNatClampNeg) A) (by decide +kernel) (Nat.le_of_ble_eq_true rfl) rfl (fun C0 E0 => bJ0_charAt_5068e C0 E0 i k hi hk)
/-! HashLab$Program.wordOf(I)Ljava/lang/String; -/
abbrev rmX4_wordOf : Room := { frames := 0, cells := 0, slots := 0, locals := 0 }
theorem hmX4_wordOf : hMS yX4_wordOf cX4_wordOf 1 (some (.object "java/lang/String")) 1 := ⟨q_955, q_69, q_954, by decide, by decide, by decide +kernel⟩
theorem dX4_wordOf_0 : decode cX4_wordOf 0 = .ok (.iload_n 0, 1) := by decide +kernel
theorem dX4_wordOf_1 : decode cX4_wordOf 1 = .ok (.tableswitch 57 0 5 #[39, 42, 45, 48, 51, 54], 39) := by decide +kernel
theorem dX4_wordOf_40 : decode cX4_wordOf 40 = .ok (.ldc 99, 2) := by decide +kernel
theorem dX4_wordOf_42 : decode cX4_wordOf 42 = .ok (.areturn, 1) := by decide +kernel
theorem dX4_wordOf_43 : decode cX4_wordOf 43 = .ok (.ldc 101, 2) := by decide +kernel
theorem dX4_wordOf_45 : decode cX4_wordOf 45 = .ok (.areturn, 1) := by decide +kernel
theorem dX4_wordOf_46 : decode cX4_wordOf 46 = .ok (.ldc 103, 2) := by decide +kernel
theorem dX4_wordOf_48 : decode cX4_wordOf 48 = .ok (.areturn, 1) := by decide +kernel
theorem dX4_wordOf_49 : decode cX4_wordOf 49 = .ok (.ldc 105, 2) := by decide +kernel
theorem dX4_wordOf_51 : decode cX4_wordOf 51 = .ok (.areturn, 1) := by decide +kernel
theorem dX4_wordOf_52 : decode cX4_wordOf 52 = .ok (.ldc 107, 2) := by decide +kernel
theorem dX4_wordOf_54 : decode cX4_wordOf 54 = .ok (.areturn, 1) := by decide +kernel
theorem dX4_wordOf_55 : decode cX4_wordOf 55 = .ok (.ldc 109, 2) := by decide +kernel
theorem dX4_wordOf_57 : decode cX4_wordOf 57 = .ok (.areturn, 1) := by decide +kernel
theorem dX4_wordOf_58 : decode cX4_wordOf 58 = .ok (.ldc 111, 2) := by decide +kernel
theorem dX4_wordOf_60 : decode cX4_wordOf 60 = .ok (.areturn, 1) := by decide +kernel
set_option maxHeartbeats 4000000 in
set_option maxRecDepth 100000 in
theorem bX4_wordOf {p : Program} {l : Launch} {e : Env} {s : State} {m : MethodId} {args : Array Value} {below : List Frame} {meth : Method} {c : Code} {D : va_G} {cC cI cO : ClassId} {A : Nat → Prop} {adK adV : Nat → Nat} (C0 : gC RX4 cX4_wordOf 1 (some (.object "java/lang/String")) p s m args meth c D (hTy cC cI cO) A) (E0 : hSt adK adV A s) (out : Nat) (x0 : Int32) (hf : fX4_wordOf x0 = some out) : gG p l e rmX4_wordOf s m args below meth c D A 1 (MQ below (hQq D [] (some (adK out)) A) args s 0 0 A) 0 0 0 [(0, .int x0)] [] [] := by
  unfold fX4_wordOf at hf
  refine g_iload_n C0 dX4_wordOf_0 rfl 0 rfl ?_
  by_cases c0 : x0 = (0 : Int32)
  · rw [if_pos c0] at hf
    cases hf
    refine g_tableIn C0 (tgt := 40) dX4_wordOf_1 (by rw [c0]; decide) (by rw [c0]; decide) (by rw [c0]; rfl) (by decide) ?_
    refine g_ldcS C0 (E0.2.2.2 0 (99, "put ") rfl) dX4_wordOf_40 ?_
    exact g_qret C0 dX4_wordOf_42 rfl rfl rfl
  rw [if_neg c0] at hf
  by_cases c1 : x0 = (1 : Int32)
  · rw [if_pos c1] at hf
    cases hf
    refine g_tableIn C0 (tgt := 43) dX4_wordOf_1 (by rw [c1]; decide) (by rw [c1]; decide) (by rw [c1]; rfl) (by decide) ?_
    refine g_ldcS C0 (E0.2.2.2 1 (101, "remove ") rfl) dX4_wordOf_43 ?_
    exact g_qret C0 dX4_wordOf_45 rfl rfl rfl
  rw [if_neg c1] at hf
  by_cases c2 : x0 = (2 : Int32)
  · rw [if_pos c2] at hf
    cases hf
    refine g_tableIn C0 (tgt := 46) dX4_wordOf_1 (by rw [c2]; decide) (by rw [c2]; decide) (by rw [c2]; rfl) (by decide) ?_
    refine g_ldcS C0 (E0.2.2.2 2 (103, "kind ") rfl) dX4_wordOf_46 ?_
    exact g_qret C0 dX4_wordOf_48 rfl rfl rfl
  rw [if_neg c2] at hf
  by_cases c3 : x0 = (3 : Int32)
  · rw [if_pos c3] at hf
    cases hf
    refine g_tableIn C0 (tgt := 49) dX4_wordOf_1 (by rw [c3]; decide) (by rw [c3]; decide) (by rw [c3]; rfl) (by decide) ?_
    refine g_ldcS C0 (E0.2.2.2 3 (105, "limit ") rfl) dX4_wordOf_49 ?_
    exact g_qret C0 dX4_wordOf_51 rfl rfl rfl
  rw [if_neg c3] at hf
  by_cases c4 : x0 = (4 : Int32)
  · rw [if_pos c4] at hf
    cases hf
    refine g_tableIn C0 (tgt := 52) dX4_wordOf_1 (by rw [c4]; decide) (by rw [c4]; decide) (by rw [c4]; rfl) (by decide) ?_
    refine g_ldcS C0 (E0.2.2.2 4 (107, "seed ") rfl) dX4_wordOf_52 ?_
    exact g_qret C0 dX4_wordOf_54 rfl rfl rfl
  rw [if_neg c4] at hf
  by_cases c5 : x0 = (5 : Int32)
  · rw [if_pos c5] at hf
    cases hf
    refine g_tableIn C0 (tgt := 55) dX4_wordOf_1 (by rw [c5]; decide) (by rw [c5]; decide) (by rw [c5]; rfl) (by decide) ?_
    refine g_ldcS C0 (E0.2.2.2 5 (109, "rebuild") rfl) dX4_wordOf_55 ?_
    exact g_qret C0 dX4_wordOf_57 rfl rfl rfl
  rw [if_neg c5] at hf
  have k0 : x0.toInt ≠ 0 := fun z => c0 (Int32.toInt_inj.mp (z.trans (by decide)))
  have k1 : x0.toInt ≠ 1 := fun z => c1 (Int32.toInt_inj.mp (z.trans (by decide)))
  have k2 : x0.toInt ≠ 2 := fun z => c2 (Int32.toInt_inj.mp (z.trans (by decide)))
  have k3 : x0.toInt ≠ 3 := fun z => c3 (Int32.toInt_inj.mp (z.trans (by decide)))
  have k4 : x0.toInt ≠ 4 := fun z => c4 (Int32.toInt_inj.mp (z.trans (by decide)))
  have k5 : x0.toInt ≠ 5 := fun z => c5 (Int32.toInt_inj.mp (z.trans (by decide)))
  cases hf
  refine g_tableOut C0 (tgt := 58) dX4_wordOf_1 (by omega) (by decide) ?_
  refine g_ldcS C0 (E0.2.2.2 6 (111, "clear") rfl) dX4_wordOf_58 ?_
  exact g_qret C0 dX4_wordOf_60 rfl rfl rfl
theorem mX4_wordOf (l : Launch) (D : va_G) (cC cI cO : ClassId) (adK adV : Nat → Nat) (out : Nat) (x0 : Int32) (hf : fX4_wordOf x0 = some out) : ∀ sz, Met l yX4_wordOf (ws_ yX4_wordOf cX4_wordOf 1 (some (.object "java/lang/String"))) rmX4_wordOf (va_Pc [.int x0] (hPreE (hSt adK adV) D (hTy cC cI cO) [] sz)) (hQq D [] (some (adK out)) (va_A [] sz)) 0 0 (va_A [] sz) :=
  g_metE (Qf := fun A => hQq D [] (some (adK out)) A) (by decide +kernel) (Nat.le_of_ble_eq_true rfl) rfl (fun C0 E0 => bX4_wordOf C0 E0 out x0 hf)
theorem hlenI {i : Nat} {r : Int32} (h : fJ0_length i = some r) : i < 7 := (hl_ifS h).1
theorem hlenV {i : Nat} {r : Int32} (h : fJ0_length i = some r) : Int32.ofNat (hVL.getD i 0) = r := Option.some.inj (hl_ifS h).2
theorem hchrI {i : Nat} {k r : Int32} (h : fJ0_charAt i k = some r) : i < 7 ∧ hl_in k (hVL.getD i 0) = true := ⟨(hl_ifS h).1, (hl_ifS (hl_ifS h).2).1⟩
theorem hchrV {i : Nat} {k r : Int32} (h : fJ0_charAt i k = some r) : hchr i k.toNatClampNeg = r := Option.some.inj (hl_ifS (hl_ifS h).2).2
def hPreXE (adK adV : Nat → Nat) (D : va_G) (tys : List (ClassId × FieldType)) (wc : va_W) (sz : Nat) : State → Prop := fun U => hPreX D tys wc sz U ∧ hSt adK adV (va_A wc sz) U
theorem hPreXE_blind {adK adV : Nat → Nat} {D : va_G} {tys : List (ClassId × FieldType)} {wc : va_W} {sz : Nat} {av : List Value} : FrameBlind (va_Pc av (hPreXE adK adV D tys wc sz)) := fun a U g mk q => by
  obtain ⟨q0, q1, q2⟩ := q
  obtain ⟨z0, z1⟩ := (hPreX_blind (av := av) (D := D) (tys := tys) (wc := wc) (sz := sz)) a U g mk ⟨q0, q1⟩
  exact ⟨z0, z1, (hSt_ok adK adV).1 _ _ _ _ _ q2⟩
theorem g_metXE {adK adV : Nat → Nat} {l : Launch} {D : va_G} {tys : List (ClassId × FieldType)} {y : MethodName} {bytes : ByteArray} {maxL : Nat} {ret : Option FieldType} {rm : Room} {av : List Value} {wc : va_W} {lv0 : List (Nat × Value)} {Qf : (Nat → Prop) → Array Value → State → Outcome → State → Prop} {Xf : (Nat → Prop) → String → State → State → Prop} {mc ms : Nat}
    (hy : plainName y.cls = true) (hlen : (lg_sl av).length ≤ maxL) (hlv : lv_args 0 av = lv0)
    (body : ∀ {p : Program} {e : Env} {s : State} {m : MethodId} {args : Array Value} {below : List Frame} {meth : Method} {c : Code} {A : Nat → Prop}, gC y.cls bytes maxL ret p s m args meth c D tys A → hSt adK adV A s → hZ A s → (∀ x ∈ c.exceptionTable.toList, False) → gG p l e rm s m args below meth c D A maxL (vx_MQ below (Qf A) (Xf A) args s mc ms A) 0 0 0 lv0 [] wc) :
    ∀ sz, vx_Met l y (ws_ y bytes maxL ret) rm (va_Pc av (hPreXE adK adV D tys wc sz)) (Qf (va_A wc sz)) (Xf (va_A wc sz)) mc ms (va_A wc sz) := by
  intro sz
  refine vx_ofW (cc := bytes) (maxL := maxL) (ret := ret) hy rfl ?_
  intro p e s m args below meth c s₁ B hml hT hv
  obtain ⟨rfl, ⟨⟨hsz, hP, hK, hD0, hN⟩, hZ0⟩, hE0⟩ := hv
  subst hsz
  have hts := atoms_spec (ws := ws_ y bytes maxL ret) B.pre
  have hown := findClass_of_methodNamed B.named
  have hD := hD0.self (sz := s.heap.size)
  have C0 : gC y.cls bytes maxL ret p s m av.toArray meth c D tys (va_A wc s.heap.size) := ⟨⟨B.exec, B.bytes, hml, hown, fun w h => hts w (List.mem_cons_of_mem _ h)⟩, hK, fun q h => Or.inr h, B.returns, B.notSynchronized, hN⟩
  have hl := lv_entry av (n := maxL) hlen
  rw [hlv] at hl
  rw [lg_entry_eq]
  exact body C0 hE0 hZ0 hT s.heap [] _ hP hD va_S.rf hl
