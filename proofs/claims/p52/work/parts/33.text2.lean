/-! numbers into builders, builders into texts, new builders -/
section GD
variable {p : Program} {l : Launch} {e : Env} {R : Room} {s : State} {m : MethodId} {args : Array Value} {below : List Frame} {meth : Method} {c : Code} {D : va_G} {tys : List (ClassId × FieldType)} {A : Nat → Prop} {own : String} {cc : ByteArray} {nL : Nat} {ret0 : Option FieldType} {Q : State → Prop} {pc : Nat} {lv lv' : List (Nat × Value)} {st : List Value} {ws ws' : va_W} {kk nn : Nat}
theorem g_digO (C0 : gC own cc nL ret0 p s m args meth c D tys A) (E0 : jE A s) {index : Nat} (hlink : Cond.fieldLink own index RJ6 "DigitOnes" "[B" ∈ hAll) (hdg : decode cc pc = .ok (.getstatic index, 3)) (k : ∀ q : Nat, va_T .byte q 100 (fun j => .int (dgO j)) A s s.heap → gG p l e R s m args below meth c D A nL Q kk nn (pc + 3) lv (.ref q :: st) ws) : gG p l e R s m args below meth c D A nL Q kk nn pc lv st ws := by
  obtain ⟨a1, a2, ⟨h1, h2⟩, h3, h4⟩ := E0.2.2.2
  exact g_getS C0 h1 hlink hdg (k a1 h2)
theorem g_digT (C0 : gC own cc nL ret0 p s m args meth c D tys A) (E0 : jE A s) {index : Nat} (hlink : Cond.fieldLink own index RJ6 "DigitTens" "[B" ∈ hAll) (hdg : decode cc pc = .ok (.getstatic index, 3)) (k : ∀ q : Nat, va_T .byte q 100 (fun j => .int (dgT j)) A s s.heap → gG p l e R s m args below meth c D A nL Q kk nn (pc + 3) lv (.ref q :: st) ws) : gG p l e R s m args below meth c D A nL Q kk nn pc lv st ws := by
  obtain ⟨a1, a2, ⟨h1, h2⟩, h3, h4⟩ := E0.2.2.2
  exact g_getS C0 h3 hlink hdg (k a2 h4)
/-- a call of what overrides or bridges what the reference names -/
theorem g_xOi {α : Type} {w1 : α → va_W} {r0 : Int32} {C owner : String} {x y : MethodName} {bytes : ByteArray} {maxL n index mc ms : Nat} {ret : Option FieldType} {rm : Room} {E : (Nat → Prop) → State → Prop} {X pl wc wr : va_W} {As : List Value} {st0 : List Value} {b : Nat} (C0 : gC own cc nL ret0 p s m args meth c D tys A) (hE : hEok E) (hE0 : ∀ (H : Heap) (locs : List Loc), va_P D vwCl ws H → va_D A ws → va_S A s.heap H locs → (∀ q, va_A wc H.size q → A q) → ∀ U : State, U.heap = H → s.WarmedH U.vm → E (va_A wc H.size) U) (hrv : ∀ (H : Heap) (locs : List Loc), va_P D vwCl ws H → va_S A s.heap H locs → ∃ cellB : Cell, H[b]? = some cellB ∧ cellB.vm.isStatics = false ∧ s.vm.findClass C = some cellB.cls) (hM : ∀ sz, Met l y (ws_ y bytes maxL ret) rm (va_Pc (.ref b :: As) (hPreE E D tys wc sz)) (hQni D r0 w1 (va_A wc sz)) mc ms (va_A wc sz)) (hG : GoodIn hAll (va_wsO own index C owner x y (ws_ y bytes maxL ret))) {b0 : ByteArray} {m0 : Nat} {rt0 : Option FieldType} (h0 : Cond.code ⟨owner, x.name, x.desc⟩ b0 m0 rt0 ∈ hAll) (hd : owner ≠ "java/lang/invoke/MethodHandle" ∧ owner ≠ "java/lang/invoke/VarHandle" ∧ (parseMethodDescriptor x.desc).map (fun d => d.parameters.length) = some n) (hR : rm.frames + 1 ≤ R.frames ∧ 8 + (maxL + 11) + rm.locals ≤ R.locals) (hrc : rm.cells = mc) (hrs : rm.slots = ms) (hRc : kk + mc ≤ R.cells ∧ nn + ms ≤ R.slots) (e1 : ws = List.append X pl) (isC isR : List Nat) (hC : isC.map (fun i => X[i]?) = wc.map some) (hRr : isR.map (fun i => X[i]?) = wr.map some) (hndC : va_nd isC = true) (hndR : va_nd isR = true) (hdis : ∀ i ∈ isR, i ∉ isC) (hn : As.length = n) (hst : st0 = As.reverse ++ .ref b :: st) (hW : (st.map fun v => v.category).sum ≤ 8) (hdg : decode cc pc = .ok (.invokevirtual index, 3)) (k : ∀ u : α, gG p l e R s m args below meth c D A nL Q (kk + mc) (nn + ms) (pc + 3) lv (.int r0 :: st) (List.append (List.append wr (w1 u)) pl)) : gG p l e R s m args below meth c D A nL Q kk nn pc lv st0 ws := by
  subst e1
  intro H locs ls hP hD hS hl
  have hPc := hl_Psub (hl_PL hP) isC hC
  have hDc := (hl_DL hD).sub isC hndC hC
  have hFc := va_free (hl_DL hD) hS (gC_A C0) isC hC
  have hE1 := hE0 H locs hP hD hS hFc
  refine va_calli (va_runU (As := As) (rest := st) C0.1 (hM H.size) (va_cwO n (gC_t C0) hG rfl hrc hrs h0 hd hR) ⟨hPreE_blind hE, hrv H locs hP hS, fun U hU hW => ⟨rfl, ⟨by rw [hU], by rw [hU]; exact hPc, va_K.moved hW.alike (gC_K C0), hDc.weaken (fun _ _ _ _ => trivial), hNw_warm hW (gC_n C0)⟩, hE1 U hU hW⟩⟩ rfl hn hl.1 hst (lv_room hW) hdg hRc) hS (fun q _ h => hFc q h) hFc (fun r u t H1 locs1 ht hvm hw hB hz1 hk1 hS1 => ?_)
  obtain ⟨u, hB1, hB2⟩ := hB
  rw [ht] at hB1
  obtain ⟨hP1, hD1⟩ := va_joinQ (wr := wr) (w1 := w1 u) hP hD isC isR hC hRr hndR hdis hk1 hFc hB1 hB2
  subst hw
  exact k u H1 locs1 ls hP1 hD1 hS1 hl
end GD
/-! java/lang/Integer.stringSize(I)I: 33 instructions -/
def fJ6_stringSize_0f7a4_16  : Nat → Int32 → Int32 → Int32 → Int32 → Option (Int32)
  | 0, _, _, _, _ => none
  | n + 1, v0, v1, v2, v3 => if (10 : Int32) ≤ v3 then (some ((10 : Int32) + v1)) else (if v0 ≤ v2 then (fJ6_stringSize_0f7a4_16 n v0 v1 ((10 : Int32) * v2) (v3 + (1 : Int32))) else (some (v3 + v1)))
def fJ6_stringSize_0f7a4_11  (v0 : Int32) (v1 : Int32) : Option (Int32) := fJ6_stringSize_0f7a4_16 1000 v0 v1 (-10 : Int32) (1 : Int32)
def fJ6_stringSize_0f7a4  (x0 : Int32) : Option (Int32) := if x0 < 0 then (fJ6_stringSize_0f7a4_11 x0 (1 : Int32)) else (fJ6_stringSize_0f7a4_11 (-x0) (0 : Int32))
abbrev rmJ6_stringSize_0f7a4 : Room := { frames := 0, cells := 0, slots := 0, locals := 0 }
theorem hmJ6_stringSize_0f7a4 : hMS yJ6_stringSize_0f7a4 cJ6_stringSize_0f7a4 4 (some .int) 1 := ⟨q_1048, q_37, q_1047, by decide, by decide, by decide +kernel⟩
theorem dJ6_stringSize_0f7a4_0 : decode cJ6_stringSize_0f7a4 0 = .ok (.iconst 1, 1) := by decide +kernel
theorem dJ6_stringSize_0f7a4_1 : decode cJ6_stringSize_0f7a4 1 = .ok (.istore_n 1, 1) := by decide +kernel
theorem dJ6_stringSize_0f7a4_2 : decode cJ6_stringSize_0f7a4 2 = .ok (.iload_n 0, 1) := by decide +kernel
theorem dJ6_stringSize_0f7a4_3 : decode cJ6_stringSize_0f7a4 3 = .ok (.ifCond .lt 8, 3) := by decide +kernel
theorem dJ6_stringSize_0f7a4_6 : decode cJ6_stringSize_0f7a4 6 = .ok (.iconst 0, 1) := by decide +kernel
theorem dJ6_stringSize_0f7a4_7 : decode cJ6_stringSize_0f7a4 7 = .ok (.istore_n 1, 1) := by decide +kernel
theorem dJ6_stringSize_0f7a4_8 : decode cJ6_stringSize_0f7a4 8 = .ok (.iload_n 0, 1) := by decide +kernel
theorem dJ6_stringSize_0f7a4_9 : decode cJ6_stringSize_0f7a4 9 = .ok (.ineg, 1) := by decide +kernel
theorem dJ6_stringSize_0f7a4_10 : decode cJ6_stringSize_0f7a4 10 = .ok (.istore_n 0, 1) := by decide +kernel
theorem dJ6_stringSize_0f7a4_11 : decode cJ6_stringSize_0f7a4 11 = .ok (.bipush (-10), 2) := by decide +kernel
theorem dJ6_stringSize_0f7a4_13 : decode cJ6_stringSize_0f7a4 13 = .ok (.istore_n 2, 1) := by decide +kernel
theorem dJ6_stringSize_0f7a4_14 : decode cJ6_stringSize_0f7a4 14 = .ok (.iconst 1, 1) := by decide +kernel
theorem dJ6_stringSize_0f7a4_15 : decode cJ6_stringSize_0f7a4 15 = .ok (.istore_n 3, 1) := by decide +kernel
theorem dJ6_stringSize_0f7a4_16 : decode cJ6_stringSize_0f7a4 16 = .ok (.iload_n 3, 1) := by decide +kernel
theorem dJ6_stringSize_0f7a4_17 : decode cJ6_stringSize_0f7a4 17 = .ok (.bipush 10, 2) := by decide +kernel
theorem dJ6_stringSize_0f7a4_19 : decode cJ6_stringSize_0f7a4 19 = .ok (.if_icmp .ge 23, 3) := by decide +kernel
theorem dJ6_stringSize_0f7a4_22 : decode cJ6_stringSize_0f7a4 22 = .ok (.iload_n 0, 1) := by decide +kernel
theorem dJ6_stringSize_0f7a4_23 : decode cJ6_stringSize_0f7a4 23 = .ok (.iload_n 2, 1) := by decide +kernel
theorem dJ6_stringSize_0f7a4_24 : decode cJ6_stringSize_0f7a4 24 = .ok (.if_icmp .le 7, 3) := by decide +kernel
theorem dJ6_stringSize_0f7a4_27 : decode cJ6_stringSize_0f7a4 27 = .ok (.iload_n 3, 1) := by decide +kernel
theorem dJ6_stringSize_0f7a4_28 : decode cJ6_stringSize_0f7a4 28 = .ok (.iload_n 1, 1) := by decide +kernel
theorem dJ6_stringSize_0f7a4_29 : decode cJ6_stringSize_0f7a4 29 = .ok (.iadd, 1) := by decide +kernel
theorem dJ6_stringSize_0f7a4_30 : decode cJ6_stringSize_0f7a4 30 = .ok (.ireturn, 1) := by decide +kernel
theorem dJ6_stringSize_0f7a4_31 : decode cJ6_stringSize_0f7a4 31 = .ok (.bipush 10, 2) := by decide +kernel
theorem dJ6_stringSize_0f7a4_33 : decode cJ6_stringSize_0f7a4 33 = .ok (.iload_n 2, 1) := by decide +kernel
theorem dJ6_stringSize_0f7a4_34 : decode cJ6_stringSize_0f7a4 34 = .ok (.imul, 1) := by decide +kernel
theorem dJ6_stringSize_0f7a4_35 : decode cJ6_stringSize_0f7a4 35 = .ok (.istore_n 2, 1) := by decide +kernel
theorem dJ6_stringSize_0f7a4_36 : decode cJ6_stringSize_0f7a4 36 = .ok (.iinc 3 1, 3) := by decide +kernel
theorem dJ6_stringSize_0f7a4_39 : decode cJ6_stringSize_0f7a4 39 = .ok (.goto (-23), 3) := by decide +kernel
theorem dJ6_stringSize_0f7a4_42 : decode cJ6_stringSize_0f7a4 42 = .ok (.bipush 10, 2) := by decide +kernel
theorem dJ6_stringSize_0f7a4_44 : decode cJ6_stringSize_0f7a4 44 = .ok (.iload_n 1, 1) := by decide +kernel
theorem dJ6_stringSize_0f7a4_45 : decode cJ6_stringSize_0f7a4 45 = .ok (.iadd, 1) := by decide +kernel
theorem dJ6_stringSize_0f7a4_46 : decode cJ6_stringSize_0f7a4 46 = .ok (.ireturn, 1) := by decide +kernel
set_option maxHeartbeats 4000000 in
set_option maxRecDepth 100000 in
theorem bJ6_stringSize_0f7a4_16 {p : Program} {l : Launch} {e : Env} {s : State} {m : MethodId} {args : Array Value} {below : List Frame} {meth : Method} {c : Code} {D : va_G} {cB cC cI cO : ClassId} {A : Nat → Prop} (C0 : gC RJ6 cJ6_stringSize_0f7a4 4 (some .int) p s m args meth c D (hTy cB cC cI cO) A)  (out : Int32)    : ∀ (n : Nat) (v0 : Int32) (v1 : Int32) (v2 : Int32) (v3 : Int32), fJ6_stringSize_0f7a4_16 n v0 v1 v2 v3 = some out → gG p l e rmJ6_stringSize_0f7a4 s m args below meth c D A 4 (MQ below (hQi D [] out A) args s 0 0 A) 0 0 16 [(0, .int v0), (1, .int v1), (2, .int v2), (3, .int v3)] [] [] := by
  intro n
  induction n with
  | zero => intro v0 v1 v2 v3 hf; rw [fJ6_stringSize_0f7a4_16] at hf; cases hf
  | succ n ih =>
    intro v0 v1 v2 v3 hf
    rw [fJ6_stringSize_0f7a4_16] at hf
    refine g_iload_n C0 dJ6_stringSize_0f7a4_16 rfl 3 rfl ?_
    refine g_bipush C0 (v := (10 : Int32)) dJ6_stringSize_0f7a4_17 (by decide) ?_
    refine g_icmp_ge C0 (tgt := 42) dJ6_stringSize_0f7a4_19 (by decide) (fun c2 => ?_) (fun c2 => ?_)
    · rw [if_pos c2] at hf
      refine g_bipush C0 (v := (10 : Int32)) dJ6_stringSize_0f7a4_42 (by decide) ?_
      refine g_iload_n C0 dJ6_stringSize_0f7a4_44 rfl 1 rfl ?_
      refine g_iadd C0 dJ6_stringSize_0f7a4_45 ?_
      cases hf
      exact g_iret C0 rfl dJ6_stringSize_0f7a4_46 rfl rfl
    · rw [if_neg c2] at hf
      refine g_iload_n C0 dJ6_stringSize_0f7a4_22 rfl 0 rfl ?_
      refine g_iload_n C0 dJ6_stringSize_0f7a4_23 rfl 2 rfl ?_
      refine g_icmp_le C0 (tgt := 31) dJ6_stringSize_0f7a4_24 (by decide) (fun c3 => ?_) (fun c3 => ?_)
      · rw [if_pos c3] at hf
        refine g_bipush C0 (v := (10 : Int32)) dJ6_stringSize_0f7a4_31 (by decide) ?_
        refine g_iload_n C0 dJ6_stringSize_0f7a4_33 rfl 2 rfl ?_
        refine g_imul C0 dJ6_stringSize_0f7a4_34 ?_
        refine g_istore_n C0 (lv' := [(2, .int ((10 : Int32) * v2)), (0, .int v0), (1, .int v1), (3, .int v3)]) dJ6_stringSize_0f7a4_35 rfl (by decide) rfl ?_
        refine g_iinc C0 (lv' := [(3, .int (v3 + (1 : Int32))), (2, .int ((10 : Int32) * v2)), (0, .int v0), (1, .int v1)]) dJ6_stringSize_0f7a4_36 3 rfl rfl (by decide) rfl ?_
        refine g_goto C0 (tgt := 16) dJ6_stringSize_0f7a4_39 (by decide) ?_
        refine g_lv [2, 3, 1, 0] (lv' := [(0, .int v0), (1, .int v1), (2, .int ((10 : Int32) * v2)), (3, .int (v3 + (1 : Int32)))]) rfl ?_
        exact ih v0 v1 ((10 : Int32) * v2) (v3 + (1 : Int32)) hf
      · rw [if_neg c3] at hf
        refine g_iload_n C0 dJ6_stringSize_0f7a4_27 rfl 3 rfl ?_
        refine g_iload_n C0 dJ6_stringSize_0f7a4_28 rfl 1 rfl ?_
        refine g_iadd C0 dJ6_stringSize_0f7a4_29 ?_
        cases hf
        exact g_iret C0 rfl dJ6_stringSize_0f7a4_30 rfl rfl
set_option maxHeartbeats 4000000 in
set_option maxRecDepth 100000 in
theorem bJ6_stringSize_0f7a4_11 {p : Program} {l : Launch} {e : Env} {s : State} {m : MethodId} {args : Array Value} {below : List Frame} {meth : Method} {c : Code} {D : va_G} {cB cC cI cO : ClassId} {A : Nat → Prop} (C0 : gC RJ6 cJ6_stringSize_0f7a4 4 (some .int) p s m args meth c D (hTy cB cC cI cO) A)  (out : Int32)    : ∀ (v0 : Int32) (v1 : Int32), fJ6_stringSize_0f7a4_11 v0 v1 = some out → gG p l e rmJ6_stringSize_0f7a4 s m args below meth c D A 4 (MQ below (hQi D [] out A) args s 0 0 A) 0 0 11 [(0, .int v0), (1, .int v1)] [] [] := by
  intro v0 v1 hf
  unfold fJ6_stringSize_0f7a4_11 at hf
  refine g_bipush C0 (v := (-10 : Int32)) dJ6_stringSize_0f7a4_11 (by decide) ?_
  refine g_istore_n C0 (lv' := [(2, .int (-10 : Int32)), (0, .int v0), (1, .int v1)]) dJ6_stringSize_0f7a4_13 rfl (by decide) rfl ?_
  refine g_iconst C0 (v := (1 : Int32)) dJ6_stringSize_0f7a4_14 (by decide) ?_
  refine g_istore_n C0 (lv' := [(3, .int (1 : Int32)), (2, .int (-10 : Int32)), (0, .int v0), (1, .int v1)]) dJ6_stringSize_0f7a4_15 rfl (by decide) rfl ?_
  refine g_lv [2, 3, 1, 0] (lv' := [(0, .int v0), (1, .int v1), (2, .int (-10 : Int32)), (3, .int (1 : Int32))]) rfl ?_
  exact bJ6_stringSize_0f7a4_16 C0  out   1000 v0 v1 (-10 : Int32) (1 : Int32) hf
set_option maxHeartbeats 4000000 in
set_option maxRecDepth 100000 in
theorem bJ6_stringSize_0f7a4 {p : Program} {l : Launch} {e : Env} {s : State} {m : MethodId} {args : Array Value} {below : List Frame} {meth : Method} {c : Code} {D : va_G} {cB cC cI cO : ClassId} {A : Nat → Prop} (C0 : gC RJ6 cJ6_stringSize_0f7a4 4 (some .int) p s m args meth c D (hTy cB cC cI cO) A)  (out : Int32)  (x0 : Int32) (hf : fJ6_stringSize_0f7a4 x0 = some out) : gG p l e rmJ6_stringSize_0f7a4 s m args below meth c D A 4 (MQ below (hQi D [] out A) args s 0 0 A) 0 0 0 [(0, .int x0)] [] [] := by
  unfold fJ6_stringSize_0f7a4 at hf
  refine g_iconst C0 (v := (1 : Int32)) dJ6_stringSize_0f7a4_0 (by decide) ?_
  refine g_istore_n C0 (lv' := [(1, .int (1 : Int32)), (0, .int x0)]) dJ6_stringSize_0f7a4_1 rfl (by decide) rfl ?_
  refine g_iload_n C0 dJ6_stringSize_0f7a4_2 rfl 1 rfl ?_
  refine g_if_lt C0 (tgt := 11) dJ6_stringSize_0f7a4_3 (by decide) (fun c1 => ?_) (fun c1 => ?_)
  · rw [if_pos c1] at hf
    refine g_lv [1, 0] (lv' := [(0, .int x0), (1, .int (1 : Int32))]) rfl ?_
    exact bJ6_stringSize_0f7a4_11 C0  out   x0 (1 : Int32) hf
  · rw [if_neg c1] at hf
    refine g_iconst C0 (v := (0 : Int32)) dJ6_stringSize_0f7a4_6 (by decide) ?_
    refine g_istore_n C0 (lv' := [(1, .int (0 : Int32)), (0, .int x0)]) dJ6_stringSize_0f7a4_7 rfl (by decide) rfl ?_
    refine g_iload_n C0 dJ6_stringSize_0f7a4_8 rfl 1 rfl ?_
    refine g_ineg C0 dJ6_stringSize_0f7a4_9 ?_
    refine g_istore_n C0 (lv' := [(0, .int (-x0)), (1, .int (0 : Int32))]) dJ6_stringSize_0f7a4_10 rfl (by decide) rfl ?_
    refine g_lv [0, 1] (lv' := [(0, .int (-x0)), (1, .int (0 : Int32))]) rfl ?_
    exact bJ6_stringSize_0f7a4_11 C0  out   (-x0) (0 : Int32) hf
theorem mJ6_stringSize_0f7a4 (l : Launch) (D : va_G) (cB cC cI cO : ClassId)    (x0 : Int32) (out : Int32) (hf : fJ6_stringSize_0f7a4 x0 = some out) : ∀ sz, Met l yJ6_stringSize_0f7a4 (ws_ yJ6_stringSize_0f7a4 cJ6_stringSize_0f7a4 4 (some .int)) rmJ6_stringSize_0f7a4 (va_Pc [.int x0] (hPre D (hTy cB cC cI cO) [] sz)) (hQi D [] out (va_A [] sz)) 0 0 (va_A [] sz) :=
  g_met (Qf := fun A => hQi D [] out A) (by decide +kernel) (Nat.le_of_ble_eq_true rfl) rfl (fun C0 => bJ6_stringSize_0f7a4 C0  out  x0 hf)
/-! java/lang/Integer.getChars(II[B)I: 71 instructions -/
def fJ6_getChars_ba4f3_22 (an : Nat) : Nat → (Nat → Int32) → Int32 → Int32 → Int32 → Option (Int32 × (Nat → Int32))
  | 0, _, _, _, _ => none
  | n + 1, aF, v0, v5, v6 => if (-100 : Int32) < v0 then (if hl_in (-v0) 100 = true then (if hl_in (v5 + (-1 : Int32)) an = true then (if (-9 : Int32) ≤ v0 then (if v6 = 0 then (some (v5 + (-1 : Int32), upd aF (v5 + (-1 : Int32)).toNatClampNeg (vp_nar .byte (dgO (-v0).toNatClampNeg)))) else (if hl_in ((v5 + (-1 : Int32)) + (-1 : Int32)) an = true then (some ((v5 + (-1 : Int32)) + (-1 : Int32), upd (upd aF (v5 + (-1 : Int32)).toNatClampNeg (vp_nar .byte (dgO (-v0).toNatClampNeg))) ((v5 + (-1 : Int32)) + (-1 : Int32)).toNatClampNeg (vp_nar .byte (45 : Int32)))) else none)) else (if hl_in (-v0) 100 = true then (if hl_in ((v5 + (-1 : Int32)) + (-1 : Int32)) an = true then (if v6 = 0 then (some ((v5 + (-1 : Int32)) + (-1 : Int32), upd (upd aF (v5 + (-1 : Int32)).toNatClampNeg (vp_nar .byte (dgO (-v0).toNatClampNeg))) ((v5 + (-1 : Int32)) + (-1 : Int32)).toNatClampNeg (vp_nar .byte (dgT (-v0).toNatClampNeg)))) else (if hl_in (((v5 + (-1 : Int32)) + (-1 : Int32)) + (-1 : Int32)) an = true then (some (((v5 + (-1 : Int32)) + (-1 : Int32)) + (-1 : Int32), upd (upd (upd aF (v5 + (-1 : Int32)).toNatClampNeg (vp_nar .byte (dgO (-v0).toNatClampNeg))) ((v5 + (-1 : Int32)) + (-1 : Int32)).toNatClampNeg (vp_nar .byte (dgT (-v0).toNatClampNeg))) (((v5 + (-1 : Int32)) + (-1 : Int32)) + (-1 : Int32)).toNatClampNeg (vp_nar .byte (45 : Int32)))) else none)) else none) else none)) else none) else none) else (if hl_in (((v0 / (100 : Int32)) * (100 : Int32)) - v0) 100 = true then (if hl_in (v5 + (-1 : Int32)) an = true then (if hl_in (((v0 / (100 : Int32)) * (100 : Int32)) - v0) 100 = true then (if hl_in ((v5 + (-1 : Int32)) + (-1 : Int32)) an = true then (fJ6_getChars_ba4f3_22 an n (upd (upd aF (v5 + (-1 : Int32)).toNatClampNeg (vp_nar .byte (dgO (((v0 / (100 : Int32)) * (100 : Int32)) - v0).toNatClampNeg))) ((v5 + (-1 : Int32)) + (-1 : Int32)).toNatClampNeg (vp_nar .byte (dgT (((v0 / (100 : Int32)) * (100 : Int32)) - v0).toNatClampNeg))) (v0 / (100 : Int32)) ((v5 + (-1 : Int32)) + (-1 : Int32)) v6) else none) else none) else none) else none)
def fJ6_getChars_ba4f3_12 (an : Nat) (aF : Nat → Int32) (v0 : Int32) (v5 : Int32) (k0 : Int32) : Option (Int32 × (Nat → Int32)) := if k0 = 0 then (fJ6_getChars_ba4f3_22 an 1000 aF (-v0) v5 k0) else (fJ6_getChars_ba4f3_22 an 1000 aF v0 v5 k0)
def fJ6_getChars_ba4f3 (an : Nat) (aF : Nat → Int32) (x0 : Int32) (x1 : Int32) : Option (Int32 × (Nat → Int32)) := if 0 ≤ x0 then (fJ6_getChars_ba4f3_12 an aF x0 x1 (0 : Int32)) else (fJ6_getChars_ba4f3_12 an aF x0 x1 (1 : Int32))
abbrev rmJ6_getChars_ba4f3 : Room := { frames := 0, cells := 0, slots := 0, locals := 0 }
theorem hmJ6_getChars_ba4f3 : hMS yJ6_getChars_ba4f3 cJ6_getChars_ba4f3 7 (some .int) 3 := ⟨q_1051, q_37, q_1050, by decide, by decide, by decide +kernel⟩
theorem dJ6_getChars_ba4f3_0 : decode cJ6_getChars_ba4f3 0 = .ok (.iload_n 1, 1) := by decide +kernel
theorem dJ6_getChars_ba4f3_1 : decode cJ6_getChars_ba4f3 1 = .ok (.istore 5, 2) := by decide +kernel
theorem dJ6_getChars_ba4f3_3 : decode cJ6_getChars_ba4f3 3 = .ok (.iload_n 0, 1) := by decide +kernel
theorem dJ6_getChars_ba4f3_4 : decode cJ6_getChars_ba4f3 4 = .ok (.ifCond .ge 7, 3) := by decide +kernel
theorem dJ6_getChars_ba4f3_7 : decode cJ6_getChars_ba4f3 7 = .ok (.iconst 1, 1) := by decide +kernel
theorem dJ6_getChars_ba4f3_8 : decode cJ6_getChars_ba4f3 8 = .ok (.goto 4, 3) := by decide +kernel
theorem dJ6_getChars_ba4f3_11 : decode cJ6_getChars_ba4f3 11 = .ok (.iconst 0, 1) := by decide +kernel
theorem dJ6_getChars_ba4f3_12 : decode cJ6_getChars_ba4f3 12 = .ok (.istore 6, 2) := by decide +kernel
theorem dJ6_getChars_ba4f3_14 : decode cJ6_getChars_ba4f3 14 = .ok (.iload 6, 2) := by decide +kernel
theorem dJ6_getChars_ba4f3_16 : decode cJ6_getChars_ba4f3 16 = .ok (.ifCond .ne 6, 3) := by decide +kernel
theorem dJ6_getChars_ba4f3_19 : decode cJ6_getChars_ba4f3 19 = .ok (.iload_n 0, 1) := by decide +kernel
theorem dJ6_getChars_ba4f3_20 : decode cJ6_getChars_ba4f3 20 = .ok (.ineg, 1) := by decide +kernel
theorem dJ6_getChars_ba4f3_21 : decode cJ6_getChars_ba4f3 21 = .ok (.istore_n 0, 1) := by decide +kernel
theorem dJ6_getChars_ba4f3_22 : decode cJ6_getChars_ba4f3 22 = .ok (.iload_n 0, 1) := by decide +kernel
theorem dJ6_getChars_ba4f3_23 : decode cJ6_getChars_ba4f3 23 = .ok (.bipush (-100), 2) := by decide +kernel
theorem dJ6_getChars_ba4f3_25 : decode cJ6_getChars_ba4f3 25 = .ok (.if_icmp .gt 47, 3) := by decide +kernel
theorem dJ6_getChars_ba4f3_28 : decode cJ6_getChars_ba4f3 28 = .ok (.iload_n 0, 1) := by decide +kernel
theorem dJ6_getChars_ba4f3_29 : decode cJ6_getChars_ba4f3 29 = .ok (.bipush 100, 2) := by decide +kernel
theorem dJ6_getChars_ba4f3_31 : decode cJ6_getChars_ba4f3 31 = .ok (.idiv, 1) := by decide +kernel
theorem dJ6_getChars_ba4f3_32 : decode cJ6_getChars_ba4f3 32 = .ok (.istore_n 3, 1) := by decide +kernel
theorem dJ6_getChars_ba4f3_33 : decode cJ6_getChars_ba4f3 33 = .ok (.iload_n 3, 1) := by decide +kernel
theorem dJ6_getChars_ba4f3_34 : decode cJ6_getChars_ba4f3 34 = .ok (.bipush 100, 2) := by decide +kernel
theorem dJ6_getChars_ba4f3_36 : decode cJ6_getChars_ba4f3 36 = .ok (.imul, 1) := by decide +kernel
theorem dJ6_getChars_ba4f3_37 : decode cJ6_getChars_ba4f3 37 = .ok (.iload_n 0, 1) := by decide +kernel
theorem dJ6_getChars_ba4f3_38 : decode cJ6_getChars_ba4f3 38 = .ok (.isub, 1) := by decide +kernel
theorem dJ6_getChars_ba4f3_39 : decode cJ6_getChars_ba4f3 39 = .ok (.istore 4, 2) := by decide +kernel
theorem dJ6_getChars_ba4f3_41 : decode cJ6_getChars_ba4f3 41 = .ok (.iload_n 3, 1) := by decide +kernel
theorem dJ6_getChars_ba4f3_42 : decode cJ6_getChars_ba4f3 42 = .ok (.istore_n 0, 1) := by decide +kernel
theorem dJ6_getChars_ba4f3_43 : decode cJ6_getChars_ba4f3 43 = .ok (.aload_n 2, 1) := by decide +kernel
theorem dJ6_getChars_ba4f3_44 : decode cJ6_getChars_ba4f3 44 = .ok (.iinc 5 (-1), 3) := by decide +kernel
theorem dJ6_getChars_ba4f3_47 : decode cJ6_getChars_ba4f3 47 = .ok (.iload 5, 2) := by decide +kernel
theorem dJ6_getChars_ba4f3_49 : decode cJ6_getChars_ba4f3 49 = .ok (.getstatic 83, 3) := by decide +kernel
theorem dJ6_getChars_ba4f3_52 : decode cJ6_getChars_ba4f3 52 = .ok (.iload 4, 2) := by decide +kernel
theorem dJ6_getChars_ba4f3_54 : decode cJ6_getChars_ba4f3 54 = .ok (.baload, 1) := by decide +kernel
theorem dJ6_getChars_ba4f3_55 : decode cJ6_getChars_ba4f3 55 = .ok (.bastore, 1) := by decide +kernel
theorem dJ6_getChars_ba4f3_56 : decode cJ6_getChars_ba4f3 56 = .ok (.aload_n 2, 1) := by decide +kernel
theorem dJ6_getChars_ba4f3_57 : decode cJ6_getChars_ba4f3 57 = .ok (.iinc 5 (-1), 3) := by decide +kernel
theorem dJ6_getChars_ba4f3_60 : decode cJ6_getChars_ba4f3 60 = .ok (.iload 5, 2) := by decide +kernel
theorem dJ6_getChars_ba4f3_62 : decode cJ6_getChars_ba4f3 62 = .ok (.getstatic 87, 3) := by decide +kernel
theorem dJ6_getChars_ba4f3_65 : decode cJ6_getChars_ba4f3 65 = .ok (.iload 4, 2) := by decide +kernel
theorem dJ6_getChars_ba4f3_67 : decode cJ6_getChars_ba4f3 67 = .ok (.baload, 1) := by decide +kernel
theorem dJ6_getChars_ba4f3_68 : decode cJ6_getChars_ba4f3 68 = .ok (.bastore, 1) := by decide +kernel
theorem dJ6_getChars_ba4f3_69 : decode cJ6_getChars_ba4f3 69 = .ok (.goto (-47), 3) := by decide +kernel
theorem dJ6_getChars_ba4f3_72 : decode cJ6_getChars_ba4f3 72 = .ok (.aload_n 2, 1) := by decide +kernel
theorem dJ6_getChars_ba4f3_73 : decode cJ6_getChars_ba4f3 73 = .ok (.iinc 5 (-1), 3) := by decide +kernel
theorem dJ6_getChars_ba4f3_76 : decode cJ6_getChars_ba4f3 76 = .ok (.iload 5, 2) := by decide +kernel
theorem dJ6_getChars_ba4f3_78 : decode cJ6_getChars_ba4f3 78 = .ok (.getstatic 83, 3) := by decide +kernel
theorem dJ6_getChars_ba4f3_81 : decode cJ6_getChars_ba4f3 81 = .ok (.iload_n 0, 1) := by decide +kernel
theorem dJ6_getChars_ba4f3_82 : decode cJ6_getChars_ba4f3 82 = .ok (.ineg, 1) := by decide +kernel
theorem dJ6_getChars_ba4f3_83 : decode cJ6_getChars_ba4f3 83 = .ok (.baload, 1) := by decide +kernel
theorem dJ6_getChars_ba4f3_84 : decode cJ6_getChars_ba4f3 84 = .ok (.bastore, 1) := by decide +kernel
theorem dJ6_getChars_ba4f3_85 : decode cJ6_getChars_ba4f3 85 = .ok (.iload_n 0, 1) := by decide +kernel
theorem dJ6_getChars_ba4f3_86 : decode cJ6_getChars_ba4f3 86 = .ok (.bipush (-9), 2) := by decide +kernel
theorem dJ6_getChars_ba4f3_88 : decode cJ6_getChars_ba4f3 88 = .ok (.if_icmp .ge 16, 3) := by decide +kernel
theorem dJ6_getChars_ba4f3_91 : decode cJ6_getChars_ba4f3 91 = .ok (.aload_n 2, 1) := by decide +kernel
theorem dJ6_getChars_ba4f3_92 : decode cJ6_getChars_ba4f3 92 = .ok (.iinc 5 (-1), 3) := by decide +kernel
theorem dJ6_getChars_ba4f3_95 : decode cJ6_getChars_ba4f3 95 = .ok (.iload 5, 2) := by decide +kernel
theorem dJ6_getChars_ba4f3_97 : decode cJ6_getChars_ba4f3 97 = .ok (.getstatic 87, 3) := by decide +kernel
theorem dJ6_getChars_ba4f3_100 : decode cJ6_getChars_ba4f3 100 = .ok (.iload_n 0, 1) := by decide +kernel
theorem dJ6_getChars_ba4f3_101 : decode cJ6_getChars_ba4f3 101 = .ok (.ineg, 1) := by decide +kernel
theorem dJ6_getChars_ba4f3_102 : decode cJ6_getChars_ba4f3 102 = .ok (.baload, 1) := by decide +kernel
theorem dJ6_getChars_ba4f3_103 : decode cJ6_getChars_ba4f3 103 = .ok (.bastore, 1) := by decide +kernel
theorem dJ6_getChars_ba4f3_104 : decode cJ6_getChars_ba4f3 104 = .ok (.iload 6, 2) := by decide +kernel
theorem dJ6_getChars_ba4f3_106 : decode cJ6_getChars_ba4f3 106 = .ok (.ifCond .eq 12, 3) := by decide +kernel
theorem dJ6_getChars_ba4f3_109 : decode cJ6_getChars_ba4f3 109 = .ok (.aload_n 2, 1) := by decide +kernel
theorem dJ6_getChars_ba4f3_110 : decode cJ6_getChars_ba4f3 110 = .ok (.iinc 5 (-1), 3) := by decide +kernel
theorem dJ6_getChars_ba4f3_113 : decode cJ6_getChars_ba4f3 113 = .ok (.iload 5, 2) := by decide +kernel
theorem dJ6_getChars_ba4f3_115 : decode cJ6_getChars_ba4f3 115 = .ok (.bipush 45, 2) := by decide +kernel
theorem dJ6_getChars_ba4f3_117 : decode cJ6_getChars_ba4f3 117 = .ok (.bastore, 1) := by decide +kernel
theorem dJ6_getChars_ba4f3_118 : decode cJ6_getChars_ba4f3 118 = .ok (.iload 5, 2) := by decide +kernel
theorem dJ6_getChars_ba4f3_120 : decode cJ6_getChars_ba4f3 120 = .ok (.ireturn, 1) := by decide +kernel
set_option maxHeartbeats 4000000 in
set_option maxRecDepth 100000 in
theorem bJ6_getChars_ba4f3_22 {p : Program} {l : Launch} {e : Env} {s : State} {m : MethodId} {args : Array Value} {below : List Frame} {meth : Method} {c : Code} {D : va_G} {cB cC cI cO : ClassId} {A : Nat → Prop} {an : Nat} (C0 : gC RJ6 cJ6_getChars_ba4f3 7 (some .int) p s m args meth c D (hTy cB cC cI cO) A) (E0 : jE A s) (a1 : Nat) (out : Int32 × (Nat → Int32))    : ∀ (n : Nat) (aF : Nat → Int32) (v0 : Int32) (v5 : Int32) (v6 : Int32), fJ6_getChars_ba4f3_22 an n aF v0 v5 v6 = some out → gG p l e rmJ6_getChars_ba4f3 s m args below meth c D A 7 (MQ below (hQi D [(a1, .inl (cB, an, .inl out.2))] out.1 A) args s 0 0 A) 0 0 22 [(0, .int v0), (2, .ref a1), (5, .int v5), (6, .int v6)] [] [(a1, .inl (cB, an, .inl aF))] := by
  intro n
  induction n with
  | zero => intro aF v0 v5 v6 hf; rw [fJ6_getChars_ba4f3_22] at hf; cases hf
  | succ n ih =>
    intro aF v0 v5 v6 hf
    rw [fJ6_getChars_ba4f3_22] at hf
    refine g_iload_n C0 dJ6_getChars_ba4f3_22 rfl 0 rfl ?_
    refine g_bipush C0 (v := (-100 : Int32)) dJ6_getChars_ba4f3_23 (by decide) ?_
    refine g_icmp_gt C0 (tgt := 72) dJ6_getChars_ba4f3_25 (by decide) (fun c3 => ?_) (fun c3 => ?_)
    · rw [if_pos c3] at hf
      refine g_aload_n C0 dJ6_getChars_ba4f3_72 rfl 1 rfl ?_
      refine g_iinc C0 (lv' := [(5, .int (v5 + (-1 : Int32))), (0, .int v0), (2, .ref a1), (6, .int v6)]) dJ6_getChars_ba4f3_73 2 rfl rfl (by decide) rfl ?_
      refine g_iload C0 dJ6_getChars_ba4f3_76 0 rfl ?_
      refine g_digO C0 E0 q_1052 dJ6_getChars_ba4f3_78 (fun w4 hw4 => ?_)
      refine g_iload_n C0 dJ6_getChars_ba4f3_81 rfl 1 rfl ?_
      refine g_ineg C0 dJ6_getChars_ba4f3_82 ?_
      obtain ⟨i5, hf⟩ := hl_ifS hf
      refine g_tb C0 hw4 i5 (v := .int (dgO (-v0).toNatClampNeg)) rfl dJ6_getChars_ba4f3_83 ?_
      obtain ⟨i6, hf⟩ := hl_ifS hf
      refine g_bast C0 (ws' := [(a1, .inl (cB, an, .inl (upd aF (v5 + (-1 : Int32)).toNatClampNeg (vp_nar .byte (dgO (-v0).toNatClampNeg)))))]) 0 3 rfl rfl i6 dJ6_getChars_ba4f3_84 rfl ?_
      refine g_iload_n C0 dJ6_getChars_ba4f3_85 rfl 1 rfl ?_
      refine g_bipush C0 (v := (-9 : Int32)) dJ6_getChars_ba4f3_86 (by decide) ?_
      refine g_icmp_ge C0 (tgt := 104) dJ6_getChars_ba4f3_88 (by decide) (fun c7 => ?_) (fun c7 => ?_)
      · rw [if_pos c7] at hf
        refine g_iload C0 dJ6_getChars_ba4f3_104 3 rfl ?_
        refine g_if_eq C0 (tgt := 118) dJ6_getChars_ba4f3_106 (by decide) (fun c8 => ?_) (fun c8 => ?_)
        · rw [if_pos c8] at hf
          refine g_iload C0 dJ6_getChars_ba4f3_118 0 rfl ?_
          obtain rfl := Option.some.inj hf
          exact g_iret C0 rfl dJ6_getChars_ba4f3_120 rfl rfl
        · rw [if_neg c8] at hf
          refine g_aload_n C0 dJ6_getChars_ba4f3_109 rfl 2 rfl ?_
          refine g_iinc C0 (lv' := [(5, .int ((v5 + (-1 : Int32)) + (-1 : Int32))), (0, .int v0), (2, .ref a1), (6, .int v6)]) dJ6_getChars_ba4f3_110 0 rfl rfl (by decide) rfl ?_
          refine g_iload C0 dJ6_getChars_ba4f3_113 0 rfl ?_
          refine g_bipush C0 (v := (45 : Int32)) dJ6_getChars_ba4f3_115 (by decide) ?_
          obtain ⟨i9, hf⟩ := hl_ifS hf
          refine g_bast C0 (ws' := [(a1, .inl (cB, an, .inl (upd (upd aF (v5 + (-1 : Int32)).toNatClampNeg (vp_nar .byte (dgO (-v0).toNatClampNeg))) ((v5 + (-1 : Int32)) + (-1 : Int32)).toNatClampNeg (vp_nar .byte (45 : Int32)))))]) 0 3 rfl rfl i9 dJ6_getChars_ba4f3_117 rfl ?_
          refine g_iload C0 dJ6_getChars_ba4f3_118 0 rfl ?_
          obtain rfl := Option.some.inj hf
          exact g_iret C0 rfl dJ6_getChars_ba4f3_120 rfl rfl
      · rw [if_neg c7] at hf
        refine g_aload_n C0 dJ6_getChars_ba4f3_91 rfl 2 rfl ?_
        refine g_iinc C0 (lv' := [(5, .int ((v5 + (-1 : Int32)) + (-1 : Int32))), (0, .int v0), (2, .ref a1), (6, .int v6)]) dJ6_getChars_ba4f3_92 0 rfl rfl (by decide) rfl ?_
        refine g_iload C0 dJ6_getChars_ba4f3_95 0 rfl ?_
        refine g_digT C0 E0 q_1054 dJ6_getChars_ba4f3_97 (fun w10 hw10 => ?_)
        refine g_iload_n C0 dJ6_getChars_ba4f3_100 rfl 1 rfl ?_
        refine g_ineg C0 dJ6_getChars_ba4f3_101 ?_
        obtain ⟨i11, hf⟩ := hl_ifS hf
        refine g_tb C0 hw10 i11 (v := .int (dgT (-v0).toNatClampNeg)) rfl dJ6_getChars_ba4f3_102 ?_
        obtain ⟨i12, hf⟩ := hl_ifS hf
        refine g_bast C0 (ws' := [(a1, .inl (cB, an, .inl (upd (upd aF (v5 + (-1 : Int32)).toNatClampNeg (vp_nar .byte (dgO (-v0).toNatClampNeg))) ((v5 + (-1 : Int32)) + (-1 : Int32)).toNatClampNeg (vp_nar .byte (dgT (-v0).toNatClampNeg)))))]) 0 3 rfl rfl i12 dJ6_getChars_ba4f3_103 rfl ?_
        refine g_iload C0 dJ6_getChars_ba4f3_104 3 rfl ?_
        refine g_if_eq C0 (tgt := 118) dJ6_getChars_ba4f3_106 (by decide) (fun c13 => ?_) (fun c13 => ?_)
        · rw [if_pos c13] at hf
          refine g_iload C0 dJ6_getChars_ba4f3_118 0 rfl ?_
          obtain rfl := Option.some.inj hf
          exact g_iret C0 rfl dJ6_getChars_ba4f3_120 rfl rfl
        · rw [if_neg c13] at hf
          refine g_aload_n C0 dJ6_getChars_ba4f3_109 rfl 2 rfl ?_
          refine g_iinc C0 (lv' := [(5, .int (((v5 + (-1 : Int32)) + (-1 : Int32)) + (-1 : Int32))), (0, .int v0), (2, .ref a1), (6, .int v6)]) dJ6_getChars_ba4f3_110 0 rfl rfl (by decide) rfl ?_
          refine g_iload C0 dJ6_getChars_ba4f3_113 0 rfl ?_
          refine g_bipush C0 (v := (45 : Int32)) dJ6_getChars_ba4f3_115 (by decide) ?_
          obtain ⟨i14, hf⟩ := hl_ifS hf
          refine g_bast C0 (ws' := [(a1, .inl (cB, an, .inl (upd (upd (upd aF (v5 + (-1 : Int32)).toNatClampNeg (vp_nar .byte (dgO (-v0).toNatClampNeg))) ((v5 + (-1 : Int32)) + (-1 : Int32)).toNatClampNeg (vp_nar .byte (dgT (-v0).toNatClampNeg))) (((v5 + (-1 : Int32)) + (-1 : Int32)) + (-1 : Int32)).toNatClampNeg (vp_nar .byte (45 : Int32)))))]) 0 3 rfl rfl i14 dJ6_getChars_ba4f3_117 rfl ?_
          refine g_iload C0 dJ6_getChars_ba4f3_118 0 rfl ?_
          obtain rfl := Option.some.inj hf
          exact g_iret C0 rfl dJ6_getChars_ba4f3_120 rfl rfl
    · rw [if_neg c3] at hf
      refine g_iload_n C0 dJ6_getChars_ba4f3_28 rfl 0 rfl ?_
      refine g_bipush C0 (v := (100 : Int32)) dJ6_getChars_ba4f3_29 (by decide) ?_
      refine g_idiv C0 dJ6_getChars_ba4f3_31 (by decide) ?_
      refine g_istore_n C0 (lv' := [(3, .int (v0 / (100 : Int32))), (0, .int v0), (2, .ref a1), (5, .int v5), (6, .int v6)]) dJ6_getChars_ba4f3_32 rfl (by decide) rfl ?_
      refine g_iload_n C0 dJ6_getChars_ba4f3_33 rfl 0 rfl ?_
      refine g_bipush C0 (v := (100 : Int32)) dJ6_getChars_ba4f3_34 (by decide) ?_
      refine g_imul C0 dJ6_getChars_ba4f3_36 ?_
      refine g_iload_n C0 dJ6_getChars_ba4f3_37 rfl 1 rfl ?_
      refine g_isub C0 dJ6_getChars_ba4f3_38 ?_
      refine g_istore C0 (lv' := [(4, .int (((v0 / (100 : Int32)) * (100 : Int32)) - v0)), (3, .int (v0 / (100 : Int32))), (0, .int v0), (2, .ref a1), (5, .int v5), (6, .int v6)]) dJ6_getChars_ba4f3_39 (by decide) rfl ?_
      refine g_iload_n C0 dJ6_getChars_ba4f3_41 rfl 1 rfl ?_
      refine g_istore_n C0 (lv' := [(0, .int (v0 / (100 : Int32))), (4, .int (((v0 / (100 : Int32)) * (100 : Int32)) - v0)), (3, .int (v0 / (100 : Int32))), (2, .ref a1), (5, .int v5), (6, .int v6)]) dJ6_getChars_ba4f3_42 rfl (by decide) rfl ?_
      refine g_aload_n C0 dJ6_getChars_ba4f3_43 rfl 3 rfl ?_
      refine g_iinc C0 (lv' := [(5, .int (v5 + (-1 : Int32))), (0, .int (v0 / (100 : Int32))), (4, .int (((v0 / (100 : Int32)) * (100 : Int32)) - v0)), (3, .int (v0 / (100 : Int32))), (2, .ref a1), (6, .int v6)]) dJ6_getChars_ba4f3_44 4 rfl rfl (by decide) rfl ?_
      refine g_iload C0 dJ6_getChars_ba4f3_47 0 rfl ?_
      refine g_digO C0 E0 q_1052 dJ6_getChars_ba4f3_49 (fun w15 hw15 => ?_)
      refine g_iload C0 dJ6_getChars_ba4f3_52 2 rfl ?_
      obtain ⟨i16, hf⟩ := hl_ifS hf
      refine g_tb C0 hw15 i16 (v := .int (dgO (((v0 / (100 : Int32)) * (100 : Int32)) - v0).toNatClampNeg)) rfl dJ6_getChars_ba4f3_54 ?_
      obtain ⟨i17, hf⟩ := hl_ifS hf
      refine g_bast C0 (ws' := [(a1, .inl (cB, an, .inl (upd aF (v5 + (-1 : Int32)).toNatClampNeg (vp_nar .byte (dgO (((v0 / (100 : Int32)) * (100 : Int32)) - v0).toNatClampNeg)))))]) 0 3 rfl rfl i17 dJ6_getChars_ba4f3_55 rfl ?_
      refine g_aload_n C0 dJ6_getChars_ba4f3_56 rfl 4 rfl ?_
      refine g_iinc C0 (lv' := [(5, .int ((v5 + (-1 : Int32)) + (-1 : Int32))), (0, .int (v0 / (100 : Int32))), (4, .int (((v0 / (100 : Int32)) * (100 : Int32)) - v0)), (3, .int (v0 / (100 : Int32))), (2, .ref a1), (6, .int v6)]) dJ6_getChars_ba4f3_57 0 rfl rfl (by decide) rfl ?_
      refine g_iload C0 dJ6_getChars_ba4f3_60 0 rfl ?_
      refine g_digT C0 E0 q_1054 dJ6_getChars_ba4f3_62 (fun w18 hw18 => ?_)
      refine g_iload C0 dJ6_getChars_ba4f3_65 2 rfl ?_
      obtain ⟨i19, hf⟩ := hl_ifS hf
      refine g_tb C0 hw18 i19 (v := .int (dgT (((v0 / (100 : Int32)) * (100 : Int32)) - v0).toNatClampNeg)) rfl dJ6_getChars_ba4f3_67 ?_
      obtain ⟨i20, hf⟩ := hl_ifS hf
      refine g_bast C0 (ws' := [(a1, .inl (cB, an, .inl (upd (upd aF (v5 + (-1 : Int32)).toNatClampNeg (vp_nar .byte (dgO (((v0 / (100 : Int32)) * (100 : Int32)) - v0).toNatClampNeg))) ((v5 + (-1 : Int32)) + (-1 : Int32)).toNatClampNeg (vp_nar .byte (dgT (((v0 / (100 : Int32)) * (100 : Int32)) - v0).toNatClampNeg)))))]) 0 3 rfl rfl i20 dJ6_getChars_ba4f3_68 rfl ?_
      refine g_goto C0 (tgt := 22) dJ6_getChars_ba4f3_69 (by decide) ?_
      refine g_lv [1, 4, 0, 5] (lv' := [(0, .int (v0 / (100 : Int32))), (2, .ref a1), (5, .int ((v5 + (-1 : Int32)) + (-1 : Int32))), (6, .int v6)]) rfl ?_
      exact ih (upd (upd aF (v5 + (-1 : Int32)).toNatClampNeg (vp_nar .byte (dgO (((v0 / (100 : Int32)) * (100 : Int32)) - v0).toNatClampNeg))) ((v5 + (-1 : Int32)) + (-1 : Int32)).toNatClampNeg (vp_nar .byte (dgT (((v0 / (100 : Int32)) * (100 : Int32)) - v0).toNatClampNeg))) (v0 / (100 : Int32)) ((v5 + (-1 : Int32)) + (-1 : Int32)) v6 hf
set_option maxHeartbeats 4000000 in
set_option maxRecDepth 100000 in
theorem bJ6_getChars_ba4f3_12 {p : Program} {l : Launch} {e : Env} {s : State} {m : MethodId} {args : Array Value} {below : List Frame} {meth : Method} {c : Code} {D : va_G} {cB cC cI cO : ClassId} {A : Nat → Prop} {an : Nat} (C0 : gC RJ6 cJ6_getChars_ba4f3 7 (some .int) p s m args meth c D (hTy cB cC cI cO) A) (E0 : jE A s) (a1 : Nat) (out : Int32 × (Nat → Int32))    : ∀ (aF : Nat → Int32) (v0 : Int32) (v5 : Int32) (k0 : Int32), fJ6_getChars_ba4f3_12 an aF v0 v5 k0 = some out → gG p l e rmJ6_getChars_ba4f3 s m args below meth c D A 7 (MQ below (hQi D [(a1, .inl (cB, an, .inl out.2))] out.1 A) args s 0 0 A) 0 0 12 [(0, .int v0), (2, .ref a1), (5, .int v5)] [.int k0] [(a1, .inl (cB, an, .inl aF))] := by
  intro aF v0 v5 k0 hf
  unfold fJ6_getChars_ba4f3_12 at hf
  refine g_istore C0 (lv' := [(6, .int k0), (0, .int v0), (2, .ref a1), (5, .int v5)]) dJ6_getChars_ba4f3_12 (by decide) rfl ?_
  refine g_iload C0 dJ6_getChars_ba4f3_14 0 rfl ?_
  refine g_if_ne C0 (tgt := 22) dJ6_getChars_ba4f3_16 (by decide) (fun c2 => ?_) (fun c2 => ?_)
  · rw [if_neg c2] at hf
    refine g_lv [1, 2, 3, 0] (lv' := [(0, .int v0), (2, .ref a1), (5, .int v5), (6, .int k0)]) rfl ?_
    exact bJ6_getChars_ba4f3_22 C0 E0 a1 out   1000 aF v0 v5 k0 hf
  · rw [if_pos c2] at hf
    refine g_iload_n C0 dJ6_getChars_ba4f3_19 rfl 1 rfl ?_
    refine g_ineg C0 dJ6_getChars_ba4f3_20 ?_
    refine g_istore_n C0 (lv' := [(0, .int (-v0)), (6, .int k0), (2, .ref a1), (5, .int v5)]) dJ6_getChars_ba4f3_21 rfl (by decide) rfl ?_
    refine g_lv [0, 2, 3, 1] (lv' := [(0, .int (-v0)), (2, .ref a1), (5, .int v5), (6, .int k0)]) rfl ?_
    exact bJ6_getChars_ba4f3_22 C0 E0 a1 out   1000 aF (-v0) v5 k0 hf
set_option maxHeartbeats 4000000 in
set_option maxRecDepth 100000 in
theorem bJ6_getChars_ba4f3 {p : Program} {l : Launch} {e : Env} {s : State} {m : MethodId} {args : Array Value} {below : List Frame} {meth : Method} {c : Code} {D : va_G} {cB cC cI cO : ClassId} {A : Nat → Prop} {an : Nat} (C0 : gC RJ6 cJ6_getChars_ba4f3 7 (some .int) p s m args meth c D (hTy cB cC cI cO) A) (E0 : jE A s) (a1 : Nat) (out : Int32 × (Nat → Int32)) (aF : Nat → Int32) (x0 : Int32) (x1 : Int32) (hf : fJ6_getChars_ba4f3 an aF x0 x1 = some out) : gG p l e rmJ6_getChars_ba4f3 s m args below meth c D A 7 (MQ below (hQi D [(a1, .inl (cB, an, .inl out.2))] out.1 A) args s 0 0 A) 0 0 0 [(0, .int x0), (1, .int x1), (2, .ref a1)] [] [(a1, .inl (cB, an, .inl aF))] := by
  unfold fJ6_getChars_ba4f3 at hf
  refine g_iload_n C0 dJ6_getChars_ba4f3_0 rfl 1 rfl ?_
  refine g_istore C0 (lv' := [(5, .int x1), (0, .int x0), (1, .int x1), (2, .ref a1)]) dJ6_getChars_ba4f3_1 (by decide) rfl ?_
  refine g_iload_n C0 dJ6_getChars_ba4f3_3 rfl 1 rfl ?_
  refine g_if_ge C0 (tgt := 11) dJ6_getChars_ba4f3_4 (by decide) (fun c1 => ?_) (fun c1 => ?_)
  · rw [if_pos c1] at hf
    refine g_iconst C0 (v := (0 : Int32)) dJ6_getChars_ba4f3_11 (by decide) ?_
    refine g_lv [1, 3, 0] (lv' := [(0, .int x0), (2, .ref a1), (5, .int x1)]) rfl ?_
    exact bJ6_getChars_ba4f3_12 C0 E0 a1 out   aF x0 x1 (0 : Int32) hf
  · rw [if_neg c1] at hf
    refine g_iconst C0 (v := (1 : Int32)) dJ6_getChars_ba4f3_7 (by decide) ?_
    refine g_goto C0 (tgt := 12) dJ6_getChars_ba4f3_8 (by decide) ?_
    refine g_lv [1, 3, 0] (lv' := [(0, .int x0), (2, .ref a1), (5, .int x1)]) rfl ?_
    exact bJ6_getChars_ba4f3_12 C0 E0 a1 out   aF x0 x1 (1 : Int32) hf
theorem mJ6_getChars_ba4f3 (l : Launch) (D : va_G) (cB cC cI cO : ClassId) (an : Nat) (a1 : Nat) (aF : Nat → Int32) (x0 : Int32) (x1 : Int32) (out : Int32 × (Nat → Int32)) (hf : fJ6_getChars_ba4f3 an aF x0 x1 = some out) : ∀ sz, Met l yJ6_getChars_ba4f3 (ws_ yJ6_getChars_ba4f3 cJ6_getChars_ba4f3 7 (some .int)) rmJ6_getChars_ba4f3 (va_Pc [.int x0, .int x1, .ref a1] (hPreE jE D (hTy cB cC cI cO) [(a1, .inl (cB, an, .inl aF))] sz)) (hQi D [(a1, .inl (cB, an, .inl out.2))] out.1 (va_A [(a1, .inl (cB, an, .inl aF))] sz)) 0 0 (va_A [(a1, .inl (cB, an, .inl aF))] sz) :=
  g_metE (Qf := fun A => hQi D [(a1, .inl (cB, an, .inl out.2))] out.1 A) (by decide +kernel) (Nat.le_of_ble_eq_true rfl) rfl (fun C0 E0 => bJ6_getChars_ba4f3 C0 E0 a1 out aF x0 x1 hf)
/-- a number x is w letters dd -/
def numT (x : Int32) (w : Nat) (dd : Nat → Int32) : Prop := fJ6_stringSize_0f7a4 x = some (Int32.ofNat w) ∧ ∀ (n m0 : Nat) (g : Nat → Int32), n + w ≤ m0 → m0 < 100000 → sb_Fit g → ∃ (r : Int32) (g' : Nat → Int32), fJ6_getChars_ba4f3 m0 g x (Int32.ofNat (n + w)) = some (r, g') ∧ sb_Fit g' ∧ (∀ j, j < n → g' j = g j) ∧ ∀ j, j < w → g' (n + j) = dd j
theorem tx_appI {n k m0 w : Nat} {f g t : Nat → Int32} (h1 : n + k ≤ m0) (h2 : m0 ≤ 16 + 2 * (n + k)) (h3 : sb_Fit g) (h4 : ∀ j, j < n → g j = t j) (h5 : ∀ j, j < k → g (n + j) = f j) : sbP (n + k) (tcat n t f) (w, m0, g) := by
  refine ⟨h1, h2, h3, fun j hj => ?_⟩
  show g j = _
  by_cases e : j < n
  · rw [tcat_lo e, h4 j e]
  · obtain ⟨i, rfl⟩ : ∃ i, j = n + i := ⟨j - n, by omega⟩
    rw [tcat_hi, h5 i (by omega)]
/-! java/lang/AbstractStringBuilder.append(I)Ljava/lang/AbstractStringBuilder; -/
abbrev rmJ5_append_c97b9 (n k : Nat) : Room := { frames := 4, cells := 1, slots := (2 * (n + k)), locals := 300 }
theorem hmJ5_append_c97b9 : hMU RJ4 yJ5_append_c97b9 cJ5_append_c97b9 4 (some (.object "java/lang/AbstractStringBuilder")) 1 := ⟨q_1045, q_30, q_1044, q_1138, q_943, by decide, by decide +kernel⟩
theorem dJ5_append_c97b9_0 : decode cJ5_append_c97b9 0 = .ok (.aload_n 0, 1) := by decide +kernel
theorem dJ5_append_c97b9_1 : decode cJ5_append_c97b9 1 = .ok (.getfield 79, 3) := by decide +kernel
theorem dJ5_append_c97b9_4 : decode cJ5_append_c97b9 4 = .ok (.istore_n 2, 1) := by decide +kernel
theorem dJ5_append_c97b9_5 : decode cJ5_append_c97b9 5 = .ok (.iload_n 2, 1) := by decide +kernel
theorem dJ5_append_c97b9_6 : decode cJ5_append_c97b9 6 = .ok (.iload_n 1, 1) := by decide +kernel
theorem dJ5_append_c97b9_7 : decode cJ5_append_c97b9 7 = .ok (.invokestatic 245, 3) := by decide +kernel
theorem dJ5_append_c97b9_10 : decode cJ5_append_c97b9 10 = .ok (.iadd, 1) := by decide +kernel
theorem dJ5_append_c97b9_11 : decode cJ5_append_c97b9 11 = .ok (.istore_n 3, 1) := by decide +kernel
theorem dJ5_append_c97b9_12 : decode cJ5_append_c97b9 12 = .ok (.aload_n 0, 1) := by decide +kernel
theorem dJ5_append_c97b9_13 : decode cJ5_append_c97b9 13 = .ok (.iload_n 3, 1) := by decide +kernel
theorem dJ5_append_c97b9_14 : decode cJ5_append_c97b9 14 = .ok (.invokevirtual 100, 3) := by decide +kernel
theorem dJ5_append_c97b9_17 : decode cJ5_append_c97b9 17 = .ok (.aload_n 0, 1) := by decide +kernel
theorem dJ5_append_c97b9_18 : decode cJ5_append_c97b9 18 = .ok (.invokevirtual 83, 3) := by decide +kernel
theorem dJ5_append_c97b9_21 : decode cJ5_append_c97b9 21 = .ok (.ifCond .eq 16, 3) := by decide +kernel
theorem dJ5_append_c97b9_24 : decode cJ5_append_c97b9 24 = .ok (.iload_n 1, 1) := by decide +kernel
theorem dJ5_append_c97b9_25 : decode cJ5_append_c97b9 25 = .ok (.iload_n 3, 1) := by decide +kernel
theorem dJ5_append_c97b9_26 : decode cJ5_append_c97b9 26 = .ok (.aload_n 0, 1) := by decide +kernel
theorem dJ5_append_c97b9_27 : decode cJ5_append_c97b9 27 = .ok (.getfield 15, 3) := by decide +kernel
theorem dJ5_append_c97b9_30 : decode cJ5_append_c97b9 30 = .ok (.invokestatic 248, 3) := by decide +kernel
theorem dJ5_append_c97b9_33 : decode cJ5_append_c97b9 33 = .ok (.pop, 1) := by decide +kernel
theorem dJ5_append_c97b9_34 : decode cJ5_append_c97b9 34 = .ok (.goto 14, 3) := by decide +kernel
theorem dJ5_append_c97b9_37 : decode cJ5_append_c97b9 37 = .ok (.iload_n 1, 1) := by decide +kernel
theorem dJ5_append_c97b9_38 : decode cJ5_append_c97b9 38 = .ok (.iload_n 2, 1) := by decide +kernel
theorem dJ5_append_c97b9_39 : decode cJ5_append_c97b9 39 = .ok (.iload_n 3, 1) := by decide +kernel
theorem dJ5_append_c97b9_40 : decode cJ5_append_c97b9 40 = .ok (.aload_n 0, 1) := by decide +kernel
theorem dJ5_append_c97b9_41 : decode cJ5_append_c97b9 41 = .ok (.getfield 15, 3) := by decide +kernel
theorem dJ5_append_c97b9_44 : decode cJ5_append_c97b9 44 = .ok (.invokestatic 251, 3) := by decide +kernel
theorem dJ5_append_c97b9_47 : decode cJ5_append_c97b9 47 = .ok (.pop, 1) := by decide +kernel
theorem dJ5_append_c97b9_48 : decode cJ5_append_c97b9 48 = .ok (.aload_n 0, 1) := by decide +kernel
theorem dJ5_append_c97b9_49 : decode cJ5_append_c97b9 49 = .ok (.iload_n 3, 1) := by decide +kernel
theorem dJ5_append_c97b9_50 : decode cJ5_append_c97b9 50 = .ok (.putfield 79, 3) := by decide +kernel
theorem dJ5_append_c97b9_53 : decode cJ5_append_c97b9 53 = .ok (.aload_n 0, 1) := by decide +kernel
theorem dJ5_append_c97b9_54 : decode cJ5_append_c97b9 54 = .ok (.areturn, 1) := by decide +kernel
set_option maxHeartbeats 4000000 in
set_option maxRecDepth 100000 in
theorem bJ5_append_c97b9 {p : Program} {l : Launch} {e : Env} {s : State} {m : MethodId} {args : Array Value} {below : List Frame} {meth : Method} {c : Code} {D : va_G} {cB cC cI cO : ClassId} {A : Nat → Prop} (C0 : gC RJ5 cJ5_append_c97b9 4 (some (.object "java/lang/AbstractStringBuilder")) p s m args meth c D (hTy cB cC cI cO) A) (x : Int32) (k : Nat) (f : Nat → Int32) (b v : Nat) (ml : Int32) (n : Nat) (m0 : Nat) (g t : Nat → Int32) (E0 : jE A s) (hk : k ≤ 700) (hn : n ≤ 700) (hx : numT x k f) (hb : sbP n t (v, m0, g)) : gG p l e (rmJ5_append_c97b9 n k) s m args below meth c D A 4 (MQ below (hQnr D (fun _ => b) (fun u : {u : Nat × Nat × (Nat → Int32) // sbP (n + k) (tcat n t f) u} => sbW cB b ml (n + k) u.1) A) args s 1 ((2 * (n + k))) A) 0 0 0 [(0, .ref b), (1, .int x)] [] (sbW cB b ml n (v, m0, g)) := by
  obtain ⟨hb1, hb2, hb3, hb4⟩ := hb
  obtain ⟨hx1, hx2⟩ := hx
  have hb5 : m0 ≤ 16 + 2 * n := hb2
  have hb6 : n ≤ m0 := hb1
  refine g_eq (ws' := [(b, .inr (1, [.ref v, .int 0, .int ml, .int (Int32.ofNat n)])), (v, .inl (cB, m0, .inl g))]) rfl rfl rfl ?_
  refine g_aload_n C0 dJ5_append_c97b9_0 rfl 0 rfl ?_
  refine g_get C0 hinJ4 0 rfl rfl 3 (by decide) q_934 rfl dJ5_append_c97b9_1 ?_
  refine g_istore_n C0 (lv' := [(2, .int (Int32.ofNat n)), (0, .ref b), (1, .int x)]) dJ5_append_c97b9_4 rfl (by decide) rfl ?_
  refine g_iload_n C0 dJ5_append_c97b9_5 rfl 0 rfl ?_
  refine g_iload_n C0 dJ5_append_c97b9_6 rfl 2 rfl ?_
  refine g_callSi C0 (ws' := [(b, .inr (1, [.ref v, .int 0, .int ml, .int (Int32.ofNat n)])), (v, .inl (cB, m0, .inl g))]) (mJ6_stringSize_0f7a4 l D cB cC cI cO x _ hx1) hmJ6_stringSize_0f7a4 q_1046 ⟨Nat.le_of_ble_eq_true rfl, Nat.le_of_ble_eq_true rfl⟩ ⟨Nat.zero_le _, Nat.zero_le _⟩ rfl rfl [] rfl rfl rfl rfl rfl rfl (Nat.le_of_ble_eq_true rfl) dJ5_append_c97b9_7 ?_
  refine g_iadd C0 dJ5_append_c97b9_10 ?_
  rw [n_add]
  refine g_istore_n C0 (lv' := [(3, .int (Int32.ofNat (n + k))), (2, .int (Int32.ofNat n)), (0, .ref b), (1, .int x)]) dJ5_append_c97b9_11 rfl (by decide) rfl ?_
  refine g_aload_n C0 dJ5_append_c97b9_12 rfl 2 rfl ?_
  refine g_iload_n C0 dJ5_append_c97b9_13 rfl 0 rfl ?_
  refine g_xVv (X := [(b, .inr (1, [.ref v, .int 0, .int ml, .int (Int32.ofNat n)])), (v, .inl (cB, m0, .inl g))]) (pl := []) (wr := []) (As := [.int (Int32.ofNat (n + k))]) (st := []) (b := b) C0 jE_ok (xe_of C0 jE_ok E0) (xr_w C0 0 rfl rfl) (mJ5_ensureCapacityInternal_d00df l D cB cC cI cO b v ml n m0 (n + k) g (by omega) (by omega) hb3) hmJ5_ensureCapacityInternal_d00df q_955 ⟨Nat.le_of_ble_eq_true rfl, Nat.le_of_ble_eq_true rfl⟩ rfl rfl ⟨Nat.le_of_ble_eq_true rfl, show 0 + 2 * (n + k) ≤ 2 * (n + k) by omega⟩ rfl [0, 1] [] rfl rfl rfl rfl (by decide) rfl rfl (Nat.le_of_ble_eq_true rfl) dJ5_append_c97b9_14 (fun u => ?_)
  obtain ⟨hu1, hu2, hu3, hu4⟩ := u.2
  have hu5 : u.1.2.1 ≤ 16 + 2 * (n + k) := by rcases hu2 with h | h <;> omega
  obtain ⟨r1, g2, hg1, hg2, hg3, hg4⟩ := hx2 n u.1.2.1 u.1.2.2 hu1 (by omega) hu3
  refine g_eq (ws' := [(b, .inr (1, [.ref u.1.1, .int 0, .int ml, .int (Int32.ofNat n)])), (u.1.1, .inl (cB, u.1.2.1, .inl u.1.2.2))]) rfl rfl rfl ?_
  refine g_aload_n C0 dJ5_append_c97b9_17 rfl 2 rfl ?_
  refine g_xVi (X := [(b, .inr (1, [.ref u.1.1, .int 0, .int ml, .int (Int32.ofNat n)])), (u.1.1, .inl (cB, u.1.2.1, .inl u.1.2.2))]) (pl := []) (wr := [(u.1.1, .inl (cB, u.1.2.1, .inl u.1.2.2))]) (As := []) (st := []) (b := b) C0 jE_ok (xe_of C0 jE_ok E0) (xr_w C0 0 rfl rfl) (mJ5_isLatin1_aae02 l D cB cC cI cO b u.1.1 ml n) hmJ5_isLatin1_aae02 q_984 ⟨Nat.le_of_ble_eq_true rfl, Nat.le_of_ble_eq_true rfl⟩ rfl rfl ⟨Nat.le_of_ble_eq_true rfl, show 0 + 2 * (n + k) + 0 ≤ 2 * (n + k) by omega⟩ rfl [0] [1] rfl rfl rfl rfl (by decide) rfl rfl (Nat.le_of_ble_eq_true rfl) dJ5_append_c97b9_18 (fun _ => ?_)
  refine g_ord (ws' := [(b, .inr (1, [.ref u.1.1, .int 0, .int ml, .int (Int32.ofNat n)])), (u.1.1, .inl (cB, u.1.2.1, .inl u.1.2.2))]) [1, 0] rfl rfl ?_
  refine g_if_eq C0 (tgt := 37) dJ5_append_c97b9_21 (by decide) (fun c1 => absurd c1 (by decide)) (fun c1 => ?_)
  refine g_iload_n C0 dJ5_append_c97b9_24 rfl 3 rfl ?_
  refine g_iload_n C0 dJ5_append_c97b9_25 rfl 0 rfl ?_
  refine g_aload_n C0 dJ5_append_c97b9_26 rfl 2 rfl ?_
  refine g_get C0 hinJ4 0 rfl rfl 0 (by decide) q_931 rfl dJ5_append_c97b9_27 ?_
  refine g_callESi C0 jE_ok E0 (ws' := [(b, .inr (1, [.ref u.1.1, .int 0, .int ml, .int (Int32.ofNat n)])), (u.1.1, .inl (cB, u.1.2.1, .inl g2))]) (mJ6_getChars_ba4f3 l D cB cC cI cO u.1.2.1 u.1.1 u.1.2.2 x (Int32.ofNat (n + k)) _ hg1) hmJ6_getChars_ba4f3 q_1049 ⟨Nat.le_of_ble_eq_true rfl, Nat.le_of_ble_eq_true rfl⟩ ⟨Nat.le_of_ble_eq_true rfl, show 0 + 2 * (n + k) + 0 ≤ 2 * (n + k) by omega⟩ rfl rfl [1] rfl rfl rfl rfl rfl rfl (Nat.le_of_ble_eq_true rfl) dJ5_append_c97b9_30 ?_
  refine g_pop C0 dJ5_append_c97b9_33 rfl ?_
  refine g_goto C0 (tgt := 48) dJ5_append_c97b9_34 (by decide) ?_
  refine g_aload_n C0 dJ5_append_c97b9_48 rfl 2 rfl ?_
  refine g_iload_n C0 dJ5_append_c97b9_49 rfl 0 rfl ?_
  refine g_put C0 (ws' := [(b, .inr (1, [.ref u.1.1, .int 0, .int ml, .int (Int32.ofNat (n + k))])), (u.1.1, .inl (cB, u.1.2.1, .inl g2))]) hinJ4 0 rfl rfl 3 (by decide) q_934 tyJ4_ok nmJ4 rfl rfl rfl (Nat.le_of_ble_eq_true rfl) rfl dJ5_append_c97b9_50 ?_
  refine g_aload_n C0 dJ5_append_c97b9_53 rfl 2 rfl ?_
  refine g_widen (kk1 := 1) (nn1 := 2 * (n + k)) (by omega) (by omega) ?_
  exact g_nretr C0 (Or.inl ⟨_, rfl⟩) dJ5_append_c97b9_54 ⟨(u.1.1, u.1.2.1, g2), tx_appI hu1 hu5 hg2 (fun j hj => ((hg3 j hj).trans (hu4 j (by omega))).trans (hb4 j hj)) hg4⟩ rfl rfl
theorem mJ5_append_c97b9 (l : Launch) (D : va_G) (cB cC cI cO : ClassId) (x : Int32) (k : Nat) (f : Nat → Int32) (b v : Nat) (ml : Int32) (n : Nat) (m0 : Nat) (g t : Nat → Int32) (hk : k ≤ 700) (hn : n ≤ 700) (hx : numT x k f) (hb : sbP n t (v, m0, g)) : ∀ sz, Met l yJ5_append_c97b9 (ws_ yJ5_append_c97b9 cJ5_append_c97b9 4 (some (.object "java/lang/AbstractStringBuilder"))) (rmJ5_append_c97b9 n k) (va_Pc [.ref b, .int x] (hPreE jE D (hTy cB cC cI cO) (sbW cB b ml n (v, m0, g)) sz)) (hQnr D (fun _ => b) (fun u : {u : Nat × Nat × (Nat → Int32) // sbP (n + k) (tcat n t f) u} => sbW cB b ml (n + k) u.1) (va_A (sbW cB b ml n (v, m0, g)) sz)) 1 ((2 * (n + k))) (va_A (sbW cB b ml n (v, m0, g)) sz) :=
  g_metE (Qf := fun A => hQnr D (fun _ => b) (fun u : {u : Nat × Nat × (Nat → Int32) // sbP (n + k) (tcat n t f) u} => sbW cB b ml (n + k) u.1) A) (by decide +kernel) (Nat.le_of_ble_eq_true rfl) rfl (fun C0 E0 => bJ5_append_c97b9 C0 x k f b v ml n m0 g t E0 hk hn hx hb)
/-! java/lang/StringBuilder.append(I)Ljava/lang/StringBuilder; -/
abbrev rmJ4_append_bf812 (n k : Nat) : Room := { frames := 5, cells := 1, slots := (2 * (n + k)), locals := 340 }
theorem hmJ4_append_bf812 : hMC RJ4 yJ4_append_bf812 cJ4_append_bf812 2 (some (.object "java/lang/StringBuilder")) 1 := ⟨q_1042, q_31, q_1040, q_1041, by decide, by decide, by decide +kernel⟩
theorem dJ4_append_bf812_0 : decode cJ4_append_bf812 0 = .ok (.aload_n 0, 1) := by decide +kernel
theorem dJ4_append_bf812_1 : decode cJ4_append_bf812 1 = .ok (.iload_n 1, 1) := by decide +kernel
theorem dJ4_append_bf812_2 : decode cJ4_append_bf812 2 = .ok (.invokespecial 53, 3) := by decide +kernel
theorem dJ4_append_bf812_5 : decode cJ4_append_bf812 5 = .ok (.pop, 1) := by decide +kernel
theorem dJ4_append_bf812_6 : decode cJ4_append_bf812 6 = .ok (.aload_n 0, 1) := by decide +kernel
theorem dJ4_append_bf812_7 : decode cJ4_append_bf812 7 = .ok (.areturn, 1) := by decide +kernel
set_option maxHeartbeats 4000000 in
set_option maxRecDepth 100000 in
theorem bJ4_append_bf812 {p : Program} {l : Launch} {e : Env} {s : State} {m : MethodId} {args : Array Value} {below : List Frame} {meth : Method} {c : Code} {D : va_G} {cB cC cI cO : ClassId} {A : Nat → Prop} (C0 : gC RJ4 cJ4_append_bf812 2 (some (.object "java/lang/StringBuilder")) p s m args meth c D (hTy cB cC cI cO) A) (x : Int32) (k : Nat) (f : Nat → Int32) (b v : Nat) (ml : Int32) (n : Nat) (m0 : Nat) (g t : Nat → Int32) (E0 : jE A s) (hk : k ≤ 700) (hn : n ≤ 700) (hx : numT x k f) (hb : sbP n t (v, m0, g)) : gG p l e (rmJ4_append_bf812 n k) s m args below meth c D A 2 (MQ below (hQnr D (fun _ => b) (fun u : {u : Nat × Nat × (Nat → Int32) // sbP (n + k) (tcat n t f) u} => sbW cB b ml (n + k) u.1) A) args s 1 ((2 * (n + k))) A) 0 0 0 [(0, .ref b), (1, .int x)] [] (sbW cB b ml n (v, m0, g)) := by
  refine g_eq (ws' := [(b, .inr (1, [.ref v, .int 0, .int ml, .int (Int32.ofNat n)])), (v, .inl (cB, m0, .inl g))]) rfl rfl rfl ?_
  refine g_aload_n C0 dJ4_append_bf812_0 rfl 0 rfl ?_
  refine g_iload_n C0 dJ4_append_bf812_1 rfl 1 rfl ?_
  refine g_xUr (X := [(b, .inr (1, [.ref v, .int 0, .int ml, .int (Int32.ofNat n)])), (v, .inl (cB, m0, .inl g))]) (pl := []) (wr := []) (As := [.int x]) (st := []) (b := b) C0 jE_ok (xe_of C0 jE_ok E0) (xr_w C0 0 rfl rfl) (⟨_, ((gC_K C0).1 1 (RJ4, TJ4, 4) rfl).2⟩) (mJ5_append_c97b9 l D cB cC cI cO x k f b v ml n m0 g t hk hn hx hb) hmJ5_append_c97b9 q_1043 ⟨Nat.le_of_ble_eq_true rfl, Nat.le_of_ble_eq_true rfl⟩ rfl rfl ⟨Nat.le_of_ble_eq_true rfl, show 0 + (2 * (n + k)) ≤ (2 * (n + k)) by omega⟩ rfl [0, 1] [] rfl rfl rfl rfl (by decide) rfl rfl (Nat.le_of_ble_eq_true rfl) dJ4_append_bf812_2 (fun u => ?_)
  refine g_pop C0 dJ4_append_bf812_5 rfl ?_
  refine g_aload_n C0 dJ4_append_bf812_6 rfl 0 rfl ?_
  refine g_widen (kk1 := 1) (nn1 := (2 * (n + k))) (by omega) (by omega) ?_
  exact g_nretr C0 (Or.inl ⟨_, rfl⟩) dJ4_append_bf812_7 u rfl rfl
theorem mJ4_append_bf812 (l : Launch) (D : va_G) (cB cC cI cO : ClassId) (x : Int32) (k : Nat) (f : Nat → Int32) (b v : Nat) (ml : Int32) (n : Nat) (m0 : Nat) (g t : Nat → Int32) (hk : k ≤ 700) (hn : n ≤ 700) (hx : numT x k f) (hb : sbP n t (v, m0, g)) : ∀ sz, Met l yJ4_append_bf812 (ws_ yJ4_append_bf812 cJ4_append_bf812 2 (some (.object "java/lang/StringBuilder"))) (rmJ4_append_bf812 n k) (va_Pc [.ref b, .int x] (hPreE jE D (hTy cB cC cI cO) (sbW cB b ml n (v, m0, g)) sz)) (hQnr D (fun _ => b) (fun u : {u : Nat × Nat × (Nat → Int32) // sbP (n + k) (tcat n t f) u} => sbW cB b ml (n + k) u.1) (va_A (sbW cB b ml n (v, m0, g)) sz)) 1 ((2 * (n + k))) (va_A (sbW cB b ml n (v, m0, g)) sz) :=
  g_metE (Qf := fun A => hQnr D (fun _ => b) (fun u : {u : Nat × Nat × (Nat → Int32) // sbP (n + k) (tcat n t f) u} => sbW cB b ml (n + k) u.1) A) (by decide +kernel) (Nat.le_of_ble_eq_true rfl) rfl (fun C0 E0 => bJ4_append_bf812 C0 x k f b v ml n m0 g t E0 hk hn hx hb)
/-! java/lang/AbstractStringBuilder.getValue()[B -/
abbrev rmJ5_getValue_6d5f1 : Room := { frames := 0, cells := 0, slots := 0, locals := 0 }
theorem hmJ5_getValue_6d5f1 : hMC RJ4 yJ5_getValue_6d5f1 cJ5_getValue_6d5f1 1 (some (.array .byte)) 0 := ⟨q_1080, q_30, q_1077, q_1079, by decide, by decide, by decide +kernel⟩
theorem dJ5_getValue_6d5f1_0 : decode cJ5_getValue_6d5f1 0 = .ok (.aload_n 0, 1) := by decide +kernel
theorem dJ5_getValue_6d5f1_1 : decode cJ5_getValue_6d5f1 1 = .ok (.getfield 15, 3) := by decide +kernel
theorem dJ5_getValue_6d5f1_4 : decode cJ5_getValue_6d5f1 4 = .ok (.areturn, 1) := by decide +kernel
set_option maxHeartbeats 4000000 in
set_option maxRecDepth 100000 in
theorem bJ5_getValue_6d5f1 {p : Program} {l : Launch} {e : Env} {s : State} {m : MethodId} {args : Array Value} {below : List Frame} {meth : Method} {c : Code} {D : va_G} {cB cC cI cO : ClassId} {A : Nat → Prop} (C0 : gC RJ5 cJ5_getValue_6d5f1 1 (some (.array .byte)) p s m args meth c D (hTy cB cC cI cO) A) (b v : Nat) (ml : Int32) (n : Nat) (E0 : jE A s)  : gG p l e rmJ5_getValue_6d5f1 s m args below meth c D A 1 (MQ below (hQnr D (fun _ => v) (fun _ : Unit => [(b, .inr (1, [.ref v, .int 0, .int ml, .int (Int32.ofNat n)]))]) A) args s 0 0 A) 0 0 0 [(0, .ref b)] [] [(b, .inr (1, [.ref v, .int 0, .int ml, .int (Int32.ofNat n)]))] := by
  refine g_aload_n C0 dJ5_getValue_6d5f1_0 rfl 0 rfl ?_
  refine g_get C0 hinJ4 0 rfl rfl 0 (by decide) q_931 rfl dJ5_getValue_6d5f1_1 ?_
  exact g_nretr C0 (Or.inr ⟨_, rfl⟩) dJ5_getValue_6d5f1_4 () rfl rfl
theorem mJ5_getValue_6d5f1 (l : Launch) (D : va_G) (cB cC cI cO : ClassId) (b v : Nat) (ml : Int32) (n : Nat)  : ∀ sz, Met l yJ5_getValue_6d5f1 (ws_ yJ5_getValue_6d5f1 cJ5_getValue_6d5f1 1 (some (.array .byte))) rmJ5_getValue_6d5f1 (va_Pc [.ref b] (hPreE jE D (hTy cB cC cI cO) [(b, .inr (1, [.ref v, .int 0, .int ml, .int (Int32.ofNat n)]))] sz)) (hQnr D (fun _ => v) (fun _ : Unit => [(b, .inr (1, [.ref v, .int 0, .int ml, .int (Int32.ofNat n)]))]) (va_A [(b, .inr (1, [.ref v, .int 0, .int ml, .int (Int32.ofNat n)]))] sz)) 0 0 (va_A [(b, .inr (1, [.ref v, .int 0, .int ml, .int (Int32.ofNat n)]))] sz) :=
  g_metE (Qf := fun A => hQnr D (fun _ => v) (fun _ : Unit => [(b, .inr (1, [.ref v, .int 0, .int ml, .int (Int32.ofNat n)]))]) A) (by decide +kernel) (Nat.le_of_ble_eq_true rfl) rfl (fun C0 E0 => bJ5_getValue_6d5f1 C0 b v ml n E0 )
/-! java/lang/AbstractStringBuilder.length()I -/
abbrev rmJ5_length_8abf5 : Room := { frames := 0, cells := 0, slots := 0, locals := 0 }
theorem hmJ5_length_8abf5 : hMU RJ4 yJ5_length_8abf5 cJ5_length_8abf5 1 (some .int) 0 := ⟨q_1088, q_30, q_1082, q_1083, q_943, by decide, by decide +kernel⟩
theorem dJ5_length_8abf5_0 : decode cJ5_length_8abf5 0 = .ok (.aload_n 0, 1) := by decide +kernel
theorem dJ5_length_8abf5_1 : decode cJ5_length_8abf5 1 = .ok (.getfield 79, 3) := by decide +kernel
theorem dJ5_length_8abf5_4 : decode cJ5_length_8abf5 4 = .ok (.ireturn, 1) := by decide +kernel
set_option maxHeartbeats 4000000 in
set_option maxRecDepth 100000 in
theorem bJ5_length_8abf5 {p : Program} {l : Launch} {e : Env} {s : State} {m : MethodId} {args : Array Value} {below : List Frame} {meth : Method} {c : Code} {D : va_G} {cB cC cI cO : ClassId} {A : Nat → Prop} (C0 : gC RJ5 cJ5_length_8abf5 1 (some .int) p s m args meth c D (hTy cB cC cI cO) A) (b v : Nat) (ml : Int32) (n : Nat) (E0 : jE A s)  : gG p l e rmJ5_length_8abf5 s m args below meth c D A 1 (MQ below (hQni D (Int32.ofNat n) (fun _ : Unit => [(b, .inr (1, [.ref v, .int 0, .int ml, .int (Int32.ofNat n)]))]) A) args s 0 0 A) 0 0 0 [(0, .ref b)] [] [(b, .inr (1, [.ref v, .int 0, .int ml, .int (Int32.ofNat n)]))] := by
  refine g_aload_n C0 dJ5_length_8abf5_0 rfl 0 rfl ?_
  refine g_get C0 hinJ4 0 rfl rfl 3 (by decide) q_934 rfl dJ5_length_8abf5_1 ?_
  exact g_nreti C0 rfl dJ5_length_8abf5_4 () rfl rfl
theorem mJ5_length_8abf5 (l : Launch) (D : va_G) (cB cC cI cO : ClassId) (b v : Nat) (ml : Int32) (n : Nat)  : ∀ sz, Met l yJ5_length_8abf5 (ws_ yJ5_length_8abf5 cJ5_length_8abf5 1 (some .int)) rmJ5_length_8abf5 (va_Pc [.ref b] (hPreE jE D (hTy cB cC cI cO) [(b, .inr (1, [.ref v, .int 0, .int ml, .int (Int32.ofNat n)]))] sz)) (hQni D (Int32.ofNat n) (fun _ : Unit => [(b, .inr (1, [.ref v, .int 0, .int ml, .int (Int32.ofNat n)]))]) (va_A [(b, .inr (1, [.ref v, .int 0, .int ml, .int (Int32.ofNat n)]))] sz)) 0 0 (va_A [(b, .inr (1, [.ref v, .int 0, .int ml, .int (Int32.ofNat n)]))] sz) :=
  g_metE (Qf := fun A => hQni D (Int32.ofNat n) (fun _ : Unit => [(b, .inr (1, [.ref v, .int 0, .int ml, .int (Int32.ofNat n)]))]) A) (by decide +kernel) (Nat.le_of_ble_eq_true rfl) rfl (fun C0 E0 => bJ5_length_8abf5 C0 b v ml n E0 )
/-! java/lang/StringBuilder.length()I -/
abbrev rmJ4_length_8abf5 : Room := { frames := 1, cells := 0, slots := 0, locals := 40 }
theorem hmJ4_length_8abf5 : Cond.code yJ4_length_8abf5 cJ4_length_8abf5 1 (some .int) ∈ hAll := q_1086
theorem dJ4_length_8abf5_0 : decode cJ4_length_8abf5 0 = .ok (.aload_n 0, 1) := by decide +kernel
theorem dJ4_length_8abf5_1 : decode cJ4_length_8abf5 1 = .ok (.invokespecial 343, 3) := by decide +kernel
theorem dJ4_length_8abf5_4 : decode cJ4_length_8abf5 4 = .ok (.ireturn, 1) := by decide +kernel
set_option maxHeartbeats 4000000 in
set_option maxRecDepth 100000 in
theorem bJ4_length_8abf5 {p : Program} {l : Launch} {e : Env} {s : State} {m : MethodId} {args : Array Value} {below : List Frame} {meth : Method} {c : Code} {D : va_G} {cB cC cI cO : ClassId} {A : Nat → Prop} (C0 : gC RJ4 cJ4_length_8abf5 1 (some .int) p s m args meth c D (hTy cB cC cI cO) A) (b v : Nat) (ml : Int32) (n : Nat) (E0 : jE A s)  : gG p l e rmJ4_length_8abf5 s m args below meth c D A 1 (MQ below (hQni D (Int32.ofNat n) (fun _ : Unit => [(b, .inr (1, [.ref v, .int 0, .int ml, .int (Int32.ofNat n)]))]) A) args s 0 0 A) 0 0 0 [(0, .ref b)] [] [(b, .inr (1, [.ref v, .int 0, .int ml, .int (Int32.ofNat n)]))] := by
  refine g_aload_n C0 dJ4_length_8abf5_0 rfl 0 rfl ?_
  refine g_xUi (X := [(b, .inr (1, [.ref v, .int 0, .int ml, .int (Int32.ofNat n)]))]) (pl := []) (wr := []) (As := []) (st := []) (b := b) C0 jE_ok (xe_of C0 jE_ok E0) (xr_w C0 0 rfl rfl) (⟨_, ((gC_K C0).1 1 (RJ4, TJ4, 4) rfl).2⟩) (mJ5_length_8abf5 l D cB cC cI cO b v ml n) hmJ5_length_8abf5 q_1087 ⟨Nat.le_of_ble_eq_true rfl, Nat.le_of_ble_eq_true rfl⟩ rfl rfl ⟨Nat.zero_le _, Nat.zero_le _⟩ rfl [0] [] rfl rfl rfl rfl (by decide) rfl rfl (Nat.le_of_ble_eq_true rfl) dJ4_length_8abf5_1 (fun _ => ?_)
  exact g_nreti C0 rfl dJ4_length_8abf5_4 () rfl rfl
theorem mJ4_length_8abf5 (l : Launch) (D : va_G) (cB cC cI cO : ClassId) (b v : Nat) (ml : Int32) (n : Nat)  : ∀ sz, Met l yJ4_length_8abf5 (ws_ yJ4_length_8abf5 cJ4_length_8abf5 1 (some .int)) rmJ4_length_8abf5 (va_Pc [.ref b] (hPreE jE D (hTy cB cC cI cO) [(b, .inr (1, [.ref v, .int 0, .int ml, .int (Int32.ofNat n)]))] sz)) (hQni D (Int32.ofNat n) (fun _ : Unit => [(b, .inr (1, [.ref v, .int 0, .int ml, .int (Int32.ofNat n)]))]) (va_A [(b, .inr (1, [.ref v, .int 0, .int ml, .int (Int32.ofNat n)]))] sz)) 0 0 (va_A [(b, .inr (1, [.ref v, .int 0, .int ml, .int (Int32.ofNat n)]))] sz) :=
  g_metE (Qf := fun A => hQni D (Int32.ofNat n) (fun _ : Unit => [(b, .inr (1, [.ref v, .int 0, .int ml, .int (Int32.ofNat n)]))]) A) (by decide +kernel) (Nat.le_of_ble_eq_true rfl) rfl (fun C0 E0 => bJ4_length_8abf5 C0 b v ml n E0 )
/-! java/util/Arrays.checkLength(II)V -/
abbrev rmJ7_checkLength_df160 : Room := { frames := 0, cells := 0, slots := 0, locals := 0 }
theorem hmJ7_checkLength_df160 : hMS yJ7_checkLength_df160 cJ7_checkLength_df160 2 none 2 := ⟨q_1098, q_14, q_1097, by decide, by decide, by decide +kernel⟩
theorem dJ7_checkLength_df160_0 : decode cJ7_checkLength_df160 0 = .ok (.iload_n 1, 1) := by decide +kernel
theorem dJ7_checkLength_df160_1 : decode cJ7_checkLength_df160 1 = .ok (.iload_n 0, 1) := by decide +kernel
theorem dJ7_checkLength_df160_2 : decode cJ7_checkLength_df160 2 = .ok (.if_icmp .ge 35, 3) := by decide +kernel
theorem dJ7_checkLength_df160_5 : decode cJ7_checkLength_df160 5 = .ok (.new 43, 3) := by decide +kernel
theorem dJ7_checkLength_df160_8 : decode cJ7_checkLength_df160 8 = .ok (.dup, 1) := by decide +kernel
theorem dJ7_checkLength_df160_9 : decode cJ7_checkLength_df160 9 = .ok (.new 45, 3) := by decide +kernel
theorem dJ7_checkLength_df160_12 : decode cJ7_checkLength_df160 12 = .ok (.dup, 1) := by decide +kernel
theorem dJ7_checkLength_df160_13 : decode cJ7_checkLength_df160 13 = .ok (.invokespecial 47, 3) := by decide +kernel
theorem dJ7_checkLength_df160_16 : decode cJ7_checkLength_df160 16 = .ok (.iload_n 0, 1) := by decide +kernel
theorem dJ7_checkLength_df160_17 : decode cJ7_checkLength_df160 17 = .ok (.invokevirtual 54, 3) := by decide +kernel
theorem dJ7_checkLength_df160_20 : decode cJ7_checkLength_df160 20 = .ok (.ldc_w 337, 3) := by decide +kernel
theorem dJ7_checkLength_df160_23 : decode cJ7_checkLength_df160 23 = .ok (.invokevirtual 50, 3) := by decide +kernel
theorem dJ7_checkLength_df160_26 : decode cJ7_checkLength_df160 26 = .ok (.iload_n 1, 1) := by decide +kernel
theorem dJ7_checkLength_df160_27 : decode cJ7_checkLength_df160 27 = .ok (.invokevirtual 54, 3) := by decide +kernel
theorem dJ7_checkLength_df160_30 : decode cJ7_checkLength_df160 30 = .ok (.invokevirtual 61, 3) := by decide +kernel
theorem dJ7_checkLength_df160_33 : decode cJ7_checkLength_df160 33 = .ok (.invokespecial 65, 3) := by decide +kernel
theorem dJ7_checkLength_df160_36 : decode cJ7_checkLength_df160 36 = .ok (.athrow, 1) := by decide +kernel
theorem dJ7_checkLength_df160_37 : decode cJ7_checkLength_df160 37 = .ok (.return_, 1) := by decide +kernel
set_option maxHeartbeats 4000000 in
set_option maxRecDepth 100000 in
theorem bJ7_checkLength_df160 {p : Program} {l : Launch} {e : Env} {s : State} {m : MethodId} {args : Array Value} {below : List Frame} {meth : Method} {c : Code} {D : va_G} {cB cC cI cO : ClassId} {A : Nat → Prop} (C0 : gC RJ7 cJ7_checkLength_df160 2 none p s m args meth c D (hTy cB cC cI cO) A) (k : Nat) (E0 : jE A s) (hk : k < 2147483648) : gG p l e rmJ7_checkLength_df160 s m args below meth c D A 2 (MQ below (hQn D (fun _ : Unit => []) A) args s 0 0 A) 0 0 0 [(0, .int 0), (1, .int (Int32.ofNat k))] [] [] := by
  refine g_iload_n C0 dJ7_checkLength_df160_0 rfl 1 rfl ?_
  refine g_iload_n C0 dJ7_checkLength_df160_1 rfl 0 rfl ?_
  refine g_icmp_ge C0 (tgt := 37) dJ7_checkLength_df160_2 (by decide) (fun c1 => ?_) (fun c1 => absurd (n_0le hk) c1)
  exact g_nret C0 dJ7_checkLength_df160_37 () rfl
theorem mJ7_checkLength_df160 (l : Launch) (D : va_G) (cB cC cI cO : ClassId) (k : Nat) (hk : k < 2147483648) : ∀ sz, Met l yJ7_checkLength_df160 (ws_ yJ7_checkLength_df160 cJ7_checkLength_df160 2 none) rmJ7_checkLength_df160 (va_Pc [.int 0, .int (Int32.ofNat k)] (hPreE jE D (hTy cB cC cI cO) [] sz)) (hQn D (fun _ : Unit => []) (va_A [] sz)) 0 0 (va_A [] sz) :=
  g_metE (Qf := fun A => hQn D (fun _ : Unit => []) A) (by decide +kernel) (Nat.le_of_ble_eq_true rfl) rfl (fun C0 E0 => bJ7_checkLength_df160 C0 k E0 hk)
/-! java/util/Arrays.copyOfRangeByte([BII)[B -/
abbrev rmJ7_copyOfRangeByte_39247 (k : Nat) : Room := { frames := 1, cells := 1, slots := k, locals := 200 }
theorem hmJ7_copyOfRangeByte_39247 : hMS yJ7_copyOfRangeByte_39247 cJ7_copyOfRangeByte_39247 5 (some (.array .byte)) 3 := ⟨q_1095, q_14, q_1094, by decide, by decide, by decide +kernel⟩
theorem dJ7_copyOfRangeByte_39247_0 : decode cJ7_copyOfRangeByte_39247 0 = .ok (.iload_n 1, 1) := by decide +kernel
theorem dJ7_copyOfRangeByte_39247_1 : decode cJ7_copyOfRangeByte_39247 1 = .ok (.iload_n 2, 1) := by decide +kernel
theorem dJ7_copyOfRangeByte_39247_2 : decode cJ7_copyOfRangeByte_39247 2 = .ok (.invokestatic 343, 3) := by decide +kernel
theorem dJ7_copyOfRangeByte_39247_5 : decode cJ7_copyOfRangeByte_39247 5 = .ok (.iload_n 2, 1) := by decide +kernel
theorem dJ7_copyOfRangeByte_39247_6 : decode cJ7_copyOfRangeByte_39247 6 = .ok (.iload_n 1, 1) := by decide +kernel
theorem dJ7_copyOfRangeByte_39247_7 : decode cJ7_copyOfRangeByte_39247 7 = .ok (.isub, 1) := by decide +kernel
theorem dJ7_copyOfRangeByte_39247_8 : decode cJ7_copyOfRangeByte_39247 8 = .ok (.istore_n 3, 1) := by decide +kernel
theorem dJ7_copyOfRangeByte_39247_9 : decode cJ7_copyOfRangeByte_39247 9 = .ok (.iload_n 3, 1) := by decide +kernel
theorem dJ7_copyOfRangeByte_39247_10 : decode cJ7_copyOfRangeByte_39247 10 = .ok (.newarray .byte, 2) := by decide +kernel
theorem dJ7_copyOfRangeByte_39247_12 : decode cJ7_copyOfRangeByte_39247 12 = .ok (.astore 4, 2) := by decide +kernel
theorem dJ7_copyOfRangeByte_39247_14 : decode cJ7_copyOfRangeByte_39247 14 = .ok (.aload_n 0, 1) := by decide +kernel
theorem dJ7_copyOfRangeByte_39247_15 : decode cJ7_copyOfRangeByte_39247 15 = .ok (.iload_n 1, 1) := by decide +kernel
theorem dJ7_copyOfRangeByte_39247_16 : decode cJ7_copyOfRangeByte_39247 16 = .ok (.aload 4, 2) := by decide +kernel
theorem dJ7_copyOfRangeByte_39247_18 : decode cJ7_copyOfRangeByte_39247 18 = .ok (.iconst 0, 1) := by decide +kernel
theorem dJ7_copyOfRangeByte_39247_19 : decode cJ7_copyOfRangeByte_39247 19 = .ok (.aload_n 0, 1) := by decide +kernel
theorem dJ7_copyOfRangeByte_39247_20 : decode cJ7_copyOfRangeByte_39247 20 = .ok (.arraylength, 1) := by decide +kernel
theorem dJ7_copyOfRangeByte_39247_21 : decode cJ7_copyOfRangeByte_39247 21 = .ok (.iload_n 1, 1) := by decide +kernel
theorem dJ7_copyOfRangeByte_39247_22 : decode cJ7_copyOfRangeByte_39247 22 = .ok (.isub, 1) := by decide +kernel
theorem dJ7_copyOfRangeByte_39247_23 : decode cJ7_copyOfRangeByte_39247 23 = .ok (.iload_n 3, 1) := by decide +kernel
theorem dJ7_copyOfRangeByte_39247_24 : decode cJ7_copyOfRangeByte_39247 24 = .ok (.invokestatic 304, 3) := by decide +kernel
theorem dJ7_copyOfRangeByte_39247_27 : decode cJ7_copyOfRangeByte_39247 27 = .ok (.invokestatic 150, 3) := by decide +kernel
theorem dJ7_copyOfRangeByte_39247_30 : decode cJ7_copyOfRangeByte_39247 30 = .ok (.aload 4, 2) := by decide +kernel
theorem dJ7_copyOfRangeByte_39247_32 : decode cJ7_copyOfRangeByte_39247 32 = .ok (.areturn, 1) := by decide +kernel
set_option maxHeartbeats 4000000 in
set_option maxRecDepth 100000 in
theorem bJ7_copyOfRangeByte_39247 {p : Program} {l : Launch} {e : Env} {s : State} {m : MethodId} {args : Array Value} {below : List Frame} {meth : Method} {c : Code} {D : va_G} {cB cC cI cO : ClassId} {A : Nat → Prop} (C0 : gC RJ7 cJ7_copyOfRangeByte_39247 5 (some (.array .byte)) p s m args meth c D (hTy cB cC cI cO) A) (v m0 k : Nat) (g : Nat → Int32) (E0 : jE A s) (hm : m0 < 200000) (hk : k ≤ m0) (hg : sb_Fit g) : gG p l e (rmJ7_copyOfRangeByte_39247 k) s m args below meth c D A 5 (MQ below (hQnr D (fun u => u.1.1) (fun u : {u : Nat × (Nat → Int32) // sb_Fit u.2 ∧ ∀ j, j < k → u.2 j = g j} => [(v, .inl (cB, m0, .inl g)), (u.1.1, .inl (cB, k, .inl u.1.2))]) A) args s 1 (k) A) 0 0 0 [(0, .ref v), (1, .int 0), (2, .int (Int32.ofNat k))] [] [(v, .inl (cB, m0, .inl g))] := by
  refine g_iload_n C0 dJ7_copyOfRangeByte_39247_0 rfl 1 rfl ?_
  refine g_iload_n C0 dJ7_copyOfRangeByte_39247_1 rfl 2 rfl ?_
  refine g_xSv (X := [(v, .inl (cB, m0, .inl g))]) (pl := []) (wr := [(v, .inl (cB, m0, .inl g))]) (As := [.int 0, .int (Int32.ofNat k)]) (st := []) C0 jE_ok (xe_of C0 jE_ok E0) (mJ7_checkLength_df160 l D cB cC cI cO k (by omega)) hmJ7_checkLength_df160 q_1096 ⟨Nat.le_of_ble_eq_true rfl, Nat.le_of_ble_eq_true rfl⟩ rfl rfl ⟨Nat.zero_le _, Nat.zero_le _⟩ rfl [] [0] rfl rfl rfl rfl (by decide) rfl rfl (Nat.le_of_ble_eq_true rfl) dJ7_copyOfRangeByte_39247_2 (fun _ => ?_)
  refine g_eq (ws' := [(v, .inl (cB, m0, .inl g))]) rfl rfl rfl ?_
  refine g_iload_n C0 dJ7_copyOfRangeByte_39247_5 rfl 2 rfl ?_
  refine g_iload_n C0 dJ7_copyOfRangeByte_39247_6 rfl 1 rfl ?_
  refine g_isub C0 dJ7_copyOfRangeByte_39247_7 ?_
  rw [show Int32.ofNat k - (0 : Int32) = Int32.ofNat k from n_sub (b := 0) (by omega)]
  refine g_istore_n C0 (lv' := [(3, .int (Int32.ofNat k)), (0, .ref v), (1, .int 0), (2, .int (Int32.ofNat k))]) dJ7_copyOfRangeByte_39247_8 rfl (by decide) rfl ?_
  refine g_iload_n C0 dJ7_copyOfRangeByte_39247_9 rfl 0 rfl ?_
  refine g_newB (N := k) C0 q_355 3 rfl (n_in1 (by omega)) (n_cl (by omega)) (show k * 1 ≤ 536870912 by omega) (Nat.le_of_ble_eq_true rfl) (show 0 + 0 + k ≤ k by omega) dJ7_copyOfRangeByte_39247_10 (fun w => ?_)
  refine g_eq (ws' := [(v, .inl (cB, m0, .inl g)), (w, .inl (cB, k, .inl (fun _ => 0)))]) rfl rfl rfl ?_
  refine g_astore C0 (lv' := [(4, .ref w), (3, .int (Int32.ofNat k)), (0, .ref v), (1, .int 0), (2, .int (Int32.ofNat k))]) dJ7_copyOfRangeByte_39247_12 (by decide) rfl ?_
  refine g_aload_n C0 dJ7_copyOfRangeByte_39247_14 rfl 2 rfl ?_
  refine g_iload_n C0 dJ7_copyOfRangeByte_39247_15 rfl 3 rfl ?_
  refine g_aload C0 dJ7_copyOfRangeByte_39247_16 0 rfl ?_
  refine g_iconst C0 (v := (0 : Int32)) dJ7_copyOfRangeByte_39247_18 (by decide) ?_
  refine g_aload_n C0 dJ7_copyOfRangeByte_39247_19 rfl 2 rfl ?_
  refine g_alen C0 (v := Int32.ofNat m0) 0 3 rfl rfl rfl dJ7_copyOfRangeByte_39247_20 ?_
  refine g_iload_n C0 dJ7_copyOfRangeByte_39247_21 rfl 3 rfl ?_
  refine g_isub C0 dJ7_copyOfRangeByte_39247_22 ?_
  rw [show Int32.ofNat m0 - (0 : Int32) = Int32.ofNat m0 from n_sub (b := 0) (by omega)]
  refine g_iload_n C0 dJ7_copyOfRangeByte_39247_23 rfl 1 rfl ?_
  refine g_mmin C0 q_982 q_583 q_22 q_584 (Nat.le_of_ble_eq_true rfl) ⟨Nat.le_of_ble_eq_true rfl, show 0 + 0 + k ≤ k by omega⟩ (Nat.le_of_ble_eq_true rfl) dJ7_copyOfRangeByte_39247_24 ?_
  have hmin : (if Int32.ofNat k < Int32.ofNat m0 then Int32.ofNat k else Int32.ofNat m0) = Int32.ofNat k := by
    by_cases h : k < m0
    · rw [if_pos ((n_lt (by omega) (by omega)).mpr h)]
    · obtain rfl : k = m0 := by omega
      split <;> rfl
  rw [hmin]
  refine g_copyb C0 (ws' := [(v, .inl (cB, m0, .inl g)), (w, .inl (cB, k, .inl (va_cpy g (fun _ => 0) 0 0 k)))]) (js := 0) (jd := 0) (jn := k) q_983 q_591 q_590 q_23 0 1 3 3 rfl rfl rfl rfl (by decide) (by decide) (n_in1 (by omega)) (by decide) (by decide) (n_cl (by omega)) hg (by omega) (by omega) (Nat.le_of_ble_eq_true rfl) (show _ ≤ 200 by decide) dJ7_copyOfRangeByte_39247_27 rfl ?_
  refine g_aload C0 dJ7_copyOfRangeByte_39247_30 0 rfl ?_
  refine g_widen (kk1 := 1) (nn1 := k) (by omega) (by omega) ?_
  exact g_nretr C0 (Or.inr ⟨_, rfl⟩) dJ7_copyOfRangeByte_39247_32 ⟨(w, va_cpy g (fun _ => 0) 0 0 k), sb_fitC hg sb_fit0, fun j hj => show va_cpy g (fun _ => 0) 0 0 k j = g j from sb_cpy0 hj⟩ rfl rfl
theorem mJ7_copyOfRangeByte_39247 (l : Launch) (D : va_G) (cB cC cI cO : ClassId) (v m0 k : Nat) (g : Nat → Int32) (hm : m0 < 200000) (hk : k ≤ m0) (hg : sb_Fit g) : ∀ sz, Met l yJ7_copyOfRangeByte_39247 (ws_ yJ7_copyOfRangeByte_39247 cJ7_copyOfRangeByte_39247 5 (some (.array .byte))) (rmJ7_copyOfRangeByte_39247 k) (va_Pc [.ref v, .int 0, .int (Int32.ofNat k)] (hPreE jE D (hTy cB cC cI cO) [(v, .inl (cB, m0, .inl g))] sz)) (hQnr D (fun u => u.1.1) (fun u : {u : Nat × (Nat → Int32) // sb_Fit u.2 ∧ ∀ j, j < k → u.2 j = g j} => [(v, .inl (cB, m0, .inl g)), (u.1.1, .inl (cB, k, .inl u.1.2))]) (va_A [(v, .inl (cB, m0, .inl g))] sz)) 1 (k) (va_A [(v, .inl (cB, m0, .inl g))] sz) :=
  g_metE (Qf := fun A => hQnr D (fun u => u.1.1) (fun u : {u : Nat × (Nat → Int32) // sb_Fit u.2 ∧ ∀ j, j < k → u.2 j = g j} => [(v, .inl (cB, m0, .inl g)), (u.1.1, .inl (cB, k, .inl u.1.2))]) A) (by decide +kernel) (Nat.le_of_ble_eq_true rfl) rfl (fun C0 E0 => bJ7_copyOfRangeByte_39247 C0 v m0 k g E0 hm hk hg)
/-! java/util/Arrays.copyOfRange([BII)[B -/
abbrev rmJ7_copyOfRange_39247 (k : Nat) : Room := { frames := 2, cells := 1, slots := k, locals := 240 }
theorem hmJ7_copyOfRange_39247 : hMS yJ7_copyOfRange_39247 cJ7_copyOfRange_39247 3 (some (.array .byte)) 3 := ⟨q_1092, q_14, q_1091, by decide, by decide, by decide +kernel⟩
theorem dJ7_copyOfRange_39247_0 : decode cJ7_copyOfRange_39247 0 = .ok (.iload_n 1, 1) := by decide +kernel
theorem dJ7_copyOfRange_39247_1 : decode cJ7_copyOfRange_39247 1 = .ok (.ifCond .ne 9, 3) := by decide +kernel
theorem dJ7_copyOfRange_39247_4 : decode cJ7_copyOfRange_39247 4 = .ok (.iload_n 2, 1) := by decide +kernel
theorem dJ7_copyOfRange_39247_5 : decode cJ7_copyOfRange_39247 5 = .ok (.aload_n 0, 1) := by decide +kernel
theorem dJ7_copyOfRange_39247_6 : decode cJ7_copyOfRange_39247 6 = .ok (.arraylength, 1) := by decide +kernel
theorem dJ7_copyOfRange_39247_7 : decode cJ7_copyOfRange_39247 7 = .ok (.if_icmp .eq 10, 3) := by decide +kernel
theorem dJ7_copyOfRange_39247_10 : decode cJ7_copyOfRange_39247 10 = .ok (.aload_n 0, 1) := by decide +kernel
theorem dJ7_copyOfRange_39247_11 : decode cJ7_copyOfRange_39247 11 = .ok (.iload_n 1, 1) := by decide +kernel
theorem dJ7_copyOfRange_39247_12 : decode cJ7_copyOfRange_39247 12 = .ok (.iload_n 2, 1) := by decide +kernel
theorem dJ7_copyOfRange_39247_13 : decode cJ7_copyOfRange_39247 13 = .ok (.invokestatic 339, 3) := by decide +kernel
theorem dJ7_copyOfRange_39247_16 : decode cJ7_copyOfRange_39247 16 = .ok (.areturn, 1) := by decide +kernel
theorem dJ7_copyOfRange_39247_17 : decode cJ7_copyOfRange_39247 17 = .ok (.aload_n 0, 1) := by decide +kernel
theorem dJ7_copyOfRange_39247_18 : decode cJ7_copyOfRange_39247 18 = .ok (.invokevirtual 310, 3) := by decide +kernel
theorem dJ7_copyOfRange_39247_21 : decode cJ7_copyOfRange_39247 21 = .ok (.checkcast 311, 3) := by decide +kernel
theorem dJ7_copyOfRange_39247_24 : decode cJ7_copyOfRange_39247 24 = .ok (.areturn, 1) := by decide +kernel
set_option maxHeartbeats 4000000 in
set_option maxRecDepth 100000 in
theorem bJ7_copyOfRange_39247 {p : Program} {l : Launch} {e : Env} {s : State} {m : MethodId} {args : Array Value} {below : List Frame} {meth : Method} {c : Code} {D : va_G} {cB cC cI cO : ClassId} {A : Nat → Prop} (C0 : gC RJ7 cJ7_copyOfRange_39247 3 (some (.array .byte)) p s m args meth c D (hTy cB cC cI cO) A) (v m0 k : Nat) (g : Nat → Int32) (E0 : jE A s) (hm : m0 < 200000) (hk : k ≤ m0) (hg : sb_Fit g) : gG p l e (rmJ7_copyOfRange_39247 k) s m args below meth c D A 3 (MQ below (hQnr D (fun u => u.1.1) (fun u : {u : Nat × (Nat → Int32) // sb_Fit u.2 ∧ ∀ j, j < k → u.2 j = g j} => [(v, .inl (cB, m0, .inl g)), (u.1.1, .inl (cB, k, .inl u.1.2))]) A) args s 1 (k) A) 0 0 0 [(0, .ref v), (1, .int 0), (2, .int (Int32.ofNat k))] [] [(v, .inl (cB, m0, .inl g))] := by
  refine g_iload_n C0 dJ7_copyOfRange_39247_0 rfl 1 rfl ?_
  refine g_if_ne C0 (tgt := 10) dJ7_copyOfRange_39247_1 (by decide) (fun c1 => absurd rfl c1) (fun c1 => ?_)
  refine g_iload_n C0 dJ7_copyOfRange_39247_4 rfl 2 rfl ?_
  refine g_aload_n C0 dJ7_copyOfRange_39247_5 rfl 0 rfl ?_
  refine g_alen C0 (v := Int32.ofNat m0) 0 3 rfl rfl rfl dJ7_copyOfRange_39247_6 ?_
  refine g_icmp_eq C0 (tgt := 17) dJ7_copyOfRange_39247_7 (by decide) (fun c1 => ?_) (fun c1 => ?_)
  · have hkm : k = m0 := (n_eq (by omega) (by omega)).mp c1
    subst hkm
    refine g_aload_n C0 dJ7_copyOfRange_39247_17 rfl 0 rfl ?_
    refine g_clone C0 E0.2.2.1 q_975 q_976 q_977 q_978 q_979 (hBad_of (List.mem_of_getElem? (i := 980) (by decide +kernel)) (by decide +kernel)) 0 3 rfl rfl hg (Nat.le_of_ble_eq_true rfl) (Nat.le_of_ble_eq_true rfl) (Nat.le_of_ble_eq_true rfl) (show 0 + k ≤ k by omega) dJ7_copyOfRange_39247_18 (fun w => ?_)
    refine g_eq (ws' := [(v, .inl (cB, k, .inl g)), (w, .inl (cB, k, .inl g))]) rfl rfl rfl ?_
    refine g_castB C0 q_981 1 3 rfl rfl dJ7_copyOfRange_39247_21 ?_
    refine g_widen (kk1 := 1) (nn1 := k) (by omega) (by omega) ?_
    exact g_nretr C0 (Or.inr ⟨_, rfl⟩) dJ7_copyOfRange_39247_24 ⟨(w, g), hg, fun j hj => rfl⟩ rfl rfl
  · refine g_aload_n C0 dJ7_copyOfRange_39247_10 rfl 0 rfl ?_
    refine g_iload_n C0 dJ7_copyOfRange_39247_11 rfl 1 rfl ?_
    refine g_iload_n C0 dJ7_copyOfRange_39247_12 rfl 2 rfl ?_
    refine g_xSr (X := [(v, .inl (cB, m0, .inl g))]) (pl := []) (wr := []) (As := [.ref v, .int 0, .int (Int32.ofNat k)]) (st := []) C0 jE_ok (xe_of C0 jE_ok E0) (mJ7_copyOfRangeByte_39247 l D cB cC cI cO v m0 k g hm hk hg) hmJ7_copyOfRangeByte_39247 q_1093 ⟨Nat.le_of_ble_eq_true rfl, Nat.le_of_ble_eq_true rfl⟩ rfl rfl ⟨Nat.le_of_ble_eq_true rfl, show 0 + k ≤ k by omega⟩ rfl [0] [] rfl rfl rfl rfl (by decide) rfl rfl (Nat.le_of_ble_eq_true rfl) dJ7_copyOfRange_39247_13 (fun u => ?_)
    refine g_eq (ws' := [(v, .inl (cB, m0, .inl g)), (u.1.1, .inl (cB, k, .inl u.1.2))]) rfl rfl rfl ?_
    refine g_widen (kk1 := 1) (nn1 := k) (by omega) (by omega) ?_
    exact g_nretr C0 (Or.inr ⟨_, rfl⟩) dJ7_copyOfRange_39247_16 u rfl rfl
theorem mJ7_copyOfRange_39247 (l : Launch) (D : va_G) (cB cC cI cO : ClassId) (v m0 k : Nat) (g : Nat → Int32) (hm : m0 < 200000) (hk : k ≤ m0) (hg : sb_Fit g) : ∀ sz, Met l yJ7_copyOfRange_39247 (ws_ yJ7_copyOfRange_39247 cJ7_copyOfRange_39247 3 (some (.array .byte))) (rmJ7_copyOfRange_39247 k) (va_Pc [.ref v, .int 0, .int (Int32.ofNat k)] (hPreE jE D (hTy cB cC cI cO) [(v, .inl (cB, m0, .inl g))] sz)) (hQnr D (fun u => u.1.1) (fun u : {u : Nat × (Nat → Int32) // sb_Fit u.2 ∧ ∀ j, j < k → u.2 j = g j} => [(v, .inl (cB, m0, .inl g)), (u.1.1, .inl (cB, k, .inl u.1.2))]) (va_A [(v, .inl (cB, m0, .inl g))] sz)) 1 (k) (va_A [(v, .inl (cB, m0, .inl g))] sz) :=
  g_metE (Qf := fun A => hQnr D (fun u => u.1.1) (fun u : {u : Nat × (Nat → Int32) // sb_Fit u.2 ∧ ∀ j, j < k → u.2 j = g j} => [(v, .inl (cB, m0, .inl g)), (u.1.1, .inl (cB, k, .inl u.1.2))]) A) (by decide +kernel) (Nat.le_of_ble_eq_true rfl) rfl (fun C0 E0 => bJ7_copyOfRange_39247 C0 v m0 k g E0 hm hk hg)
theorem wsO_len : GoodIn hAll (va_wsO RJ0 549 RJ4 RJ5 yJ5_length_8abf5 yJ4_length_8abf5 (ws_ yJ4_length_8abf5 cJ4_length_8abf5 1 (some .int))) := by
  intro w hw
  rcases List.mem_append.mp hw with hw | hw
  · refine hAll_good w ?_
    simp only [List.mem_cons, List.not_mem_nil, or_false] at hw
    rcases hw with rfl | rfl | rfl | rfl | rfl | rfl
    · exact q_1081
    · exact q_1083
    · exact q_1082
    · exact q_1084
    · exact q_1085
    · exact q_31
  · exact ws_good hmJ4_length_8abf5 w hw
/-! java/lang/String.<init>(Ljava/lang/AbstractStringBuilder;Ljava/lang/Void;)V -/
abbrev rmJ0_init_db425 (n : Nat) : Room := { frames := 3, cells := 1, slots := n, locals := 290 }
theorem hmJ0_init_db425 : hMI yJ0_init_db425 cJ0_init_db425 5 2 := ⟨q_1074, q_28, q_1073, rfl, by decide, by decide, by decide +kernel⟩
theorem dJ0_init_db425_0 : decode cJ0_init_db425 0 = .ok (.aload_n 0, 1) := by decide +kernel
theorem dJ0_init_db425_1 : decode cJ0_init_db425 1 = .ok (.invokespecial 1, 3) := by decide +kernel
theorem dJ0_init_db425_4 : decode cJ0_init_db425 4 = .ok (.aload_n 1, 1) := by decide +kernel
theorem dJ0_init_db425_5 : decode cJ0_init_db425 5 = .ok (.invokevirtual 552, 3) := by decide +kernel
theorem dJ0_init_db425_8 : decode cJ0_init_db425 8 = .ok (.astore_n 3, 1) := by decide +kernel
theorem dJ0_init_db425_9 : decode cJ0_init_db425 9 = .ok (.aload_n 1, 1) := by decide +kernel
theorem dJ0_init_db425_10 : decode cJ0_init_db425 10 = .ok (.invokevirtual 549, 3) := by decide +kernel
theorem dJ0_init_db425_13 : decode cJ0_init_db425 13 = .ok (.istore 4, 2) := by decide +kernel
theorem dJ0_init_db425_15 : decode cJ0_init_db425 15 = .ok (.aload_n 1, 1) := by decide +kernel
theorem dJ0_init_db425_16 : decode cJ0_init_db425 16 = .ok (.invokevirtual 1047, 3) := by decide +kernel
theorem dJ0_init_db425_19 : decode cJ0_init_db425 19 = .ok (.ifCond .eq 22, 3) := by decide +kernel
theorem dJ0_init_db425_22 : decode cJ0_init_db425 22 = .ok (.aload_n 0, 1) := by decide +kernel
theorem dJ0_init_db425_23 : decode cJ0_init_db425 23 = .ok (.iconst 0, 1) := by decide +kernel
theorem dJ0_init_db425_24 : decode cJ0_init_db425 24 = .ok (.putfield 15, 3) := by decide +kernel
theorem dJ0_init_db425_27 : decode cJ0_init_db425 27 = .ok (.aload_n 0, 1) := by decide +kernel
theorem dJ0_init_db425_28 : decode cJ0_init_db425 28 = .ok (.aload_n 3, 1) := by decide +kernel
theorem dJ0_init_db425_29 : decode cJ0_init_db425 29 = .ok (.iconst 0, 1) := by decide +kernel
theorem dJ0_init_db425_30 : decode cJ0_init_db425 30 = .ok (.iload 4, 2) := by decide +kernel
theorem dJ0_init_db425_32 : decode cJ0_init_db425 32 = .ok (.invokestatic 54, 3) := by decide +kernel
theorem dJ0_init_db425_35 : decode cJ0_init_db425 35 = .ok (.putfield 9, 3) := by decide +kernel
theorem dJ0_init_db425_38 : decode cJ0_init_db425 38 = .ok (.goto 59, 3) := by decide +kernel
theorem dJ0_init_db425_41 : decode cJ0_init_db425 41 = .ok (.getstatic 38, 3) := by decide +kernel
theorem dJ0_init_db425_44 : decode cJ0_init_db425 44 = .ok (.ifCond .eq 35, 3) := by decide +kernel
theorem dJ0_init_db425_47 : decode cJ0_init_db425 47 = .ok (.aload_n 1, 1) := by decide +kernel
theorem dJ0_init_db425_48 : decode cJ0_init_db425 48 = .ok (.getfield 1048, 3) := by decide +kernel
theorem dJ0_init_db425_51 : decode cJ0_init_db425 51 = .ok (.ifCond .eq 28, 3) := by decide +kernel
theorem dJ0_init_db425_54 : decode cJ0_init_db425 54 = .ok (.aload_n 0, 1) := by decide +kernel
theorem dJ0_init_db425_55 : decode cJ0_init_db425 55 = .ok (.aload_n 3, 1) := by decide +kernel
theorem dJ0_init_db425_56 : decode cJ0_init_db425 56 = .ok (.iconst 0, 1) := by decide +kernel
theorem dJ0_init_db425_57 : decode cJ0_init_db425 57 = .ok (.iload 4, 2) := by decide +kernel
theorem dJ0_init_db425_59 : decode cJ0_init_db425 59 = .ok (.invokestatic 1051, 3) := by decide +kernel
theorem dJ0_init_db425_62 : decode cJ0_init_db425 62 = .ok (.putfield 9, 3) := by decide +kernel
theorem dJ0_init_db425_65 : decode cJ0_init_db425 65 = .ok (.aload_n 0, 1) := by decide +kernel
theorem dJ0_init_db425_66 : decode cJ0_init_db425 66 = .ok (.aload_n 0, 1) := by decide +kernel
theorem dJ0_init_db425_67 : decode cJ0_init_db425 67 = .ok (.getfield 9, 3) := by decide +kernel
theorem dJ0_init_db425_70 : decode cJ0_init_db425 70 = .ok (.iload 4, 2) := by decide +kernel
theorem dJ0_init_db425_72 : decode cJ0_init_db425 72 = .ok (.invokestatic 47, 3) := by decide +kernel
theorem dJ0_init_db425_75 : decode cJ0_init_db425 75 = .ok (.putfield 15, 3) := by decide +kernel
theorem dJ0_init_db425_78 : decode cJ0_init_db425 78 = .ok (.return_, 1) := by decide +kernel
theorem dJ0_init_db425_79 : decode cJ0_init_db425 79 = .ok (.aload_n 0, 1) := by decide +kernel
theorem dJ0_init_db425_80 : decode cJ0_init_db425 80 = .ok (.iconst 1, 1) := by decide +kernel
theorem dJ0_init_db425_81 : decode cJ0_init_db425 81 = .ok (.putfield 15, 3) := by decide +kernel
theorem dJ0_init_db425_84 : decode cJ0_init_db425 84 = .ok (.aload_n 0, 1) := by decide +kernel
theorem dJ0_init_db425_85 : decode cJ0_init_db425 85 = .ok (.aload_n 3, 1) := by decide +kernel
theorem dJ0_init_db425_86 : decode cJ0_init_db425 86 = .ok (.iconst 0, 1) := by decide +kernel
theorem dJ0_init_db425_87 : decode cJ0_init_db425 87 = .ok (.iload 4, 2) := by decide +kernel
theorem dJ0_init_db425_89 : decode cJ0_init_db425 89 = .ok (.iconst 1, 1) := by decide +kernel
theorem dJ0_init_db425_90 : decode cJ0_init_db425 90 = .ok (.ishl, 1) := by decide +kernel
theorem dJ0_init_db425_91 : decode cJ0_init_db425 91 = .ok (.invokestatic 54, 3) := by decide +kernel
theorem dJ0_init_db425_94 : decode cJ0_init_db425 94 = .ok (.putfield 9, 3) := by decide +kernel
theorem dJ0_init_db425_97 : decode cJ0_init_db425 97 = .ok (.return_, 1) := by decide +kernel
set_option maxHeartbeats 4000000 in
set_option maxRecDepth 100000 in
theorem bJ0_init_db425 {p : Program} {l : Launch} {e : Env} {s : State} {m : MethodId} {args : Array Value} {below : List Frame} {meth : Method} {c : Code} {D : va_G} {cB cC cI cO : ClassId} {A : Nat → Prop} (C0 : gC RJ0 cJ0_init_db425 5 none p s m args meth c D (hTy cB cC cI cO) A) (hin : meth.name = "<init>") (a b v : Nat) (ml : Int32) (n m0 : Nat) (g t : Nat → Int32) (E0 : jE A s) (hn : n ≤ 2000) (hb : sbP n t (v, m0, g)) : gG p l e (rmJ0_init_db425 n) s m args below meth c D A 5 (MQ below (hQn D (fun u : {u : Nat × (Nat → Int32) // sb_Fit u.2 ∧ ∀ j, j < n → u.2 j = t j} => List.append (sbW cB b ml n (v, m0, g)) [(a, .inr (0, [.ref u.1.1, .int 0, .int 0, .int 0])), (u.1.1, .inl (cB, n, .inl u.1.2))]) A) args s 1 (n) A) 0 0 0 [(0, .ref a), (1, .ref b), (2, .null)] [] (List.append (sbW cB b ml n (v, m0, g)) [(a, .inr (0, [.null, .int 0, .int 0, .int 0]))]) := by
  obtain ⟨hb1, hb2, hb3, hb4⟩ := hb
  have hb5 : m0 ≤ 16 + 2 * n := hb2
  have hb6 : n ≤ m0 := hb1
  refine g_eq (ws' := [(b, .inr (1, [.ref v, .int 0, .int ml, .int (Int32.ofNat n)])), (v, .inl (cB, m0, .inl g)), (a, .inr (0, [.null, .int 0, .int 0, .int 0]))]) rfl rfl rfl ?_
  refine g_aload_n C0 dJ0_init_db425_0 rfl 0 rfl ?_
  refine g_objInit C0 q_1075 q_49 q_50 dJ0_init_db425_1 (Nat.le_of_ble_eq_true rfl) (Nat.le_of_ble_eq_true rfl) ?_
  refine g_aload_n C0 dJ0_init_db425_4 rfl 1 rfl ?_
  refine g_xVr (X := [(b, .inr (1, [.ref v, .int 0, .int ml, .int (Int32.ofNat n)])), (v, .inl (cB, m0, .inl g)), (a, .inr (0, [.null, .int 0, .int 0, .int 0]))]) (pl := []) (wr := [(v, .inl (cB, m0, .inl g)), (a, .inr (0, [.null, .int 0, .int 0, .int 0]))]) (As := []) (st := []) (b := b) C0 jE_ok (xe_of C0 jE_ok E0) (xr_w C0 0 rfl rfl) (mJ5_getValue_6d5f1 l D cB cC cI cO b v ml n) hmJ5_getValue_6d5f1 q_1076 ⟨Nat.le_of_ble_eq_true rfl, Nat.le_of_ble_eq_true rfl⟩ rfl rfl ⟨Nat.zero_le _, Nat.zero_le _⟩ rfl [0] [1, 2] rfl rfl rfl rfl (by decide) rfl rfl (Nat.le_of_ble_eq_true rfl) dJ0_init_db425_5 (fun _ => ?_)
  refine g_ord (ws' := [(b, .inr (1, [.ref v, .int 0, .int ml, .int (Int32.ofNat n)])), (v, .inl (cB, m0, .inl g)), (a, .inr (0, [.null, .int 0, .int 0, .int 0]))]) [2, 0, 1] rfl rfl ?_
  refine g_astore_n C0 (lv' := [(3, .ref v), (0, .ref a), (1, .ref b), (2, .null)]) dJ0_init_db425_8 rfl (by decide) rfl ?_
  refine g_aload_n C0 dJ0_init_db425_9 rfl 2 rfl ?_
  refine g_xOi (C := RJ4) (owner := RJ5) (x := yJ5_length_8abf5) (X := [(b, .inr (1, [.ref v, .int 0, .int ml, .int (Int32.ofNat n)])), (v, .inl (cB, m0, .inl g)), (a, .inr (0, [.null, .int 0, .int 0, .int 0]))]) (pl := []) (wr := [(v, .inl (cB, m0, .inl g)), (a, .inr (0, [.null, .int 0, .int 0, .int 0]))]) (As := []) (st := []) (b := b) C0 jE_ok (xe_of C0 jE_ok E0) (xr_w C0 0 rfl rfl) (mJ4_length_8abf5 l D cB cC cI cO b v ml n) wsO_len q_1088 (by decide +kernel) ⟨Nat.le_of_ble_eq_true rfl, Nat.le_of_ble_eq_true rfl⟩ rfl rfl ⟨Nat.zero_le _, Nat.zero_le _⟩ rfl [0] [1, 2] rfl rfl rfl rfl (by decide) rfl rfl (Nat.le_of_ble_eq_true rfl) dJ0_init_db425_10 (fun _ => ?_)
  refine g_ord (ws' := [(b, .inr (1, [.ref v, .int 0, .int ml, .int (Int32.ofNat n)])), (v, .inl (cB, m0, .inl g)), (a, .inr (0, [.null, .int 0, .int 0, .int 0]))]) [2, 0, 1] rfl rfl ?_
  refine g_istore C0 (lv' := [(4, .int (Int32.ofNat n)), (3, .ref v), (0, .ref a), (1, .ref b), (2, .null)]) dJ0_init_db425_13 (by decide) rfl ?_
  refine g_aload_n C0 dJ0_init_db425_15 rfl 3 rfl ?_
  refine g_xVi (X := [(b, .inr (1, [.ref v, .int 0, .int ml, .int (Int32.ofNat n)])), (v, .inl (cB, m0, .inl g)), (a, .inr (0, [.null, .int 0, .int 0, .int 0]))]) (pl := []) (wr := [(v, .inl (cB, m0, .inl g)), (a, .inr (0, [.null, .int 0, .int 0, .int 0]))]) (As := []) (st := []) (b := b) C0 jE_ok (xe_of C0 jE_ok E0) (xr_w C0 0 rfl rfl) (mJ5_isLatin1_aae02 l D cB cC cI cO b v ml n) hmJ5_isLatin1_aae02 q_1089 ⟨Nat.le_of_ble_eq_true rfl, Nat.le_of_ble_eq_true rfl⟩ rfl rfl ⟨Nat.zero_le _, Nat.zero_le _⟩ rfl [0] [1, 2] rfl rfl rfl rfl (by decide) rfl rfl (Nat.le_of_ble_eq_true rfl) dJ0_init_db425_16 (fun _ => ?_)
  refine g_ord (ws' := [(b, .inr (1, [.ref v, .int 0, .int ml, .int (Int32.ofNat n)])), (v, .inl (cB, m0, .inl g)), (a, .inr (0, [.null, .int 0, .int 0, .int 0]))]) [2, 0, 1] rfl rfl ?_
  refine g_if_eq C0 (tgt := 41) dJ0_init_db425_19 (by decide) (fun c1 => absurd c1 (by decide)) (fun c1 => ?_)
  refine g_aload_n C0 dJ0_init_db425_22 rfl 2 rfl ?_
  refine g_iconst C0 (v := (0 : Int32)) dJ0_init_db425_23 (by decide) ?_
  refine g_putF C0 (ws' := [(b, .inr (1, [.ref v, .int 0, .int ml, .int (Int32.ofNat n)])), (v, .inl (cB, m0, .inl g)), (a, .inr (0, [.null, .int 0, .int 0, .int 0]))]) hinJ0 2 rfl rfl 1 (by decide) q_1118 hin rfl tyJ0_ok nmJ0 rfl rfl rfl (Nat.le_of_ble_eq_true rfl) rfl dJ0_init_db425_24 ?_
  refine g_aload_n C0 dJ0_init_db425_27 rfl 2 rfl ?_
  refine g_aload_n C0 dJ0_init_db425_28 rfl 1 rfl ?_
  refine g_iconst C0 (v := (0 : Int32)) dJ0_init_db425_29 (by decide) ?_
  refine g_iload C0 dJ0_init_db425_30 0 rfl ?_
  refine g_xSr (X := [(b, .inr (1, [.ref v, .int 0, .int ml, .int (Int32.ofNat n)])), (v, .inl (cB, m0, .inl g)), (a, .inr (0, [.null, .int 0, .int 0, .int 0]))]) (pl := []) (wr := [(b, .inr (1, [.ref v, .int 0, .int ml, .int (Int32.ofNat n)])), (a, .inr (0, [.null, .int 0, .int 0, .int 0]))]) (As := [.ref v, .int 0, .int (Int32.ofNat n)]) (st := [.ref a]) C0 jE_ok (xe_of C0 jE_ok E0) (mJ7_copyOfRange_39247 l D cB cC cI cO v m0 n g (by omega) hb1 hb3) hmJ7_copyOfRange_39247 q_1090 ⟨Nat.le_of_ble_eq_true rfl, Nat.le_of_ble_eq_true rfl⟩ rfl rfl ⟨Nat.le_of_ble_eq_true rfl, show 0 + 0 + 0 + 0 + n ≤ n by omega⟩ rfl [1] [0, 2] rfl rfl rfl rfl (by decide) rfl rfl (Nat.le_of_ble_eq_true rfl) dJ0_init_db425_32 (fun u => ?_)
  refine g_ord (ws' := [(b, .inr (1, [.ref v, .int 0, .int ml, .int (Int32.ofNat n)])), (v, .inl (cB, m0, .inl g)), (a, .inr (0, [.null, .int 0, .int 0, .int 0])), (u.1.1, .inl (cB, n, .inl u.1.2))]) [0, 2, 1, 3] rfl rfl ?_
  refine g_putF C0 (ws' := [(b, .inr (1, [.ref v, .int 0, .int ml, .int (Int32.ofNat n)])), (v, .inl (cB, m0, .inl g)), (a, .inr (0, [.ref u.1.1, .int 0, .int 0, .int 0])), (u.1.1, .inl (cB, n, .inl u.1.2))]) hinJ0 2 rfl rfl 0 (by decide) q_1117 hin rfl tyJ0_ok nmJ0 rfl rfl rfl (Nat.le_of_ble_eq_true rfl) rfl dJ0_init_db425_35 ?_
  refine g_goto C0 (tgt := 97) dJ0_init_db425_38 (by decide) ?_
  refine g_widen (kk1 := 1) (nn1 := n) (by omega) (by omega) ?_
  exact g_nret C0 dJ0_init_db425_97 ⟨u.1, u.2.1, fun j hj => (u.2.2 j hj).trans (hb4 j hj)⟩ rfl
theorem mJ0_init_db425 (l : Launch) (D : va_G) (cB cC cI cO : ClassId) (a b v : Nat) (ml : Int32) (n m0 : Nat) (g t : Nat → Int32) (hn : n ≤ 2000) (hb : sbP n t (v, m0, g)) : ∀ sz, Met l yJ0_init_db425 (ws_ yJ0_init_db425 cJ0_init_db425 5 none) (rmJ0_init_db425 n) (va_Pc [.ref a, .ref b, .null] (hPreE jE D (hTy cB cC cI cO) (List.append (sbW cB b ml n (v, m0, g)) [(a, .inr (0, [.null, .int 0, .int 0, .int 0]))]) sz)) (hQn D (fun u : {u : Nat × (Nat → Int32) // sb_Fit u.2 ∧ ∀ j, j < n → u.2 j = t j} => List.append (sbW cB b ml n (v, m0, g)) [(a, .inr (0, [.ref u.1.1, .int 0, .int 0, .int 0])), (u.1.1, .inl (cB, n, .inl u.1.2))]) (va_A (List.append (sbW cB b ml n (v, m0, g)) [(a, .inr (0, [.null, .int 0, .int 0, .int 0]))]) sz)) 1 (n) (va_A (List.append (sbW cB b ml n (v, m0, g)) [(a, .inr (0, [.null, .int 0, .int 0, .int 0]))]) sz) :=
  g_metEI (Qf := fun A => hQn D (fun u : {u : Nat × (Nat → Int32) // sb_Fit u.2 ∧ ∀ j, j < n → u.2 j = t j} => List.append (sbW cB b ml n (v, m0, g)) [(a, .inr (0, [.ref u.1.1, .int 0, .int 0, .int 0])), (u.1.1, .inl (cB, n, .inl u.1.2))]) A) (by decide +kernel) (Nat.le_of_ble_eq_true rfl) rfl (fun C0 hin E0 => bJ0_init_db425 C0 hin a b v ml n m0 g t E0 hn hb)
/-! java/lang/String.<init>(Ljava/lang/StringBuilder;)V -/
abbrev rmJ0_init_81219 (n : Nat) : Room := { frames := 4, cells := 1, slots := n, locals := 330 }
theorem hmJ0_init_81219 : hMI yJ0_init_81219 cJ0_init_81219 2 1 := ⟨q_1071, q_28, q_1070, rfl, by decide, by decide, by decide +kernel⟩
theorem dJ0_init_81219_0 : decode cJ0_init_81219 0 = .ok (.aload_n 0, 1) := by decide +kernel
theorem dJ0_init_81219_1 : decode cJ0_init_81219 1 = .ok (.aload_n 1, 1) := by decide +kernel
theorem dJ0_init_81219_2 : decode cJ0_init_81219 2 = .ok (.aconst_null, 1) := by decide +kernel
theorem dJ0_init_81219_3 : decode cJ0_init_81219 3 = .ok (.invokespecial 489, 3) := by decide +kernel
theorem dJ0_init_81219_6 : decode cJ0_init_81219 6 = .ok (.return_, 1) := by decide +kernel
set_option maxHeartbeats 4000000 in
set_option maxRecDepth 100000 in
theorem bJ0_init_81219 {p : Program} {l : Launch} {e : Env} {s : State} {m : MethodId} {args : Array Value} {below : List Frame} {meth : Method} {c : Code} {D : va_G} {cB cC cI cO : ClassId} {A : Nat → Prop} (C0 : gC RJ0 cJ0_init_81219 2 none p s m args meth c D (hTy cB cC cI cO) A) (hin : meth.name = "<init>") (a b v : Nat) (ml : Int32) (n m0 : Nat) (g t : Nat → Int32) (E0 : jE A s) (hn : n ≤ 2000) (hb : sbP n t (v, m0, g)) : gG p l e (rmJ0_init_81219 n) s m args below meth c D A 2 (MQ below (hQn D (fun u : {u : Nat × (Nat → Int32) // sb_Fit u.2 ∧ ∀ j, j < n → u.2 j = t j} => List.append (sbW cB b ml n (v, m0, g)) [(a, .inr (0, [.ref u.1.1, .int 0, .int 0, .int 0])), (u.1.1, .inl (cB, n, .inl u.1.2))]) A) args s 1 (n) A) 0 0 0 [(0, .ref a), (1, .ref b)] [] (List.append (sbW cB b ml n (v, m0, g)) [(a, .inr (0, [.null, .int 0, .int 0, .int 0]))]) := by
  refine g_eq (ws' := [(b, .inr (1, [.ref v, .int 0, .int ml, .int (Int32.ofNat n)])), (v, .inl (cB, m0, .inl g)), (a, .inr (0, [.null, .int 0, .int 0, .int 0]))]) rfl rfl rfl ?_
  refine g_aload_n C0 dJ0_init_81219_0 rfl 0 rfl ?_
  refine g_aload_n C0 dJ0_init_81219_1 rfl 1 rfl ?_
  refine g_aconst_null C0 dJ0_init_81219_2 ?_
  refine g_xIv (X := [(b, .inr (1, [.ref v, .int 0, .int ml, .int (Int32.ofNat n)])), (v, .inl (cB, m0, .inl g)), (a, .inr (0, [.null, .int 0, .int 0, .int 0]))]) (pl := []) (wr := []) (As := [.ref b, .null]) (st := []) (ret := none) (b := a) C0 jE_ok (xe_of C0 jE_ok E0) (mJ0_init_db425 l D cB cC cI cO a b v ml n m0 g t hn hb) hmJ0_init_db425 q_1072 ⟨Nat.le_of_ble_eq_true rfl, Nat.le_of_ble_eq_true rfl⟩ rfl rfl ⟨Nat.le_of_ble_eq_true rfl, show 0 + n ≤ n by omega⟩ rfl [0, 1, 2] [] rfl rfl rfl rfl (by decide) rfl rfl (Nat.le_of_ble_eq_true rfl) dJ0_init_81219_3 (fun u => ?_)
  refine g_widen (kk1 := 1) (nn1 := n) (by omega) (by omega) ?_
  exact g_nret C0 dJ0_init_81219_6 u rfl
theorem mJ0_init_81219 (l : Launch) (D : va_G) (cB cC cI cO : ClassId) (a b v : Nat) (ml : Int32) (n m0 : Nat) (g t : Nat → Int32) (hn : n ≤ 2000) (hb : sbP n t (v, m0, g)) : ∀ sz, Met l yJ0_init_81219 (ws_ yJ0_init_81219 cJ0_init_81219 2 none) (rmJ0_init_81219 n) (va_Pc [.ref a, .ref b] (hPreE jE D (hTy cB cC cI cO) (List.append (sbW cB b ml n (v, m0, g)) [(a, .inr (0, [.null, .int 0, .int 0, .int 0]))]) sz)) (hQn D (fun u : {u : Nat × (Nat → Int32) // sb_Fit u.2 ∧ ∀ j, j < n → u.2 j = t j} => List.append (sbW cB b ml n (v, m0, g)) [(a, .inr (0, [.ref u.1.1, .int 0, .int 0, .int 0])), (u.1.1, .inl (cB, n, .inl u.1.2))]) (va_A (List.append (sbW cB b ml n (v, m0, g)) [(a, .inr (0, [.null, .int 0, .int 0, .int 0]))]) sz)) 1 (n) (va_A (List.append (sbW cB b ml n (v, m0, g)) [(a, .inr (0, [.null, .int 0, .int 0, .int 0]))]) sz) :=
  g_metEI (Qf := fun A => hQn D (fun u : {u : Nat × (Nat → Int32) // sb_Fit u.2 ∧ ∀ j, j < n → u.2 j = t j} => List.append (sbW cB b ml n (v, m0, g)) [(a, .inr (0, [.ref u.1.1, .int 0, .int 0, .int 0])), (u.1.1, .inl (cB, n, .inl u.1.2))]) A) (by decide +kernel) (Nat.le_of_ble_eq_true rfl) rfl (fun C0 hin E0 => bJ0_init_81219 C0 hin a b v ml n m0 g t E0 hn hb)
theorem hl_dS (z : Nat) (hz : z < 4) : defaultValue (tyJ0 z) = vp_V [.null, .int 0, .int 0, .int 0] z := by
  rcases (show z = 0 ∨ z = 1 ∨ z = 2 ∨ z = 3 by omega) with rfl | rfl | rfl | rfl <;> rfl
theorem hl_dB (z : Nat) (hz : z < 4) : defaultValue (tyJ4 z) = vp_V [.null, .int 0, .int 0, .int 0] z := by
  rcases (show z = 0 ∨ z = 1 ∨ z = 2 ∨ z = 3 by omega) with rfl | rfl | rfl | rfl <;> rfl
/-! java/lang/StringBuilder.toString()Ljava/lang/String; -/
abbrev rmJ4_toString_0e30d (n : Nat) : Room := { frames := 5, cells := 2, slots := (n + 4), locals := 370 }
theorem hmJ4_toString_0e30d : hMC RJ4 yJ4_toString_0e30d cJ4_toString_0e30d 1 (some (.object "java/lang/String")) 0 := ⟨q_1067, q_31, q_1065, q_1066, by decide, by decide, by decide +kernel⟩
theorem dJ4_toString_0e30d_0 : decode cJ4_toString_0e30d 0 = .ok (.new 18, 3) := by decide +kernel
theorem dJ4_toString_0e30d_3 : decode cJ4_toString_0e30d 3 = .ok (.dup, 1) := by decide +kernel
theorem dJ4_toString_0e30d_4 : decode cJ4_toString_0e30d 4 = .ok (.aload_n 0, 1) := by decide +kernel
theorem dJ4_toString_0e30d_5 : decode cJ4_toString_0e30d 5 = .ok (.invokespecial 137, 3) := by decide +kernel
theorem dJ4_toString_0e30d_8 : decode cJ4_toString_0e30d 8 = .ok (.areturn, 1) := by decide +kernel
set_option maxHeartbeats 4000000 in
set_option maxRecDepth 100000 in
theorem bJ4_toString_0e30d {p : Program} {l : Launch} {e : Env} {s : State} {m : MethodId} {args : Array Value} {below : List Frame} {meth : Method} {c : Code} {D : va_G} {cB cC cI cO : ClassId} {A : Nat → Prop} (C0 : gC RJ4 cJ4_toString_0e30d 1 (some (.object "java/lang/String")) p s m args meth c D (hTy cB cC cI cO) A) (b v : Nat) (ml : Int32) (n m0 : Nat) (g t : Nat → Int32) (E0 : jE A s) (hn : n ≤ 2000) (hb : sbP n t (v, m0, g)) : gG p l e (rmJ4_toString_0e30d n) s m args below meth c D A 1 (MQ below (hQnr D (fun u => u.1.1) (fun u : {u : Nat × Nat × (Nat → Int32) // sb_Fit u.2.2 ∧ ∀ j, j < n → u.2.2 j = t j} => List.append (sbW cB b ml n (v, m0, g)) [(u.1.1, .inr (0, [.ref u.1.2.1, .int 0, .int 0, .int 0])), (u.1.2.1, .inl (cB, n, .inl u.1.2.2))]) A) args s 2 ((n + 4)) A) 0 0 0 [(0, .ref b)] [] (sbW cB b ml n (v, m0, g)) := by
  refine g_eq (ws' := [(b, .inr (1, [.ref v, .int 0, .int ml, .int (Int32.ofNat n)])), (v, .inl (cB, m0, .inl g))]) rfl rfl rfl ?_
  refine g_new (ci := 0) (fs := [.null, .int 0, .int 0, .int 0]) C0 hinJ0 tyJ0_ok q_1068 q_754 q_28 rfl (fun z hz => hl_dS z hz) (Nat.le_of_ble_eq_true rfl) (show 0 + 4 ≤ n + 4 by omega) dJ4_toString_0e30d_0 (fun a => ?_)
  refine g_eq (ws' := [(b, .inr (1, [.ref v, .int 0, .int ml, .int (Int32.ofNat n)])), (v, .inl (cB, m0, .inl g)), (a, .inr (0, [.null, .int 0, .int 0, .int 0]))]) rfl rfl rfl ?_
  refine g_dup C0 dJ4_toString_0e30d_3 rfl ?_
  refine g_aload_n C0 dJ4_toString_0e30d_4 rfl 0 rfl ?_
  refine g_xIv (X := [(b, .inr (1, [.ref v, .int 0, .int ml, .int (Int32.ofNat n)])), (v, .inl (cB, m0, .inl g)), (a, .inr (0, [.null, .int 0, .int 0, .int 0]))]) (pl := []) (wr := []) (As := [.ref b]) (st := [.ref a]) (ret := none) (b := a) C0 jE_ok (xe_of C0 jE_ok E0) (mJ0_init_81219 l D cB cC cI cO a b v ml n m0 g t hn hb) hmJ0_init_81219 q_1069 ⟨Nat.le_of_ble_eq_true rfl, Nat.le_of_ble_eq_true rfl⟩ rfl rfl ⟨Nat.le_of_ble_eq_true rfl, show 0 + 4 + n ≤ n + 4 by omega⟩ rfl [0, 1, 2] [] rfl rfl rfl rfl (by decide) rfl rfl (Nat.le_of_ble_eq_true rfl) dJ4_toString_0e30d_5 (fun u => ?_)
  refine g_widen (kk1 := 2) (nn1 := n + 4) (by omega) (by omega) ?_
  exact g_nretr C0 (Or.inl ⟨_, rfl⟩) dJ4_toString_0e30d_8 ⟨(a, u.1.1, u.1.2), u.2.1, u.2.2⟩ rfl rfl
theorem mJ4_toString_0e30d (l : Launch) (D : va_G) (cB cC cI cO : ClassId) (b v : Nat) (ml : Int32) (n m0 : Nat) (g t : Nat → Int32) (hn : n ≤ 2000) (hb : sbP n t (v, m0, g)) : ∀ sz, Met l yJ4_toString_0e30d (ws_ yJ4_toString_0e30d cJ4_toString_0e30d 1 (some (.object "java/lang/String"))) (rmJ4_toString_0e30d n) (va_Pc [.ref b] (hPreE jE D (hTy cB cC cI cO) (sbW cB b ml n (v, m0, g)) sz)) (hQnr D (fun u => u.1.1) (fun u : {u : Nat × Nat × (Nat → Int32) // sb_Fit u.2.2 ∧ ∀ j, j < n → u.2.2 j = t j} => List.append (sbW cB b ml n (v, m0, g)) [(u.1.1, .inr (0, [.ref u.1.2.1, .int 0, .int 0, .int 0])), (u.1.2.1, .inl (cB, n, .inl u.1.2.2))]) (va_A (sbW cB b ml n (v, m0, g)) sz)) 2 ((n + 4)) (va_A (sbW cB b ml n (v, m0, g)) sz) :=
  g_metE (Qf := fun A => hQnr D (fun u => u.1.1) (fun u : {u : Nat × Nat × (Nat → Int32) // sb_Fit u.2.2 ∧ ∀ j, j < n → u.2.2 j = t j} => List.append (sbW cB b ml n (v, m0, g)) [(u.1.1, .inr (0, [.ref u.1.2.1, .int 0, .int 0, .int 0])), (u.1.2.1, .inl (cB, n, .inl u.1.2.2))]) A) (by decide +kernel) (Nat.le_of_ble_eq_true rfl) rfl (fun C0 E0 => bJ4_toString_0e30d C0 b v ml n m0 g t E0 hn hb)
/-! java/lang/AbstractStringBuilder.<init>(I)V -/
abbrev rmJ5_init_d00df : Room := { frames := 1, cells := 1, slots := 16, locals := 20 }
theorem hmJ5_init_d00df : hMI yJ5_init_d00df cJ5_init_d00df 2 1 := ⟨q_921, q_30, q_920, rfl, by decide, by decide, by decide +kernel⟩
theorem dJ5_init_d00df_0 : decode cJ5_init_d00df 0 = .ok (.aload_n 0, 1) := by decide +kernel
theorem dJ5_init_d00df_1 : decode cJ5_init_d00df 1 = .ok (.invokespecial 3, 3) := by decide +kernel
theorem dJ5_init_d00df_4 : decode cJ5_init_d00df 4 = .ok (.getstatic 18, 3) := by decide +kernel
theorem dJ5_init_d00df_7 : decode cJ5_init_d00df 7 = .ok (.ifCond .eq 18, 3) := by decide +kernel
theorem dJ5_init_d00df_10 : decode cJ5_init_d00df 10 = .ok (.aload_n 0, 1) := by decide +kernel
theorem dJ5_init_d00df_11 : decode cJ5_init_d00df 11 = .ok (.iload_n 1, 1) := by decide +kernel
theorem dJ5_init_d00df_12 : decode cJ5_init_d00df 12 = .ok (.newarray .byte, 2) := by decide +kernel
theorem dJ5_init_d00df_14 : decode cJ5_init_d00df 14 = .ok (.putfield 15, 3) := by decide +kernel
theorem dJ5_init_d00df_17 : decode cJ5_init_d00df 17 = .ok (.aload_n 0, 1) := by decide +kernel
theorem dJ5_init_d00df_18 : decode cJ5_init_d00df 18 = .ok (.iconst 0, 1) := by decide +kernel
theorem dJ5_init_d00df_19 : decode cJ5_init_d00df 19 = .ok (.putfield 22, 3) := by decide +kernel
theorem dJ5_init_d00df_22 : decode cJ5_init_d00df 22 = .ok (.goto 16, 3) := by decide +kernel
theorem dJ5_init_d00df_25 : decode cJ5_init_d00df 25 = .ok (.aload_n 0, 1) := by decide +kernel
theorem dJ5_init_d00df_26 : decode cJ5_init_d00df 26 = .ok (.iload_n 1, 1) := by decide +kernel
theorem dJ5_init_d00df_27 : decode cJ5_init_d00df 27 = .ok (.invokestatic 26, 3) := by decide +kernel
theorem dJ5_init_d00df_30 : decode cJ5_init_d00df 30 = .ok (.putfield 15, 3) := by decide +kernel
theorem dJ5_init_d00df_33 : decode cJ5_init_d00df 33 = .ok (.aload_n 0, 1) := by decide +kernel
theorem dJ5_init_d00df_34 : decode cJ5_init_d00df 34 = .ok (.iconst 1, 1) := by decide +kernel
theorem dJ5_init_d00df_35 : decode cJ5_init_d00df 35 = .ok (.putfield 22, 3) := by decide +kernel
theorem dJ5_init_d00df_38 : decode cJ5_init_d00df 38 = .ok (.return_, 1) := by decide +kernel
set_option maxHeartbeats 4000000 in
set_option maxRecDepth 100000 in
theorem bJ5_init_d00df {p : Program} {l : Launch} {e : Env} {s : State} {m : MethodId} {args : Array Value} {below : List Frame} {meth : Method} {c : Code} {D : va_G} {cB cC cI cO : ClassId} {A : Nat → Prop} (C0 : gC RJ5 cJ5_init_d00df 2 none p s m args meth c D (hTy cB cC cI cO) A) (hin : meth.name = "<init>") (b : Nat) (E0 : jE A s)  : gG p l e rmJ5_init_d00df s m args below meth c D A 2 (MQ below (hQn D (fun v : Nat => sbW cB b 0 0 (v, 16, fun _ => 0)) A) args s 1 16 A) 0 0 0 [(0, .ref b), (1, .int 16)] [] [(b, .inr (1, [.null, .int 0, .int 0, .int 0]))] := by
  refine g_aload_n C0 dJ5_init_d00df_0 rfl 0 rfl ?_
  refine g_objInit C0 q_922 q_49 q_50 dJ5_init_d00df_1 (Nat.le_of_ble_eq_true rfl) (Nat.le_of_ble_eq_true rfl) ?_
  refine g_getS C0 E0.1 q_923 dJ5_init_d00df_4 ?_
  refine g_if_eq C0 (tgt := 25) dJ5_init_d00df_7 (by decide) (fun c1 => absurd c1 (by decide)) (fun c1 => ?_)
  refine g_aload_n C0 dJ5_init_d00df_10 rfl 0 rfl ?_
  refine g_iload_n C0 dJ5_init_d00df_11 rfl 1 rfl ?_
  refine g_newB (N := 16) C0 q_355 3 rfl (by decide) (by decide) (by decide) (Nat.le_of_ble_eq_true rfl) (Nat.le_of_ble_eq_true rfl) dJ5_init_d00df_12 (fun v => ?_)
  refine g_eq (ws' := [(b, .inr (1, [.null, .int 0, .int 0, .int 0])), (v, .inl (cB, 16, .inl (fun _ => 0)))]) rfl rfl rfl ?_
  refine g_put C0 (ws' := [(b, .inr (1, [.ref v, .int 0, .int 0, .int 0])), (v, .inl (cB, 16, .inl (fun _ => 0)))]) hinJ4 0 rfl rfl 0 (by decide) q_931 tyJ4_ok nmJ4 rfl rfl rfl (Nat.le_of_ble_eq_true rfl) rfl dJ5_init_d00df_14 ?_
  refine g_aload_n C0 dJ5_init_d00df_17 rfl 0 rfl ?_
  refine g_iconst C0 (v := (0 : Int32)) dJ5_init_d00df_18 (by decide) ?_
  refine g_put C0 (ws' := [(b, .inr (1, [.ref v, .int 0, .int 0, .int 0])), (v, .inl (cB, 16, .inl (fun _ => 0)))]) hinJ4 0 rfl rfl 1 (by decide) q_932 tyJ4_ok nmJ4 rfl rfl rfl (Nat.le_of_ble_eq_true rfl) rfl dJ5_init_d00df_19 ?_
  refine g_goto C0 (tgt := 38) dJ5_init_d00df_22 (by decide) ?_
  exact g_nret C0 dJ5_init_d00df_38 v rfl
theorem mJ5_init_d00df (l : Launch) (D : va_G) (cB cC cI cO : ClassId) (b : Nat)  : ∀ sz, Met l yJ5_init_d00df (ws_ yJ5_init_d00df cJ5_init_d00df 2 none) rmJ5_init_d00df (va_Pc [.ref b, .int 16] (hPreE jE D (hTy cB cC cI cO) [(b, .inr (1, [.null, .int 0, .int 0, .int 0]))] sz)) (hQn D (fun v : Nat => sbW cB b 0 0 (v, 16, fun _ => 0)) (va_A [(b, .inr (1, [.null, .int 0, .int 0, .int 0]))] sz)) 1 16 (va_A [(b, .inr (1, [.null, .int 0, .int 0, .int 0]))] sz) :=
  g_metEI (Qf := fun A => hQn D (fun v : Nat => sbW cB b 0 0 (v, 16, fun _ => 0)) A) (by decide +kernel) (Nat.le_of_ble_eq_true rfl) rfl (fun C0 hin E0 => bJ5_init_d00df C0 hin b E0 )
/-! java/lang/StringBuilder.<init>()V -/
abbrev rmJ4_init_da8c8 : Room := { frames := 2, cells := 1, slots := 16, locals := 60 }
theorem hmJ4_init_da8c8 : hMI yJ4_init_da8c8 cJ4_init_da8c8 1 0 := ⟨q_918, q_31, q_917, rfl, by decide, by decide, by decide +kernel⟩
theorem dJ4_init_da8c8_0 : decode cJ4_init_da8c8 0 = .ok (.aload_n 0, 1) := by decide +kernel
theorem dJ4_init_da8c8_1 : decode cJ4_init_da8c8 1 = .ok (.bipush 16, 2) := by decide +kernel
theorem dJ4_init_da8c8_3 : decode cJ4_init_da8c8 3 = .ok (.invokespecial 1, 3) := by decide +kernel
theorem dJ4_init_da8c8_6 : decode cJ4_init_da8c8 6 = .ok (.return_, 1) := by decide +kernel
set_option maxHeartbeats 4000000 in
set_option maxRecDepth 100000 in
theorem bJ4_init_da8c8 {p : Program} {l : Launch} {e : Env} {s : State} {m : MethodId} {args : Array Value} {below : List Frame} {meth : Method} {c : Code} {D : va_G} {cB cC cI cO : ClassId} {A : Nat → Prop} (C0 : gC RJ4 cJ4_init_da8c8 1 none p s m args meth c D (hTy cB cC cI cO) A) (hin : meth.name = "<init>") (b : Nat) (E0 : jE A s)  : gG p l e rmJ4_init_da8c8 s m args below meth c D A 1 (MQ below (hQn D (fun v : Nat => sbW cB b 0 0 (v, 16, fun _ => 0)) A) args s 1 16 A) 0 0 0 [(0, .ref b)] [] [(b, .inr (1, [.null, .int 0, .int 0, .int 0]))] := by
  refine g_aload_n C0 dJ4_init_da8c8_0 rfl 0 rfl ?_
  refine g_bipush C0 (v := (16 : Int32)) dJ4_init_da8c8_1 (by decide) ?_
  refine g_xIv (X := [(b, .inr (1, [.null, .int 0, .int 0, .int 0]))]) (pl := []) (wr := []) (As := [.int 16]) (st := []) (ret := none) (b := b) C0 jE_ok (xe_of C0 jE_ok E0) (mJ5_init_d00df l D cB cC cI cO b) hmJ5_init_d00df q_919 ⟨Nat.le_of_ble_eq_true rfl, Nat.le_of_ble_eq_true rfl⟩ rfl rfl ⟨Nat.le_of_ble_eq_true rfl, Nat.le_of_ble_eq_true rfl⟩ rfl [0] [] rfl rfl rfl rfl (by decide) rfl rfl (Nat.le_of_ble_eq_true rfl) dJ4_init_da8c8_3 (fun v => ?_)
  exact g_nret C0 dJ4_init_da8c8_6 v rfl
theorem mJ4_init_da8c8 (l : Launch) (D : va_G) (cB cC cI cO : ClassId) (b : Nat)  : ∀ sz, Met l yJ4_init_da8c8 (ws_ yJ4_init_da8c8 cJ4_init_da8c8 1 none) rmJ4_init_da8c8 (va_Pc [.ref b] (hPreE jE D (hTy cB cC cI cO) [(b, .inr (1, [.null, .int 0, .int 0, .int 0]))] sz)) (hQn D (fun v : Nat => sbW cB b 0 0 (v, 16, fun _ => 0)) (va_A [(b, .inr (1, [.null, .int 0, .int 0, .int 0]))] sz)) 1 16 (va_A [(b, .inr (1, [.null, .int 0, .int 0, .int 0]))] sz) :=
  g_metEI (Qf := fun A => hQn D (fun v : Nat => sbW cB b 0 0 (v, 16, fun _ => 0)) A) (by decide +kernel) (Nat.le_of_ble_eq_true rfl) rfl (fun C0 hin E0 => bJ4_init_da8c8 C0 hin b E0 )
