/-! the JDK's texts: String, StringBuilder -/
theorem tx_slot {cB : ClassId} {n i : Nat} {f : Nat → Int32} {v : Value} (h : (vp_cell cB (n, .inl f)).slots[i]? = some v) : ∃ j, v = .int (f j) := by
  have hi : i < n := by
    have h1 := (Array.getElem?_eq_some_iff.mp h).1
    rwa [show (vp_cell cB (n, .inl f)).slots.size = n from arrV_size _ _ _] at h1
  refine ⟨i, ?_⟩
  have h2 := arrV_read cB (fun j => Value.int (f j)) hi
  exact Option.some.inj (h.symm.trans h2)
theorem tx_le {a b : Nat} (ha : a < 1073741824) (hb : b < 1073741824) (h : Int32.ofNat a - Int32.ofNat b ≤ 0) : a ≤ b := by
  have h1 : (Int32.ofNat a - Int32.ofNat b).toInt = (a : Int) - b := pk_sub_toInt (by omega) (by omega)
  rw [fa_le, h1, Int32.toInt_zero] at h
  omega
theorem tx_nle {a b : Nat} (ha : a < 1073741824) (hb : b < 1073741824) (h : ¬ Int32.ofNat a - Int32.ofNat b ≤ 0) : b < a := by
  have h1 : (Int32.ofNat a - Int32.ofNat b).toInt = (a : Int) - b := pk_sub_toInt (by omega) (by omega)
  rw [fa_le, h1, Int32.toInt_zero] at h
  omega
section GO
variable {p : Program} {l : Launch} {e : Env} {R : Room} {s : State} {m : MethodId} {args : Array Value} {below : List Frame} {meth : Method} {c : Code} {D : va_G} {tys : List (ClassId × FieldType)} {A : Nat → Prop} {own : String} {cc : ByteArray} {nL : Nat} {ret0 : Option FieldType} {Q : State → Prop} {pc : Nat} {lv lv' : List (Nat × Value)} {st : List Value} {ws ws' : va_W} {kk nn : Nat}
theorem g_getO (C0 : gC own cc nL ret0 p s m args meth c D tys A) {o n d : String} {index q : Nat} {v : Value} (hE : va_OF o n d v q A s s.heap) (hlink : Cond.fieldLink own index o n d ∈ hAll) (hdg : decode cc pc = .ok (.getfield index, 3)) (k : gG p l e R s m args below meth c D A nL Q kk nn (pc + 3) lv (v :: st) ws) : gG p l e R s m args below meth c D A nL Q kk nn pc lv (.ref q :: st) ws := fun H locs ls hP hD hS hl => vk_getf (gC_x C0) (gC_b C0) hE hS (gC_o C0) (gC_t C0 _ hlink) (fun _ h => h) hdg (k H locs ls hP hD hS hl)
theorem g_getS (C0 : gC own cc nL ret0 p s m args meth c D tys A) {o n d : String} {index : Nat} {v : Value} (hE : va_Z o n d v A s s.heap) (hlink : Cond.fieldLink own index o n d ∈ hAll) (hdg : decode cc pc = .ok (.getstatic index, 3)) (k : gG p l e R s m args below meth c D A nL Q kk nn (pc + 3) lv (v :: st) ws) : gG p l e R s m args below meth c D A nL Q kk nn pc lv st ws := fun H locs ls hP hD hS hl => va_gets (gC_x C0) (gC_b C0) hE hS (gC_o C0) (gC_t C0 _ hlink) (fun _ h => h) hdg (k H locs ls hP hD hS hl)
theorem g_ldcS (C0 : gC own cc nL ret0 p s m args meth c D tys A) {tx : String} {index q : Nat} (hR : vk_R own index tx q s) (hdg : decode cc pc = .ok (.ldc index, 2)) (k : gG p l e R s m args below meth c D A nL Q kk nn (pc + 2) lv (.ref q :: st) ws) : gG p l e R s m args below meth c D A nL Q kk nn pc lv st ws := fun H locs ls hP hD hS hl => va_ldcS (gC_x C0) (gC_b C0) (gC_o C0) hR hdg (k H locs ls hP hD hS hl)
theorem g_tlen (C0 : gC own cc nL ret0 p s m args meth c D tys A) {ty : FieldType} {t N : Nat} {f : Nat → Value} {v : Int32} (hT : va_T ty t N f A s s.heap) (hv : Int32.ofNat N = v) (hdg : decode cc pc = .ok (.arraylength, 1)) (k : gG p l e R s m args below meth c D A nL Q kk nn (pc + 1) lv (.int v :: st) ws) : gG p l e R s m args below meth c D A nL Q kk nn pc lv (.ref t :: st) ws := fun H locs ls hP hD hS hl => va_tlen (gC_x C0) (gC_b C0) hT hS hv hdg (k H locs ls hP hD hS hl)
theorem g_tb (C0 : gC own cc nL ret0 p s m args meth c D tys A) {t N : Nat} {f : Nat → Value} {i : Int32} {v : Value} (hT : va_T .byte t N f A s s.heap) (hin : hl_in i N = true) (hv : f i.toNatClampNeg = v) (hdg : decode cc pc = .ok (.baload, 1)) (k : gG p l e R s m args below meth c D A nL Q kk nn (pc + 1) lv (v :: st) ws) : gG p l e R s m args below meth c D A nL Q kk nn pc lv (.int i :: .ref t :: st) ws := fun H locs ls hP hD hS hl => va_tb (gC_x C0) (gC_b C0) hT hS (hl_inP hin) hv hdg (k H locs ls hP hD hS hl)
theorem g_ishr (C0 : gC own cc nL ret0 p s m args meth c D tys A) {x y : Int32} (hdg : decode cc pc = .ok (.ishr, 1)) (k : gG p l e R s m args below meth c D A nL Q kk nn (pc + 1) lv (.int (x >>> (y &&& 31)) :: st) ws) : gG p l e R s m args below meth c D A nL Q kk nn pc lv (.int y :: .int x :: st) ws := fun H locs ls hP hD hS hl => lv_ishr (gC_x C0) (gC_b C0) hdg (k H locs ls hP hD hS hl)
theorem g_popv (C0 : gC own cc nL ret0 p s m args meth c D tys A) {x : Int32} (hdg : decode cc pc = .ok (.pop, 1)) (k : gG p l e R s m args below meth c D A nL Q kk nn (pc + 1) lv st ws) : gG p l e R s m args below meth c D A nL Q kk nn pc lv (.int x :: st) ws := g_pop C0 hdg rfl k
theorem g_copyb (C0 : gC own cc nL ret0 p s m args meth c D tys A) {a0 a n0 n1 : Nat} {c0 c1 : ClassId} {f g : Nat → Int32} {index : Nat} {sp dp n : Int32} {js jd jn : Nat} (hlink : Cond.methodLink own index arraycopyName ∈ hAll) (hnat : Cond.native arraycopyName ∈ hAll) (hstat : Cond.static arraycopyName ∈ hAll) (hini : Cond.initialized "java/lang/System" ∈ hAll) (q0 q1 t0 t1 : Nat) (ha0 : ws[q0]? = some (a0, .inl (c0, n0, .inl f))) (ha1 : ws[q1]? = some (a, .inl (c1, n1, .inl g))) (ht0 : tys[t0]? = some (c0, .byte)) (ht1 : tys[t1]? = some (c1, .byte)) (hsp : hl_in sp (js + 1) = true) (hdp : hl_in dp (jd + 1) = true) (hn : hl_in n (jn + 1) = true) (hjs : sp.toNatClampNeg = js) (hjd : dp.toNatClampNeg = jd) (hjn : n.toNatClampNeg = jn) (hfit : sb_Fit f) (h4 : js + jn ≤ n0) (h5 : jd + jn ≤ n1) (hframes : 1 ≤ R.frames) (hlocals : (st.map fun v => v.category).sum + (nativeFrameWords "java/lang/System" "arraycopy" 5 + 11) ≤ R.locals) (hdg : decode cc pc = .ok (.invokestatic index, 3)) (hws : ws.set q1 (a, .inl (c1, n1, .inl (va_cpy f g js jd jn))) = ws') (k : gG p l e R s m args below meth c D A nL Q kk nn (pc + 3) lv st ws') : gG p l e R s m args below meth c D A nL Q kk nn pc lv (.int n :: .int dp :: .ref a :: .int sp :: .ref a0 :: st) ws := by
  intro H locs ls hP hD hS hl
  have hx : ∀ {i : Int32} {j : Nat}, hl_in i j = true → ¬ i < 0 := fun h h2 => hl_inP h (Or.inl h2)
  refine va_copyi (gC_x C0) (gC_b C0) (by rw [gC_m C0]; exact hl.1.symm) (gC_o C0) (gC_t C0 _ hlink) (gC_t C0 _ hnat) (gC_t C0 _ hstat) (gC_t C0 _ hini) (gC_K C0) hP hD hS q0 q1 t0 t1 ha0 ha1 ht0 ht1 rfl (hx hsp) (hx hdp) (hx hn) (by rw [hjs, hjn]; exact h4) (by rw [hjd, hjn]; exact h5) (fun _ _ => hfit _) hframes hlocals hdg (fun H1 locs1 hP1 hD1 hS1 => ?_)
  rw [hjs, hjd, hjn, hws] at hP1 hD1
  exact k H1 locs1 ls hP1 hD1 hS1 hl
theorem g_copyt {a0 a n0 n1 : Nat} {c1 : ClassId} {f g : Nat → Int32} {index : Nat} {sp dp n : Int32} {js jd jn : Nat} (C0 : gC own cc nL ret0 p s m args meth c D tys A) (hX : va_T .byte a0 n0 (fun j => .int (f j)) A s s.heap) (hlink : Cond.methodLink own index arraycopyName ∈ hAll) (hnat : Cond.native arraycopyName ∈ hAll) (hstat : Cond.static arraycopyName ∈ hAll) (hini : Cond.initialized "java/lang/System" ∈ hAll) (q1 t1 : Nat) (ha1 : ws[q1]? = some (a, .inl (c1, n1, .inl g))) (ht1 : tys[t1]? = some (c1, .byte)) (hsp : hl_in sp (js + 1) = true) (hdp : hl_in dp (jd + 1) = true) (hn : hl_in n (jn + 1) = true) (hjs : sp.toNatClampNeg = js) (hjd : dp.toNatClampNeg = jd) (hjn : n.toNatClampNeg = jn) (hfit : ∀ j, j < n0 → fits .byte (.int (f j)) = true) (h4 : js + jn ≤ n0) (h5 : jd + jn ≤ n1) (hframes : 1 ≤ R.frames) (hlocals : (st.map fun v => v.category).sum + (nativeFrameWords "java/lang/System" "arraycopy" 5 + 11) ≤ R.locals) (hdg : decode cc pc = .ok (.invokestatic index, 3)) (hws : ws.set q1 (a, .inl (c1, n1, .inl (va_cpy f g js jd jn))) = ws') (k : gG p l e R s m args below meth c D A nL Q kk nn (pc + 3) lv st ws') : gG p l e R s m args below meth c D A nL Q kk nn pc lv (.int n :: .int dp :: .ref a :: .int sp :: .ref a0 :: st) ws := by
  intro H locs ls hP hD hS hl
  have hx : ∀ {i : Int32} {j : Nat}, hl_in i j = true → ¬ i < 0 := fun h h2 => hl_inP h (Or.inl h2)
  refine vk_copyt (gC_x C0) (gC_b C0) (by rw [gC_m C0]; exact hl.1.symm) (gC_o C0) (gC_t C0 _ hlink) (gC_t C0 _ hnat) (gC_t C0 _ hstat) (gC_t C0 _ hini) (gC_K C0) hP hD hS hX q1 t1 ha1 ht1 (hx hsp) (hx hdp) (hx hn) (by rw [hjs, hjn]; exact h4) (by rw [hjd, hjn]; exact h5) (fun i hi => hfit _ (by rw [hjs] at *; rw [hjn] at hi; omega)) hframes hlocals hdg (fun H1 locs1 hP1 hD1 hS1 => ?_)
  rw [hjs, hjd, hjn, hws] at hP1 hD1
  exact k H1 locs1 ls hP1 hD1 hS1 hl
theorem g_ifnonnull (C0 : gC own cc nL ret0 p s m args meth c D tys A) {x : Nat} {off : Int} {tgt : Nat} (hdg : decode cc pc = .ok (.ifnonnull off, 3)) (ht : (pc : Int) + off = (tgt : Int)) (k : gG p l e R s m args below meth c D A nL Q kk nn tgt lv st ws) : gG p l e R s m args below meth c D A nL Q kk nn pc lv (.ref x :: st) ws := fun H locs ls hP hD hS hl => lv_ifnonnull (gC_x C0) (gC_b C0) hdg ht (k H locs ls hP hD hS hl)
theorem g_clone {cB : ClassId} {a n index : Nat} {f : Nat → Int32} (C0 : gC own cc nL ret0 p s m args meth c D tys A) (hb : hBw s) (hlink : Cond.methodLink own index ⟨"[B", "clone", "()Ljava/lang/Object;"⟩ ∈ hAll) (hsame : Cond.sameMethod "[B" "java/lang/Object" "clone" "()Ljava/lang/Object;" ∈ hAll) (hnat : Cond.native ⟨"java/lang/Object", "clone", "()Ljava/lang/Object;"⟩ ∈ hAll) (hinst : Cond.instanceMethod ⟨"java/lang/Object", "clone", "()Ljava/lang/Object;"⟩ ∈ hAll) (hsel : Cond.selects "[B" ⟨"[B", "clone", "()Ljava/lang/Object;"⟩ ⟨"java/lang/Object", "clone", "()Ljava/lang/Object;"⟩ ∈ hAll) (hcl : Cond.castable "[B" "java/lang/Cloneable" ∈ hBad) (q0 t0 : Nat) (ha : ws[q0]? = some (a, .inl (cB, n, .inl f))) (ht : tys[t0]? = some (cB, .byte)) (hfit : sb_Fit f) (hframes : 1 ≤ R.frames) (hlocals : (st.map fun v => v.category).sum + 14 ≤ R.locals) (hcells : kk + 1 ≤ R.cells) (hslots : nn + n ≤ R.slots) (hdg : decode cc pc = .ok (.invokevirtual index, 3)) (k : ∀ q : Nat, gG p l e R s m args below meth c D A nL Q (kk + 1) (nn + n) (pc + 3) lv (.ref q :: st) (List.append ws [(q, .inl (cB, n, .inl f))])) : gG p l e R s m args below meth c D A nL Q kk nn pc lv (.ref a :: st) ws := by
  intro H locs ls hP hD hS hl
  refine va_clone (x := (n, .inl f)) (gC_x C0) (gC_b C0) (by rw [gC_m C0]; exact hl.1.symm) (gC_o C0) (gC_t C0 _ hlink) (gC_t C0 _ hsame) (gC_t C0 _ hnat) (gC_t C0 _ hinst) (gC_t C0 _ hsel) (hb _ hcl) (gC_K C0) hP hD hS (gC_A C0) q0 t0 ha ht (va_nm_byte ((gC_K C0).2 t0 (cB, .byte) ht).2) (fun i v hv => ?_) hframes hlocals hcells hslots hdg (fun q H1 hK1 hP1 hD1 hS1 => k q H1 locs ls hP1 hD1 hS1 hl)
  obtain ⟨j, hj⟩ := tx_slot hv
  rw [hj]
  exact hfit j
theorem g_castB {cB : ClassId} {a n index : Nat} {f : Nat → Int32} (C0 : gC own cc nL ret0 p s m args meth c D tys A) (hlink : Cond.classLink own index "[B" ∈ hAll) (q0 t0 : Nat) (ha : ws[q0]? = some (a, .inl (cB, n, .inl f))) (ht : tys[t0]? = some (cB, .byte)) (hdg : decode cc pc = .ok (.checkcast index, 3)) (k : gG p l e R s m args below meth c D A nL Q kk nn (pc + 3) lv (.ref a :: st) ws) : gG p l e R s m args below meth c D A nL Q kk nn pc lv (.ref a :: st) ws := fun H locs ls hP hD hS hl => va_castA (gC_x C0) (gC_b C0) (gC_o C0) (gC_t C0 _ hlink) hP q0 ha (va_nm_byte ((gC_K C0).2 t0 (cB, .byte) ht).2) hdg (k H locs ls hP hD hS hl)
end GO
/-- a text that is never written: its object, its bytes -/
def tx_S (a v n : Nat) (f : Nat → Int32) (A : Nat → Prop) (U : State) : Prop := va_O "java/lang/String" a A U U.heap ∧ va_OF "java/lang/String" "coder" "B" (.int 0) a A U U.heap ∧ va_OF "java/lang/String" "value" "[B" (.ref v) a A U U.heap ∧ va_T .byte v n (fun j => .int (f j)) A U U.heap
theorem tx_ok (a v n : Nat) (f : Nat → Int32) : hEok (tx_S a v n f) := by
  refine ⟨fun A U g mk b h => ?_, fun A A' s U h hq hW hAA => ?_⟩
  · exact ⟨va_O.moved (u := U) (U := U.calling g mk b) (Vm.Alike.refl U.vm) h.1, va_OF.moved (u := U) (U := U.calling g mk b) (Vm.Alike.refl U.vm) h.2.1, va_OF.moved (u := U) (U := U.calling g mk b) (Vm.Alike.refl U.vm) h.2.2.1, va_T.moved (u := U) (U := U.calling g mk b) (Vm.Alike.refl U.vm) h.2.2.2⟩
  · exact ⟨((h.1.kept hq).moved hW.alike).narrow hAA, ((h.2.1.kept hq).moved hW.alike).narrow hAA, ((h.2.2.1.kept hq).moved hW.alike).narrow hAA, ((h.2.2.2.kept hq).moved hW.alike).narrow hAA⟩
theorem tx_recv {a v n : Nat} {f : Nat → Int32} {A : Nat → Prop} {s : State} {H : Heap} {locs : List Loc} (h : tx_S a v n f A s) (hS : va_S A s.heap H locs) : ∃ cell : Cell, H[a]? = some cell ∧ cell.vm.isStatics = false ∧ s.vm.findClass "java/lang/String" = some cell.cls := by
  obtain ⟨cell, h1, h2, h3, -⟩ := h.1.kept hS.2.1
  exact ⟨cell, h1, h2, h3⟩
def dgO (j : Nat) : Int32 := Int32.ofNat (48 + j % 10)
def dgT (j : Nat) : Int32 := Int32.ofNat (48 + j / 10)
def dE (A : Nat → Prop) (U : State) : Prop := ∃ a1 a2 : Nat, (va_Z "java/lang/Integer" "DigitOnes" "[B" (.ref a1) A U U.heap ∧ va_T .byte a1 100 (fun j => .int (dgO j)) A U U.heap) ∧ va_Z "java/lang/Integer" "DigitTens" "[B" (.ref a2) A U U.heap ∧ va_T .byte a2 100 (fun j => .int (dgT j)) A U U.heap
/-- what texts want of the machine -/
def jE (A : Nat → Prop) (U : State) : Prop := va_Z "java/lang/String" "COMPACT_STRINGS" "Z" (.int 1) A U U.heap ∧ va_Zq "jdk/internal/util/Preconditions" "SIOOBE_FORMATTER" "Ljava/util/function/BiFunction;" A U U.heap ∧ hBw U ∧ dE A U
theorem jE_ok : hEok jE := by
  refine ⟨fun A U g mk b h => ?_, fun A A' s U h hq hW hAA => ?_⟩
  · obtain ⟨h1, h2, h3, a1, a2, ⟨h4, h5⟩, h6, h7⟩ := h
    exact ⟨va_Z.moved (u := U) (U := U.calling g mk b) (Vm.Alike.refl U.vm) h1, va_Zq.moved (u := U) (U := U.calling g mk b) (Vm.Alike.refl U.vm) h2, hBw_same (s := U) (U := U.calling g mk b) rfl h3, a1, a2, ⟨va_Z.moved (u := U) (U := U.calling g mk b) (Vm.Alike.refl U.vm) h4, va_T.moved (u := U) (U := U.calling g mk b) (Vm.Alike.refl U.vm) h5⟩, va_Z.moved (u := U) (U := U.calling g mk b) (Vm.Alike.refl U.vm) h6, va_T.moved (u := U) (U := U.calling g mk b) (Vm.Alike.refl U.vm) h7⟩
  · obtain ⟨h1, h2, h3, a1, a2, ⟨h4, h5⟩, h6, h7⟩ := h
    exact ⟨((h1.kept hq).moved hW.alike).narrow hAA, ((h2.kept hq).moved hW.alike).narrow hAA, hBw_warm hW h3, a1, a2, ⟨((h4.kept hq).moved hW.alike).narrow hAA, ((h5.kept hq).moved hW.alike).narrow hAA⟩, ((h6.kept hq).moved hW.alike).narrow hAA, ((h7.kept hq).moved hW.alike).narrow hAA⟩
def jT (a v n : Nat) (f : Nat → Int32) (A : Nat → Prop) (U : State) : Prop := jE A U ∧ tx_S a v n f A U
theorem jT_ok (a v n : Nat) (f : Nat → Int32) : hEok (jT a v n f) := ⟨fun A U g mk b h => ⟨jE_ok.1 A U g mk b h.1, (tx_ok a v n f).1 A U g mk b h.2⟩, fun A A' s U h hq hW hAA => ⟨jE_ok.2 A A' s U h.1 hq hW hAA, (tx_ok a v n f).2 A A' s U h.2 hq hW hAA⟩⟩
/-- the first n of f are ASCII -/
def asc (n : Nat) (f : Nat → Int32) : Prop := ∀ j, j < n → ∃ c, c < 128 ∧ f j = Int32.ofNat c
theorem asc_one : ∀ c, c < 128 → hl_c (Int32.ofNat c &&& 255) = Int32.ofNat c ∧ narrow .char (.int (Int32.ofNat c)) = .int (Int32.ofNat c) ∧ fits .byte (.int (Int32.ofNat c)) = true ∧ vp_nar .byte (Int32.ofNat c) = Int32.ofNat c := by decide +kernel
theorem sh_l (x : Int32) : x <<< ((0 : Int32) &&& 31) = x := sb_shl0 x
theorem sh_r (x : Int32) : x >>> ((0 : Int32) &&& 31) = x := sb_shr0 x
theorem hinJ4 : ∀ w ∈ u_ws RJ4 TJ4 4, w ∈ hAll := by
  have h1 : ∀ w ∈ u_ws RJ4 TJ4 4, w ∈ lw_tbl := by decide +kernel
  have h2 : ∀ w ∈ u_ws RJ4 TJ4 4, goodWord w = true := by decide +kernel
  exact fun w h => hAll_of (h1 w h) (h2 w h)
theorem hinJ0 : ∀ w ∈ u_ws RJ0 TJ0 4, w ∈ hAll := by
  have h1 : ∀ w ∈ u_ws RJ0 TJ0 4, w ∈ lw_tbl := by decide +kernel
  have h2 : ∀ w ∈ u_ws RJ0 TJ0 4, goodWord w = true := by decide +kernel
  exact fun w h => hAll_of (h1 w h) (h2 w h)
/-- a builder of n letters t: its row g of m places -/
def sbP (n : Nat) (t : Nat → Int32) (u : Nat × Nat × (Nat → Int32)) : Prop := n ≤ u.2.1 ∧ u.2.1 ≤ 16 + 2 * n ∧ sb_Fit u.2.2 ∧ ∀ j, j < n → u.2.2 j = t j
def tcat (n : Nat) (t f : Nat → Int32) : Nat → Int32 := fun j => if j < n then t j else f (j - n)
theorem tcat_lo {n j : Nat} {t f : Nat → Int32} (h : j < n) : tcat n t f j = t j := if_pos h
theorem tcat_hi {n j : Nat} {t f : Nat → Int32} : tcat n t f (n + j) = f j := by
  show (if n + j < n then t (n + j) else f (n + j - n)) = f j
  rw [if_neg (by omega), Nat.add_sub_cancel_left]
def sbW (cB : ClassId) (b : Nat) (ml : Int32) (n : Nat) (u : Nat × Nat × (Nat → Int32)) : va_W := [(b, .inr (1, [.ref u.1, .int 0, .int ml, .int (Int32.ofNat n)])), (u.1, .inl (cB, u.2.1, .inl u.2.2))]
theorem n_mx {a b : Nat} (ha : a < 2147483648) (hb : b < 2147483648) : (if Int32.ofNat a < Int32.ofNat b then Int32.ofNat b else Int32.ofNat a) = Int32.ofNat (if a < b then b else a) := by
  by_cases h : a < b
  · rw [if_pos h, if_pos ((n_lt ha hb).mpr h)]
  · rw [if_neg h, if_neg (fun z => h ((n_lt ha hb).mp z))]
theorem n_in1 {a : Nat} (ha : a < 2147483648) : hl_in (Int32.ofNat a) (a + 1) = true := n_in ha (by omega)
theorem g_metEI {l : Launch} {D : va_G} {tys : List (ClassId × FieldType)} {y : MethodName} {bytes : ByteArray} {maxL : Nat} {ret : Option FieldType} {rm : Room} {av : List Value} {wc : va_W} {lv0 : List (Nat × Value)} {Qf : (Nat → Prop) → Array Value → State → Outcome → State → Prop} {mc ms : Nat} {E : (Nat → Prop) → State → Prop}
    (hy : plainFor y = true) (hlen : (lg_sl av).length ≤ maxL) (hlv : lv_args 0 av = lv0)
    (body : ∀ {p : Program} {e : Env} {s : State} {m : MethodId} {args : Array Value} {below : List Frame} {meth : Method} {c : Code} {A : Nat → Prop}, gC y.cls bytes maxL ret p s m args meth c D tys A → meth.name = y.name → E A s → gG p l e rm s m args below meth c D A maxL (MQ below (Qf A) args s mc ms A) 0 0 0 lv0 [] wc) :
    ∀ sz, Met l y (ws_ y bytes maxL ret) rm (va_Pc av (hPreE E D tys wc sz)) (Qf (va_A wc sz)) mc ms (va_A wc sz) := by
  intro sz
  refine hl_ofW (cc := bytes) (maxL := maxL) (ret := ret) hy rfl ?_
  intro p e s m args below meth c s₁ B hml hv
  obtain ⟨rfl, ⟨hsz, hP, hK, hD0, hN⟩, hE0⟩ := hv
  subst hsz
  have hts := atoms_spec (ws := ws_ y bytes maxL ret) B.pre
  have hown := findClass_of_methodNamed B.named
  have hD := hD0.self (sz := s.heap.size)
  have C0 : gC y.cls bytes maxL ret p s m av.toArray meth c D tys (va_A wc s.heap.size) := ⟨⟨B.exec, B.bytes, hml, hown, fun w h => hts w (List.mem_cons_of_mem _ h)⟩, hK, fun q h => Or.inr h, B.returns, B.notSynchronized, hN⟩
  have hl := lv_entry av (n := maxL) hlen
  rw [hlv] at hl
  rw [lg_entry_eq]
  exact body C0 (name_of_methodNamed B.named B.method).1 hE0 s.heap [] _ hP hD va_S.rf hl
/-! java/lang/String.coder()B -/
abbrev rmJ0_coder_7d493 : Room := { frames := 0, cells := 0, slots := 0, locals := 0 }
theorem hmJ0_coder_7d493 : hMC RJ0 yJ0_coder_7d493 cJ0_coder_7d493 1 (some .byte) 0 := ⟨q_842, q_28, q_840, q_841, by decide, by decide, by decide +kernel⟩
theorem dJ0_coder_7d493_0 : decode cJ0_coder_7d493 0 = .ok (.getstatic 38, 3) := by decide +kernel
theorem dJ0_coder_7d493_3 : decode cJ0_coder_7d493 3 = .ok (.ifCond .eq 10, 3) := by decide +kernel
theorem dJ0_coder_7d493_6 : decode cJ0_coder_7d493 6 = .ok (.aload_n 0, 1) := by decide +kernel
theorem dJ0_coder_7d493_7 : decode cJ0_coder_7d493 7 = .ok (.getfield 15, 3) := by decide +kernel
theorem dJ0_coder_7d493_10 : decode cJ0_coder_7d493 10 = .ok (.goto 4, 3) := by decide +kernel
theorem dJ0_coder_7d493_13 : decode cJ0_coder_7d493 13 = .ok (.iconst 1, 1) := by decide +kernel
theorem dJ0_coder_7d493_14 : decode cJ0_coder_7d493 14 = .ok (.ireturn, 1) := by decide +kernel
set_option maxHeartbeats 4000000 in
set_option maxRecDepth 100000 in
theorem bJ0_coder_7d493 {p : Program} {l : Launch} {e : Env} {s : State} {m : MethodId} {args : Array Value} {below : List Frame} {meth : Method} {c : Code} {D : va_G} {cB cC cI cO : ClassId} {A : Nat → Prop} (C0 : gC RJ0 cJ0_coder_7d493 1 (some .byte) p s m args meth c D (hTy cB cC cI cO) A) (a v n : Nat) (f : Nat → Int32) (E0 : (jT a v n f) A s)  : gG p l e rmJ0_coder_7d493 s m args below meth c D A 1 (MQ below (hQni D 0 (fun _ : Unit => []) A) args s 0 0 A) 0 0 0 [(0, .ref a)] [] [] := by
  refine g_getS C0 E0.1.1 q_843 dJ0_coder_7d493_0 ?_
  refine g_if_eq C0 (tgt := 13) dJ0_coder_7d493_3 (by decide) (fun c1 => absurd c1 (by decide)) (fun c1 => ?_)
  refine g_aload_n C0 dJ0_coder_7d493_6 rfl 0 rfl ?_
  refine g_getO C0 E0.2.2.1 q_1118 dJ0_coder_7d493_7 ?_
  refine g_goto C0 (tgt := 14) dJ0_coder_7d493_10 (by decide) ?_
  exact g_nreti C0 rfl dJ0_coder_7d493_14 () rfl rfl
theorem mJ0_coder_7d493 (l : Launch) (D : va_G) (cB cC cI cO : ClassId) (a v n : Nat) (f : Nat → Int32)  : ∀ sz, Met l yJ0_coder_7d493 (ws_ yJ0_coder_7d493 cJ0_coder_7d493 1 (some .byte)) rmJ0_coder_7d493 (va_Pc [.ref a] (hPreE (jT a v n f) D (hTy cB cC cI cO) [] sz)) (hQni D 0 (fun _ : Unit => []) (va_A [] sz)) 0 0 (va_A [] sz) :=
  g_metE (Qf := fun A => hQni D 0 (fun _ : Unit => []) A) (by decide +kernel) (Nat.le_of_ble_eq_true rfl) rfl (fun C0 E0 => bJ0_coder_7d493 C0 a v n f E0 )
/-! java/lang/String.isLatin1()Z -/
abbrev rmJ0_isLatin1_aae02 : Room := { frames := 0, cells := 0, slots := 0, locals := 0 }
theorem hmJ0_isLatin1_aae02 : hMC RJ0 yJ0_isLatin1_aae02 cJ0_isLatin1_aae02 1 (some .boolean) 0 := ⟨q_861, q_28, q_859, q_860, by decide, by decide, by decide +kernel⟩
theorem dJ0_isLatin1_aae02_0 : decode cJ0_isLatin1_aae02 0 = .ok (.getstatic 38, 3) := by decide +kernel
theorem dJ0_isLatin1_aae02_3 : decode cJ0_isLatin1_aae02 3 = .ok (.ifCond .eq 14, 3) := by decide +kernel
theorem dJ0_isLatin1_aae02_6 : decode cJ0_isLatin1_aae02 6 = .ok (.aload_n 0, 1) := by decide +kernel
theorem dJ0_isLatin1_aae02_7 : decode cJ0_isLatin1_aae02 7 = .ok (.getfield 15, 3) := by decide +kernel
theorem dJ0_isLatin1_aae02_10 : decode cJ0_isLatin1_aae02 10 = .ok (.ifCond .ne 7, 3) := by decide +kernel
theorem dJ0_isLatin1_aae02_13 : decode cJ0_isLatin1_aae02 13 = .ok (.iconst 1, 1) := by decide +kernel
theorem dJ0_isLatin1_aae02_14 : decode cJ0_isLatin1_aae02 14 = .ok (.goto 4, 3) := by decide +kernel
theorem dJ0_isLatin1_aae02_17 : decode cJ0_isLatin1_aae02 17 = .ok (.iconst 0, 1) := by decide +kernel
theorem dJ0_isLatin1_aae02_18 : decode cJ0_isLatin1_aae02 18 = .ok (.ireturn, 1) := by decide +kernel
set_option maxHeartbeats 4000000 in
set_option maxRecDepth 100000 in
theorem bJ0_isLatin1_aae02 {p : Program} {l : Launch} {e : Env} {s : State} {m : MethodId} {args : Array Value} {below : List Frame} {meth : Method} {c : Code} {D : va_G} {cB cC cI cO : ClassId} {A : Nat → Prop} (C0 : gC RJ0 cJ0_isLatin1_aae02 1 (some .boolean) p s m args meth c D (hTy cB cC cI cO) A) (a v n : Nat) (f : Nat → Int32) (E0 : (jT a v n f) A s)  : gG p l e rmJ0_isLatin1_aae02 s m args below meth c D A 1 (MQ below (hQni D 1 (fun _ : Unit => []) A) args s 0 0 A) 0 0 0 [(0, .ref a)] [] [] := by
  refine g_getS C0 E0.1.1 q_843 dJ0_isLatin1_aae02_0 ?_
  refine g_if_eq C0 (tgt := 17) dJ0_isLatin1_aae02_3 (by decide) (fun c1 => absurd c1 (by decide)) (fun c1 => ?_)
  refine g_aload_n C0 dJ0_isLatin1_aae02_6 rfl 0 rfl ?_
  refine g_getO C0 E0.2.2.1 q_1118 dJ0_isLatin1_aae02_7 ?_
  refine g_if_ne C0 (tgt := 17) dJ0_isLatin1_aae02_10 (by decide) (fun c1 => absurd rfl c1) (fun c1 => ?_)
  refine g_iconst C0 (v := (1 : Int32)) dJ0_isLatin1_aae02_13 (by decide) ?_
  refine g_goto C0 (tgt := 18) dJ0_isLatin1_aae02_14 (by decide) ?_
  exact g_nreti C0 rfl dJ0_isLatin1_aae02_18 () rfl rfl
theorem mJ0_isLatin1_aae02 (l : Launch) (D : va_G) (cB cC cI cO : ClassId) (a v n : Nat) (f : Nat → Int32)  : ∀ sz, Met l yJ0_isLatin1_aae02 (ws_ yJ0_isLatin1_aae02 cJ0_isLatin1_aae02 1 (some .boolean)) rmJ0_isLatin1_aae02 (va_Pc [.ref a] (hPreE (jT a v n f) D (hTy cB cC cI cO) [] sz)) (hQni D 1 (fun _ : Unit => []) (va_A [] sz)) 0 0 (va_A [] sz) :=
  g_metE (Qf := fun A => hQni D 1 (fun _ : Unit => []) A) (by decide +kernel) (Nat.le_of_ble_eq_true rfl) rfl (fun C0 E0 => bJ0_isLatin1_aae02 C0 a v n f E0 )
/-! java/lang/String.length()I -/
abbrev rmJ0_length_8abf5 : Room := { frames := 1, cells := 0, slots := 0, locals := 40 }
theorem hmJ0_length_8abf5 : hMC RJ0 yJ0_length_8abf5 cJ0_length_8abf5 1 (some .int) 0 := ⟨q_838, q_28, q_836, q_837, by decide, by decide, by decide +kernel⟩
theorem dJ0_length_8abf5_0 : decode cJ0_length_8abf5 0 = .ok (.aload_n 0, 1) := by decide +kernel
theorem dJ0_length_8abf5_1 : decode cJ0_length_8abf5 1 = .ok (.getfield 9, 3) := by decide +kernel
theorem dJ0_length_8abf5_4 : decode cJ0_length_8abf5 4 = .ok (.arraylength, 1) := by decide +kernel
theorem dJ0_length_8abf5_5 : decode cJ0_length_8abf5 5 = .ok (.aload_n 0, 1) := by decide +kernel
theorem dJ0_length_8abf5_6 : decode cJ0_length_8abf5 6 = .ok (.invokevirtual 335, 3) := by decide +kernel
theorem dJ0_length_8abf5_9 : decode cJ0_length_8abf5 9 = .ok (.ishr, 1) := by decide +kernel
theorem dJ0_length_8abf5_10 : decode cJ0_length_8abf5 10 = .ok (.ireturn, 1) := by decide +kernel
set_option maxHeartbeats 4000000 in
set_option maxRecDepth 100000 in
theorem bJ0_length_8abf5 {p : Program} {l : Launch} {e : Env} {s : State} {m : MethodId} {args : Array Value} {below : List Frame} {meth : Method} {c : Code} {D : va_G} {cB cC cI cO : ClassId} {A : Nat → Prop} (C0 : gC RJ0 cJ0_length_8abf5 1 (some .int) p s m args meth c D (hTy cB cC cI cO) A) (a v n : Nat) (f : Nat → Int32) (E0 : (jT a v n f) A s)  : gG p l e rmJ0_length_8abf5 s m args below meth c D A 1 (MQ below (hQni D (Int32.ofNat n) (fun _ : Unit => []) A) args s 0 0 A) 0 0 0 [(0, .ref a)] [] [] := by
  refine g_aload_n C0 dJ0_length_8abf5_0 rfl 0 rfl ?_
  refine g_getO C0 E0.2.2.2.1 q_1117 dJ0_length_8abf5_1 ?_
  refine g_tlen C0 E0.2.2.2.2 rfl dJ0_length_8abf5_4 ?_
  refine g_aload_n C0 dJ0_length_8abf5_5 rfl 0 rfl ?_
  refine g_xVi (X := []) (pl := []) (wr := []) (As := []) (st := [.int (Int32.ofNat n)]) (b := a) C0 (jT_ok a v n f) (xe_of C0 (jT_ok a v n f) E0) (fun _ _ _ hS => tx_recv E0.2 hS) (mJ0_coder_7d493 l D cB cC cI cO a v n f) hmJ0_coder_7d493 q_839 ⟨Nat.le_of_ble_eq_true rfl, Nat.le_of_ble_eq_true rfl⟩ rfl rfl ⟨Nat.zero_le _, Nat.zero_le _⟩ rfl [] [] rfl rfl rfl rfl (by decide) rfl rfl (Nat.le_of_ble_eq_true rfl) dJ0_length_8abf5_6 (fun _ => ?_)
  refine g_ishr C0 dJ0_length_8abf5_9 ?_
  rw [sh_r]
  exact g_nreti C0 rfl dJ0_length_8abf5_10 () rfl rfl
theorem mJ0_length_8abf5 (l : Launch) (D : va_G) (cB cC cI cO : ClassId) (a v n : Nat) (f : Nat → Int32)  : ∀ sz, Met l yJ0_length_8abf5 (ws_ yJ0_length_8abf5 cJ0_length_8abf5 1 (some .int)) rmJ0_length_8abf5 (va_Pc [.ref a] (hPreE (jT a v n f) D (hTy cB cC cI cO) [] sz)) (hQni D (Int32.ofNat n) (fun _ : Unit => []) (va_A [] sz)) 0 0 (va_A [] sz) :=
  g_metE (Qf := fun A => hQni D (Int32.ofNat n) (fun _ : Unit => []) A) (by decide +kernel) (Nat.le_of_ble_eq_true rfl) rfl (fun C0 E0 => bJ0_length_8abf5 C0 a v n f E0 )
/-! jdk/internal/util/Preconditions.checkIndex(IILjava/util/function/BiFunction;)I -/
abbrev rmJ3_checkIndex_8e157 : Room := { frames := 0, cells := 0, slots := 0, locals := 0 }
theorem hmJ3_checkIndex_8e157 : hMS yJ3_checkIndex_8e157 cJ3_checkIndex_8e157 3 (some .int) 3 := ⟨q_872, q_34, q_871, by decide, by decide, by decide +kernel⟩
theorem dJ3_checkIndex_8e157_0 : decode cJ3_checkIndex_8e157 0 = .ok (.iload_n 0, 1) := by decide +kernel
theorem dJ3_checkIndex_8e157_1 : decode cJ3_checkIndex_8e157 1 = .ok (.ifCond .lt 8, 3) := by decide +kernel
theorem dJ3_checkIndex_8e157_4 : decode cJ3_checkIndex_8e157 4 = .ok (.iload_n 0, 1) := by decide +kernel
theorem dJ3_checkIndex_8e157_5 : decode cJ3_checkIndex_8e157 5 = .ok (.iload_n 1, 1) := by decide +kernel
theorem dJ3_checkIndex_8e157_6 : decode cJ3_checkIndex_8e157 6 = .ok (.if_icmp .lt 10, 3) := by decide +kernel
theorem dJ3_checkIndex_8e157_9 : decode cJ3_checkIndex_8e157 9 = .ok (.aload_n 2, 1) := by decide +kernel
theorem dJ3_checkIndex_8e157_10 : decode cJ3_checkIndex_8e157 10 = .ok (.iload_n 0, 1) := by decide +kernel
theorem dJ3_checkIndex_8e157_11 : decode cJ3_checkIndex_8e157 11 = .ok (.iload_n 1, 1) := by decide +kernel
theorem dJ3_checkIndex_8e157_12 : decode cJ3_checkIndex_8e157 12 = .ok (.invokestatic 95, 3) := by decide +kernel
theorem dJ3_checkIndex_8e157_15 : decode cJ3_checkIndex_8e157 15 = .ok (.athrow, 1) := by decide +kernel
theorem dJ3_checkIndex_8e157_16 : decode cJ3_checkIndex_8e157 16 = .ok (.iload_n 0, 1) := by decide +kernel
theorem dJ3_checkIndex_8e157_17 : decode cJ3_checkIndex_8e157 17 = .ok (.ireturn, 1) := by decide +kernel
set_option maxHeartbeats 4000000 in
set_option maxRecDepth 100000 in
theorem bJ3_checkIndex_8e157 {p : Program} {l : Launch} {e : Env} {s : State} {m : MethodId} {args : Array Value} {below : List Frame} {meth : Method} {c : Code} {D : va_G} {cB cC cI cO : ClassId} {A : Nat → Prop} (C0 : gC RJ3 cJ3_checkIndex_8e157 3 (some .int) p s m args meth c D (hTy cB cC cI cO) A) (k n : Int32) (qo : Option Nat) (E0 : jE A s) (h1 : ¬ k < 0) (h2 : k < n) : gG p l e rmJ3_checkIndex_8e157 s m args below meth c D A 3 (MQ below (hQni D k (fun _ : Unit => []) A) args s 0 0 A) 0 0 0 [(0, .int k), (1, .int n), (2, va_rf qo)] [] [] := by
  refine g_iload_n C0 dJ3_checkIndex_8e157_0 rfl 0 rfl ?_
  refine g_if_lt C0 (tgt := 9) dJ3_checkIndex_8e157_1 (by decide) (fun c1 => absurd c1 h1) (fun c1 => ?_)
  refine g_iload_n C0 dJ3_checkIndex_8e157_4 rfl 0 rfl ?_
  refine g_iload_n C0 dJ3_checkIndex_8e157_5 rfl 1 rfl ?_
  refine g_icmp_lt C0 (tgt := 16) dJ3_checkIndex_8e157_6 (by decide) (fun c1 => ?_) (fun c1 => absurd h2 c1)
  refine g_iload_n C0 dJ3_checkIndex_8e157_16 rfl 0 rfl ?_
  exact g_nreti C0 rfl dJ3_checkIndex_8e157_17 () rfl rfl
theorem mJ3_checkIndex_8e157 (l : Launch) (D : va_G) (cB cC cI cO : ClassId) (k n : Int32) (qo : Option Nat) (h1 : ¬ k < 0) (h2 : k < n) : ∀ sz, Met l yJ3_checkIndex_8e157 (ws_ yJ3_checkIndex_8e157 cJ3_checkIndex_8e157 3 (some .int)) rmJ3_checkIndex_8e157 (va_Pc [.int k, .int n, va_rf qo] (hPreE jE D (hTy cB cC cI cO) [] sz)) (hQni D k (fun _ : Unit => []) (va_A [] sz)) 0 0 (va_A [] sz) :=
  g_metE (Qf := fun A => hQni D k (fun _ : Unit => []) A) (by decide +kernel) (by cases qo <;> exact Nat.le_of_ble_eq_true rfl) (by cases qo <;> rfl) (fun C0 E0 => bJ3_checkIndex_8e157 C0 k n qo E0 h1 h2)
/-! java/lang/String.checkIndex(II)V -/
abbrev rmJ0_checkIndex_df160 : Room := { frames := 1, cells := 0, slots := 0, locals := 40 }
theorem hmJ0_checkIndex_df160 : hMS yJ0_checkIndex_df160 cJ0_checkIndex_df160 2 none 2 := ⟨q_867, q_28, q_866, by decide, by decide, by decide +kernel⟩
theorem dJ0_checkIndex_df160_0 : decode cJ0_checkIndex_df160 0 = .ok (.iload_n 0, 1) := by decide +kernel
theorem dJ0_checkIndex_df160_1 : decode cJ0_checkIndex_df160 1 = .ok (.iload_n 1, 1) := by decide +kernel
theorem dJ0_checkIndex_df160_2 : decode cJ0_checkIndex_df160 2 = .ok (.getstatic 1053, 3) := by decide +kernel
theorem dJ0_checkIndex_df160_5 : decode cJ0_checkIndex_df160 5 = .ok (.invokestatic 1059, 3) := by decide +kernel
theorem dJ0_checkIndex_df160_8 : decode cJ0_checkIndex_df160 8 = .ok (.pop, 1) := by decide +kernel
theorem dJ0_checkIndex_df160_9 : decode cJ0_checkIndex_df160 9 = .ok (.return_, 1) := by decide +kernel
set_option maxHeartbeats 4000000 in
set_option maxRecDepth 100000 in
theorem bJ0_checkIndex_df160 {p : Program} {l : Launch} {e : Env} {s : State} {m : MethodId} {args : Array Value} {below : List Frame} {meth : Method} {c : Code} {D : va_G} {cB cC cI cO : ClassId} {A : Nat → Prop} (C0 : gC RJ0 cJ0_checkIndex_df160 2 none p s m args meth c D (hTy cB cC cI cO) A) (k n : Int32) (E0 : jE A s) (h1 : ¬ k < 0) (h2 : k < n) : gG p l e rmJ0_checkIndex_df160 s m args below meth c D A 2 (MQ below (hQn D (fun _ : Unit => []) A) args s 0 0 A) 0 0 0 [(0, .int k), (1, .int n)] [] [] := by
  have hz : ∃ qo : Option Nat, va_Z "jdk/internal/util/Preconditions" "SIOOBE_FORMATTER" "Ljava/util/function/BiFunction;" (va_rf qo) A s s.heap := by
    rcases E0.2.1 with h | ⟨t, h⟩
    · exact ⟨none, h⟩
    · exact ⟨some t, h⟩
  obtain ⟨qo, hz⟩ := hz
  refine g_iload_n C0 dJ0_checkIndex_df160_0 rfl 0 rfl ?_
  refine g_iload_n C0 dJ0_checkIndex_df160_1 rfl 1 rfl ?_
  refine g_getS C0 hz q_868 dJ0_checkIndex_df160_2 ?_
  refine g_xSi (X := []) (pl := []) (wr := []) (As := [.int k, .int n, va_rf qo]) (st := []) C0 jE_ok (xe_of C0 jE_ok E0) (mJ3_checkIndex_8e157 l D cB cC cI cO k n qo h1 h2) hmJ3_checkIndex_8e157 q_870 ⟨Nat.le_of_ble_eq_true rfl, Nat.le_of_ble_eq_true rfl⟩ rfl rfl ⟨Nat.zero_le _, Nat.zero_le _⟩ rfl [] [] rfl rfl rfl rfl (by decide) rfl rfl (Nat.le_of_ble_eq_true rfl) dJ0_checkIndex_df160_5 (fun _ => ?_)
  refine g_popv C0 dJ0_checkIndex_df160_8 ?_
  exact g_nret C0 dJ0_checkIndex_df160_9 () rfl
theorem mJ0_checkIndex_df160 (l : Launch) (D : va_G) (cB cC cI cO : ClassId) (k n : Int32) (h1 : ¬ k < 0) (h2 : k < n) : ∀ sz, Met l yJ0_checkIndex_df160 (ws_ yJ0_checkIndex_df160 cJ0_checkIndex_df160 2 none) rmJ0_checkIndex_df160 (va_Pc [.int k, .int n] (hPreE jE D (hTy cB cC cI cO) [] sz)) (hQn D (fun _ : Unit => []) (va_A [] sz)) 0 0 (va_A [] sz) :=
  g_metE (Qf := fun A => hQn D (fun _ : Unit => []) A) (by decide +kernel) (Nat.le_of_ble_eq_true rfl) rfl (fun C0 E0 => bJ0_checkIndex_df160 C0 k n E0 h1 h2)
/-! java/lang/StringLatin1.charAt([BI)C -/
abbrev rmJ1_charAt_3b067 : Room := { frames := 2, cells := 0, slots := 0, locals := 80 }
theorem hmJ1_charAt_3b067 : hMS yJ1_charAt_3b067 cJ1_charAt_3b067 2 (some .char) 2 := ⟨q_864, q_35, q_863, by decide, by decide, by decide +kernel⟩
theorem dJ1_charAt_3b067_0 : decode cJ1_charAt_3b067 0 = .ok (.iload_n 1, 1) := by decide +kernel
theorem dJ1_charAt_3b067_1 : decode cJ1_charAt_3b067 1 = .ok (.aload_n 0, 1) := by decide +kernel
theorem dJ1_charAt_3b067_2 : decode cJ1_charAt_3b067 2 = .ok (.arraylength, 1) := by decide +kernel
theorem dJ1_charAt_3b067_3 : decode cJ1_charAt_3b067 3 = .ok (.invokestatic 9, 3) := by decide +kernel
theorem dJ1_charAt_3b067_6 : decode cJ1_charAt_3b067 6 = .ok (.aload_n 0, 1) := by decide +kernel
theorem dJ1_charAt_3b067_7 : decode cJ1_charAt_3b067 7 = .ok (.iload_n 1, 1) := by decide +kernel
theorem dJ1_charAt_3b067_8 : decode cJ1_charAt_3b067 8 = .ok (.baload, 1) := by decide +kernel
theorem dJ1_charAt_3b067_9 : decode cJ1_charAt_3b067 9 = .ok (.sipush 255, 3) := by decide +kernel
theorem dJ1_charAt_3b067_12 : decode cJ1_charAt_3b067 12 = .ok (.iand, 1) := by decide +kernel
theorem dJ1_charAt_3b067_13 : decode cJ1_charAt_3b067 13 = .ok (.i2c, 1) := by decide +kernel
theorem dJ1_charAt_3b067_14 : decode cJ1_charAt_3b067 14 = .ok (.ireturn, 1) := by decide +kernel
set_option maxHeartbeats 4000000 in
set_option maxRecDepth 100000 in
theorem bJ1_charAt_3b067 {p : Program} {l : Launch} {e : Env} {s : State} {m : MethodId} {args : Array Value} {below : List Frame} {meth : Method} {c : Code} {D : va_G} {cB cC cI cO : ClassId} {A : Nat → Prop} (C0 : gC RJ1 cJ1_charAt_3b067 2 (some .char) p s m args meth c D (hTy cB cC cI cO) A) (a v n : Nat) (f : Nat → Int32) (k : Nat) (E0 : (jT a v n f) A s) (hn : n < 2147483648) (ha : asc n f) (hk : k < n) : gG p l e rmJ1_charAt_3b067 s m args below meth c D A 2 (MQ below (hQni D (f k) (fun _ : Unit => []) A) args s 0 0 A) 0 0 0 [(0, .ref v), (1, .int (Int32.ofNat k))] [] [] := by
  obtain ⟨z, hz, hzf⟩ := ha k hk
  have hc := asc_one z hz
  refine g_iload_n C0 dJ1_charAt_3b067_0 rfl 1 rfl ?_
  refine g_aload_n C0 dJ1_charAt_3b067_1 rfl 0 rfl ?_
  refine g_tlen C0 E0.2.2.2.2 rfl dJ1_charAt_3b067_2 ?_
  refine g_xSv (X := []) (pl := []) (wr := []) (As := [.int (Int32.ofNat k), .int (Int32.ofNat n)]) (st := []) C0 jE_ok (xe_of C0 jE_ok E0.1) (mJ0_checkIndex_df160 l D cB cC cI cO (Int32.ofNat k) (Int32.ofNat n) (n_nlt0 (by omega)) ((n_lt (by omega) hn).mpr hk)) hmJ0_checkIndex_df160 q_865 ⟨Nat.le_of_ble_eq_true rfl, Nat.le_of_ble_eq_true rfl⟩ rfl rfl ⟨Nat.zero_le _, Nat.zero_le _⟩ rfl [] [] rfl rfl rfl rfl (by decide) rfl rfl (Nat.le_of_ble_eq_true rfl) dJ1_charAt_3b067_3 (fun _ => ?_)
  refine g_aload_n C0 dJ1_charAt_3b067_6 rfl 0 rfl ?_
  refine g_iload_n C0 dJ1_charAt_3b067_7 rfl 1 rfl ?_
  refine g_tb C0 E0.2.2.2.2 (n_in (by omega) hk) (v := .int (f k)) (by rw [n_cl (by omega)]) dJ1_charAt_3b067_8 ?_
  refine g_sipush C0 (v := (255 : Int32)) dJ1_charAt_3b067_9 (by decide) ?_
  refine g_iand C0 dJ1_charAt_3b067_12 ?_
  refine g_i2c C0 dJ1_charAt_3b067_13 ?_
  rw [hzf, hc.1]
  exact g_nreti C0 hc.2.1 dJ1_charAt_3b067_14 () rfl rfl
theorem mJ1_charAt_3b067 (l : Launch) (D : va_G) (cB cC cI cO : ClassId) (a v n : Nat) (f : Nat → Int32) (k : Nat) (hn : n < 2147483648) (ha : asc n f) (hk : k < n) : ∀ sz, Met l yJ1_charAt_3b067 (ws_ yJ1_charAt_3b067 cJ1_charAt_3b067 2 (some .char)) rmJ1_charAt_3b067 (va_Pc [.ref v, .int (Int32.ofNat k)] (hPreE (jT a v n f) D (hTy cB cC cI cO) [] sz)) (hQni D (f k) (fun _ : Unit => []) (va_A [] sz)) 0 0 (va_A [] sz) :=
  g_metE (Qf := fun A => hQni D (f k) (fun _ : Unit => []) A) (by decide +kernel) (Nat.le_of_ble_eq_true rfl) rfl (fun C0 E0 => bJ1_charAt_3b067 C0 a v n f k E0 hn ha hk)
/-! java/lang/String.charAt(I)C -/
abbrev rmJ0_charAt_5068e : Room := { frames := 3, cells := 0, slots := 0, locals := 120 }
theorem hmJ0_charAt_5068e : hMC RJ0 yJ0_charAt_5068e cJ0_charAt_5068e 2 (some .char) 1 := ⟨q_857, q_28, q_855, q_856, by decide, by decide, by decide +kernel⟩
theorem dJ0_charAt_5068e_0 : decode cJ0_charAt_5068e 0 = .ok (.aload_n 0, 1) := by decide +kernel
theorem dJ0_charAt_5068e_1 : decode cJ0_charAt_5068e 1 = .ok (.invokevirtual 492, 3) := by decide +kernel
theorem dJ0_charAt_5068e_4 : decode cJ0_charAt_5068e 4 = .ok (.ifCond .eq 12, 3) := by decide +kernel
theorem dJ0_charAt_5068e_7 : decode cJ0_charAt_5068e 7 = .ok (.aload_n 0, 1) := by decide +kernel
theorem dJ0_charAt_5068e_8 : decode cJ0_charAt_5068e 8 = .ok (.getfield 9, 3) := by decide +kernel
theorem dJ0_charAt_5068e_11 : decode cJ0_charAt_5068e 11 = .ok (.iload_n 1, 1) := by decide +kernel
theorem dJ0_charAt_5068e_12 : decode cJ0_charAt_5068e 12 = .ok (.invokestatic 495, 3) := by decide +kernel
theorem dJ0_charAt_5068e_15 : decode cJ0_charAt_5068e 15 = .ok (.ireturn, 1) := by decide +kernel
theorem dJ0_charAt_5068e_16 : decode cJ0_charAt_5068e 16 = .ok (.aload_n 0, 1) := by decide +kernel
theorem dJ0_charAt_5068e_17 : decode cJ0_charAt_5068e 17 = .ok (.getfield 9, 3) := by decide +kernel
theorem dJ0_charAt_5068e_20 : decode cJ0_charAt_5068e 20 = .ok (.iload_n 1, 1) := by decide +kernel
theorem dJ0_charAt_5068e_21 : decode cJ0_charAt_5068e 21 = .ok (.invokestatic 498, 3) := by decide +kernel
theorem dJ0_charAt_5068e_24 : decode cJ0_charAt_5068e 24 = .ok (.ireturn, 1) := by decide +kernel
set_option maxHeartbeats 4000000 in
set_option maxRecDepth 100000 in
theorem bJ0_charAt_5068e {p : Program} {l : Launch} {e : Env} {s : State} {m : MethodId} {args : Array Value} {below : List Frame} {meth : Method} {c : Code} {D : va_G} {cB cC cI cO : ClassId} {A : Nat → Prop} (C0 : gC RJ0 cJ0_charAt_5068e 2 (some .char) p s m args meth c D (hTy cB cC cI cO) A) (a v n : Nat) (f : Nat → Int32) (k : Nat) (E0 : (jT a v n f) A s) (hn : n < 2147483648) (ha : asc n f) (hk : k < n) : gG p l e rmJ0_charAt_5068e s m args below meth c D A 2 (MQ below (hQni D (f k) (fun _ : Unit => []) A) args s 0 0 A) 0 0 0 [(0, .ref a), (1, .int (Int32.ofNat k))] [] [] := by
  obtain ⟨z, hz, hzf⟩ := ha k hk
  have hc := asc_one z hz
  refine g_aload_n C0 dJ0_charAt_5068e_0 rfl 0 rfl ?_
  refine g_xVi (X := []) (pl := []) (wr := []) (As := []) (st := []) (b := a) C0 (jT_ok a v n f) (xe_of C0 (jT_ok a v n f) E0) (fun _ _ _ hS => tx_recv E0.2 hS) (mJ0_isLatin1_aae02 l D cB cC cI cO a v n f) hmJ0_isLatin1_aae02 q_858 ⟨Nat.le_of_ble_eq_true rfl, Nat.le_of_ble_eq_true rfl⟩ rfl rfl ⟨Nat.zero_le _, Nat.zero_le _⟩ rfl [] [] rfl rfl rfl rfl (by decide) rfl rfl (Nat.le_of_ble_eq_true rfl) dJ0_charAt_5068e_1 (fun _ => ?_)
  refine g_if_eq C0 (tgt := 16) dJ0_charAt_5068e_4 (by decide) (fun c1 => absurd c1 (by decide)) (fun c1 => ?_)
  refine g_aload_n C0 dJ0_charAt_5068e_7 rfl 0 rfl ?_
  refine g_getO C0 E0.2.2.2.1 q_1117 dJ0_charAt_5068e_8 ?_
  refine g_iload_n C0 dJ0_charAt_5068e_11 rfl 1 rfl ?_
  refine g_xSi (X := []) (pl := []) (wr := []) (As := [.ref v, .int (Int32.ofNat k)]) (st := []) C0 (jT_ok a v n f) (xe_of C0 (jT_ok a v n f) E0) (mJ1_charAt_3b067 l D cB cC cI cO a v n f k hn ha hk) hmJ1_charAt_3b067 q_862 ⟨Nat.le_of_ble_eq_true rfl, Nat.le_of_ble_eq_true rfl⟩ rfl rfl ⟨Nat.zero_le _, Nat.zero_le _⟩ rfl [] [] rfl rfl rfl rfl (by decide) rfl rfl (Nat.le_of_ble_eq_true rfl) dJ0_charAt_5068e_12 (fun _ => ?_)
  exact g_nreti C0 (by rw [hzf]; exact hc.2.1) dJ0_charAt_5068e_15 () rfl rfl
theorem mJ0_charAt_5068e (l : Launch) (D : va_G) (cB cC cI cO : ClassId) (a v n : Nat) (f : Nat → Int32) (k : Nat) (hn : n < 2147483648) (ha : asc n f) (hk : k < n) : ∀ sz, Met l yJ0_charAt_5068e (ws_ yJ0_charAt_5068e cJ0_charAt_5068e 2 (some .char)) rmJ0_charAt_5068e (va_Pc [.ref a, .int (Int32.ofNat k)] (hPreE (jT a v n f) D (hTy cB cC cI cO) [] sz)) (hQni D (f k) (fun _ : Unit => []) (va_A [] sz)) 0 0 (va_A [] sz) :=
  g_metE (Qf := fun A => hQni D (f k) (fun _ : Unit => []) A) (by decide +kernel) (Nat.le_of_ble_eq_true rfl) rfl (fun C0 E0 => bJ0_charAt_5068e C0 a v n f k E0 hn ha hk)
/-! java/lang/String.getBytes([BIB)V -/
abbrev rmJ0_getBytes_840e7 : Room := { frames := 1, cells := 0, slots := 0, locals := 200 }
theorem hmJ0_getBytes_840e7 : hMC RJ0 yJ0_getBytes_840e7 cJ0_getBytes_840e7 4 none 3 := ⟨q_1036, q_28, q_1034, q_1035, by decide, by decide, by decide +kernel⟩
theorem dJ0_getBytes_840e7_0 : decode cJ0_getBytes_840e7 0 = .ok (.aload_n 0, 1) := by decide +kernel
theorem dJ0_getBytes_840e7_1 : decode cJ0_getBytes_840e7 1 = .ok (.invokevirtual 335, 3) := by decide +kernel
theorem dJ0_getBytes_840e7_4 : decode cJ0_getBytes_840e7 4 = .ok (.iload_n 3, 1) := by decide +kernel
theorem dJ0_getBytes_840e7_5 : decode cJ0_getBytes_840e7 5 = .ok (.if_icmp .ne 23, 3) := by decide +kernel
theorem dJ0_getBytes_840e7_8 : decode cJ0_getBytes_840e7 8 = .ok (.aload_n 0, 1) := by decide +kernel
theorem dJ0_getBytes_840e7_9 : decode cJ0_getBytes_840e7 9 = .ok (.getfield 9, 3) := by decide +kernel
theorem dJ0_getBytes_840e7_12 : decode cJ0_getBytes_840e7 12 = .ok (.iconst 0, 1) := by decide +kernel
theorem dJ0_getBytes_840e7_13 : decode cJ0_getBytes_840e7 13 = .ok (.aload_n 1, 1) := by decide +kernel
theorem dJ0_getBytes_840e7_14 : decode cJ0_getBytes_840e7 14 = .ok (.iload_n 2, 1) := by decide +kernel
theorem dJ0_getBytes_840e7_15 : decode cJ0_getBytes_840e7 15 = .ok (.iload_n 3, 1) := by decide +kernel
theorem dJ0_getBytes_840e7_16 : decode cJ0_getBytes_840e7 16 = .ok (.ishl, 1) := by decide +kernel
theorem dJ0_getBytes_840e7_17 : decode cJ0_getBytes_840e7 17 = .ok (.aload_n 0, 1) := by decide +kernel
theorem dJ0_getBytes_840e7_18 : decode cJ0_getBytes_840e7 18 = .ok (.getfield 9, 3) := by decide +kernel
theorem dJ0_getBytes_840e7_21 : decode cJ0_getBytes_840e7 21 = .ok (.arraylength, 1) := by decide +kernel
theorem dJ0_getBytes_840e7_22 : decode cJ0_getBytes_840e7 22 = .ok (.invokestatic 212, 3) := by decide +kernel
theorem dJ0_getBytes_840e7_25 : decode cJ0_getBytes_840e7 25 = .ok (.goto 18, 3) := by decide +kernel
theorem dJ0_getBytes_840e7_28 : decode cJ0_getBytes_840e7 28 = .ok (.aload_n 0, 1) := by decide +kernel
theorem dJ0_getBytes_840e7_29 : decode cJ0_getBytes_840e7 29 = .ok (.getfield 9, 3) := by decide +kernel
theorem dJ0_getBytes_840e7_32 : decode cJ0_getBytes_840e7 32 = .ok (.iconst 0, 1) := by decide +kernel
theorem dJ0_getBytes_840e7_33 : decode cJ0_getBytes_840e7 33 = .ok (.aload_n 1, 1) := by decide +kernel
theorem dJ0_getBytes_840e7_34 : decode cJ0_getBytes_840e7 34 = .ok (.iload_n 2, 1) := by decide +kernel
theorem dJ0_getBytes_840e7_35 : decode cJ0_getBytes_840e7 35 = .ok (.aload_n 0, 1) := by decide +kernel
theorem dJ0_getBytes_840e7_36 : decode cJ0_getBytes_840e7 36 = .ok (.getfield 9, 3) := by decide +kernel
theorem dJ0_getBytes_840e7_39 : decode cJ0_getBytes_840e7 39 = .ok (.arraylength, 1) := by decide +kernel
theorem dJ0_getBytes_840e7_40 : decode cJ0_getBytes_840e7 40 = .ok (.invokestatic 106, 3) := by decide +kernel
theorem dJ0_getBytes_840e7_43 : decode cJ0_getBytes_840e7 43 = .ok (.return_, 1) := by decide +kernel
set_option maxHeartbeats 4000000 in
set_option maxRecDepth 100000 in
theorem bJ0_getBytes_840e7 {p : Program} {l : Launch} {e : Env} {s : State} {m : MethodId} {args : Array Value} {below : List Frame} {meth : Method} {c : Code} {D : va_G} {cB cC cI cO : ClassId} {A : Nat → Prop} (C0 : gC RJ0 cJ0_getBytes_840e7 4 none p s m args meth c D (hTy cB cC cI cO) A) (a v n : Nat) (f : Nat → Int32) (d m0 i : Nat) (g : Nat → Int32) (E0 : (jT a v n f) A s) (hm0 : m0 < 2147483648) (ha : asc n f) (hi : i + n ≤ m0) : gG p l e rmJ0_getBytes_840e7 s m args below meth c D A 4 (MQ below (hQn D (fun _ : Unit => [(d, .inl (cB, m0, .inl (va_cpy f g 0 i n)))]) A) args s 0 0 A) 0 0 0 [(0, .ref a), (1, .ref d), (2, .int (Int32.ofNat i)), (3, .int 0)] [] [(d, .inl (cB, m0, .inl g))] := by
  refine g_aload_n C0 dJ0_getBytes_840e7_0 rfl 0 rfl ?_
  refine g_xVi (X := [(d, .inl (cB, m0, .inl g))]) (pl := []) (wr := [(d, .inl (cB, m0, .inl g))]) (As := []) (st := []) (b := a) C0 (jT_ok a v n f) (xe_of C0 (jT_ok a v n f) E0) (fun _ _ _ hS => tx_recv E0.2 hS) (mJ0_coder_7d493 l D cB cC cI cO a v n f) hmJ0_coder_7d493 q_839 ⟨Nat.le_of_ble_eq_true rfl, Nat.le_of_ble_eq_true rfl⟩ rfl rfl ⟨Nat.zero_le _, Nat.zero_le _⟩ rfl [] [0] rfl rfl rfl rfl (by decide) rfl rfl (Nat.le_of_ble_eq_true rfl) dJ0_getBytes_840e7_1 (fun _ => ?_)
  refine g_iload_n C0 dJ0_getBytes_840e7_4 rfl 3 rfl ?_
  refine g_icmp_ne C0 (tgt := 28) dJ0_getBytes_840e7_5 (by decide) (fun c1 => absurd rfl c1) (fun c1 => ?_)
  refine g_aload_n C0 dJ0_getBytes_840e7_8 rfl 0 rfl ?_
  refine g_getO C0 E0.2.2.2.1 q_1117 dJ0_getBytes_840e7_9 ?_
  refine g_iconst C0 (v := (0 : Int32)) dJ0_getBytes_840e7_12 (by decide) ?_
  refine g_aload_n C0 dJ0_getBytes_840e7_13 rfl 1 rfl ?_
  refine g_iload_n C0 dJ0_getBytes_840e7_14 rfl 2 rfl ?_
  refine g_iload_n C0 dJ0_getBytes_840e7_15 rfl 3 rfl ?_
  refine g_ishl C0 dJ0_getBytes_840e7_16 ?_
  rw [sh_l]
  refine g_aload_n C0 dJ0_getBytes_840e7_17 rfl 0 rfl ?_
  refine g_getO C0 E0.2.2.2.1 q_1117 dJ0_getBytes_840e7_18 ?_
  refine g_tlen C0 E0.2.2.2.2 rfl dJ0_getBytes_840e7_21 ?_
  refine g_copyt (js := 0) (jd := i) (jn := n) (ws' := [(d, .inl (cB, m0, .inl (va_cpy f g 0 i n)))]) C0 E0.2.2.2.2 q_1037 q_591 q_590 q_23 0 3 rfl rfl (by decide) (n_in1 (by omega)) (n_in1 (by omega)) (by decide) (n_cl (by omega)) (n_cl (by omega)) (fun j hj => by obtain ⟨z, hz, hzf⟩ := ha j hj; rw [hzf]; exact (asc_one z hz).2.2.1) (by omega) hi (Nat.le_of_ble_eq_true rfl) (by decide) dJ0_getBytes_840e7_22 rfl ?_
  refine g_goto C0 (tgt := 43) dJ0_getBytes_840e7_25 (by decide) ?_
  exact g_nret C0 dJ0_getBytes_840e7_43 () rfl
theorem mJ0_getBytes_840e7 (l : Launch) (D : va_G) (cB cC cI cO : ClassId) (a v n : Nat) (f : Nat → Int32) (d m0 i : Nat) (g : Nat → Int32) (hm0 : m0 < 2147483648) (ha : asc n f) (hi : i + n ≤ m0) : ∀ sz, Met l yJ0_getBytes_840e7 (ws_ yJ0_getBytes_840e7 cJ0_getBytes_840e7 4 none) rmJ0_getBytes_840e7 (va_Pc [.ref a, .ref d, .int (Int32.ofNat i), .int 0] (hPreE (jT a v n f) D (hTy cB cC cI cO) [(d, .inl (cB, m0, .inl g))] sz)) (hQn D (fun _ : Unit => [(d, .inl (cB, m0, .inl (va_cpy f g 0 i n)))]) (va_A [(d, .inl (cB, m0, .inl g))] sz)) 0 0 (va_A [(d, .inl (cB, m0, .inl g))] sz) :=
  g_metE (Qf := fun A => hQn D (fun _ : Unit => [(d, .inl (cB, m0, .inl (va_cpy f g 0 i n)))]) A) (by decide +kernel) (Nat.le_of_ble_eq_true rfl) rfl (fun C0 E0 => bJ0_getBytes_840e7 C0 a v n f d m0 i g E0 hm0 ha hi)
/-! java/lang/AbstractStringBuilder.isLatin1()Z -/
abbrev rmJ5_isLatin1_aae02 : Room := { frames := 0, cells := 0, slots := 0, locals := 0 }
theorem hmJ5_isLatin1_aae02 : hMC RJ4 yJ5_isLatin1_aae02 cJ5_isLatin1_aae02 1 (some .boolean) 0 := ⟨q_988, q_30, q_985, q_987, by decide, by decide, by decide +kernel⟩
theorem dJ5_isLatin1_aae02_0 : decode cJ5_isLatin1_aae02 0 = .ok (.getstatic 18, 3) := by decide +kernel
theorem dJ5_isLatin1_aae02_3 : decode cJ5_isLatin1_aae02 3 = .ok (.ifCond .eq 14, 3) := by decide +kernel
theorem dJ5_isLatin1_aae02_6 : decode cJ5_isLatin1_aae02 6 = .ok (.aload_n 0, 1) := by decide +kernel
theorem dJ5_isLatin1_aae02_7 : decode cJ5_isLatin1_aae02 7 = .ok (.getfield 22, 3) := by decide +kernel
theorem dJ5_isLatin1_aae02_10 : decode cJ5_isLatin1_aae02 10 = .ok (.ifCond .ne 7, 3) := by decide +kernel
theorem dJ5_isLatin1_aae02_13 : decode cJ5_isLatin1_aae02 13 = .ok (.iconst 1, 1) := by decide +kernel
theorem dJ5_isLatin1_aae02_14 : decode cJ5_isLatin1_aae02 14 = .ok (.goto 4, 3) := by decide +kernel
theorem dJ5_isLatin1_aae02_17 : decode cJ5_isLatin1_aae02 17 = .ok (.iconst 0, 1) := by decide +kernel
theorem dJ5_isLatin1_aae02_18 : decode cJ5_isLatin1_aae02 18 = .ok (.ireturn, 1) := by decide +kernel
set_option maxHeartbeats 4000000 in
set_option maxRecDepth 100000 in
theorem bJ5_isLatin1_aae02 {p : Program} {l : Launch} {e : Env} {s : State} {m : MethodId} {args : Array Value} {below : List Frame} {meth : Method} {c : Code} {D : va_G} {cB cC cI cO : ClassId} {A : Nat → Prop} (C0 : gC RJ5 cJ5_isLatin1_aae02 1 (some .boolean) p s m args meth c D (hTy cB cC cI cO) A) (b v : Nat) (ml : Int32) (n : Nat) (E0 : jE A s)  : gG p l e rmJ5_isLatin1_aae02 s m args below meth c D A 1 (MQ below (hQni D 1 (fun _ : Unit => [(b, .inr (1, [.ref v, .int 0, .int ml, .int (Int32.ofNat n)]))]) A) args s 0 0 A) 0 0 0 [(0, .ref b)] [] [(b, .inr (1, [.ref v, .int 0, .int ml, .int (Int32.ofNat n)]))] := by
  refine g_getS C0 E0.1 q_923 dJ5_isLatin1_aae02_0 ?_
  refine g_if_eq C0 (tgt := 17) dJ5_isLatin1_aae02_3 (by decide) (fun c1 => absurd c1 (by decide)) (fun c1 => ?_)
  refine g_aload_n C0 dJ5_isLatin1_aae02_6 rfl 0 rfl ?_
  refine g_get C0 hinJ4 0 rfl rfl 1 (by decide) q_932 rfl dJ5_isLatin1_aae02_7 ?_
  refine g_if_ne C0 (tgt := 17) dJ5_isLatin1_aae02_10 (by decide) (fun c1 => absurd rfl c1) (fun c1 => ?_)
  refine g_iconst C0 (v := (1 : Int32)) dJ5_isLatin1_aae02_13 (by decide) ?_
  refine g_goto C0 (tgt := 18) dJ5_isLatin1_aae02_14 (by decide) ?_
  exact g_nreti C0 rfl dJ5_isLatin1_aae02_18 () rfl rfl
theorem mJ5_isLatin1_aae02 (l : Launch) (D : va_G) (cB cC cI cO : ClassId) (b v : Nat) (ml : Int32) (n : Nat)  : ∀ sz, Met l yJ5_isLatin1_aae02 (ws_ yJ5_isLatin1_aae02 cJ5_isLatin1_aae02 1 (some .boolean)) rmJ5_isLatin1_aae02 (va_Pc [.ref b] (hPreE jE D (hTy cB cC cI cO) [(b, .inr (1, [.ref v, .int 0, .int ml, .int (Int32.ofNat n)]))] sz)) (hQni D 1 (fun _ : Unit => [(b, .inr (1, [.ref v, .int 0, .int ml, .int (Int32.ofNat n)]))]) (va_A [(b, .inr (1, [.ref v, .int 0, .int ml, .int (Int32.ofNat n)]))] sz)) 0 0 (va_A [(b, .inr (1, [.ref v, .int 0, .int ml, .int (Int32.ofNat n)]))] sz) :=
  g_metE (Qf := fun A => hQni D 1 (fun _ : Unit => [(b, .inr (1, [.ref v, .int 0, .int ml, .int (Int32.ofNat n)]))]) A) (by decide +kernel) (Nat.le_of_ble_eq_true rfl) rfl (fun C0 E0 => bJ5_isLatin1_aae02 C0 b v ml n E0 )
/-! jdk/internal/util/ArraysSupport.newLength(III)I -/
abbrev rmJ8_newLength_cabcc : Room := { frames := 1, cells := 0, slots := 0, locals := 60 }
theorem hmJ8_newLength_cabcc : hMS yJ8_newLength_cabcc cJ8_newLength_cabcc 4 (some .int) 3 := ⟨q_965, q_33, q_964, by decide, by decide, by decide +kernel⟩
theorem dJ8_newLength_cabcc_0 : decode cJ8_newLength_cabcc 0 = .ok (.iload_n 0, 1) := by decide +kernel
theorem dJ8_newLength_cabcc_1 : decode cJ8_newLength_cabcc 1 = .ok (.iload_n 1, 1) := by decide +kernel
theorem dJ8_newLength_cabcc_2 : decode cJ8_newLength_cabcc 2 = .ok (.iload_n 2, 1) := by decide +kernel
theorem dJ8_newLength_cabcc_3 : decode cJ8_newLength_cabcc 3 = .ok (.invokestatic 194, 3) := by decide +kernel
theorem dJ8_newLength_cabcc_6 : decode cJ8_newLength_cabcc 6 = .ok (.iadd, 1) := by decide +kernel
theorem dJ8_newLength_cabcc_7 : decode cJ8_newLength_cabcc 7 = .ok (.istore_n 3, 1) := by decide +kernel
theorem dJ8_newLength_cabcc_8 : decode cJ8_newLength_cabcc 8 = .ok (.iconst 0, 1) := by decide +kernel
theorem dJ8_newLength_cabcc_9 : decode cJ8_newLength_cabcc 9 = .ok (.iload_n 3, 1) := by decide +kernel
theorem dJ8_newLength_cabcc_10 : decode cJ8_newLength_cabcc 10 = .ok (.if_icmp .ge 11, 3) := by decide +kernel
theorem dJ8_newLength_cabcc_13 : decode cJ8_newLength_cabcc 13 = .ok (.iload_n 3, 1) := by decide +kernel
theorem dJ8_newLength_cabcc_14 : decode cJ8_newLength_cabcc 14 = .ok (.ldc 200, 2) := by decide +kernel
theorem dJ8_newLength_cabcc_16 : decode cJ8_newLength_cabcc 16 = .ok (.if_icmp .gt 5, 3) := by decide +kernel
theorem dJ8_newLength_cabcc_19 : decode cJ8_newLength_cabcc 19 = .ok (.iload_n 3, 1) := by decide +kernel
theorem dJ8_newLength_cabcc_20 : decode cJ8_newLength_cabcc 20 = .ok (.ireturn, 1) := by decide +kernel
theorem dJ8_newLength_cabcc_21 : decode cJ8_newLength_cabcc 21 = .ok (.iload_n 0, 1) := by decide +kernel
theorem dJ8_newLength_cabcc_22 : decode cJ8_newLength_cabcc 22 = .ok (.iload_n 1, 1) := by decide +kernel
theorem dJ8_newLength_cabcc_23 : decode cJ8_newLength_cabcc 23 = .ok (.invokestatic 201, 3) := by decide +kernel
theorem dJ8_newLength_cabcc_26 : decode cJ8_newLength_cabcc 26 = .ok (.ireturn, 1) := by decide +kernel
set_option maxHeartbeats 4000000 in
set_option maxRecDepth 100000 in
theorem bJ8_newLength_cabcc {p : Program} {l : Launch} {e : Env} {s : State} {m : MethodId} {args : Array Value} {below : List Frame} {meth : Method} {c : Code} {D : va_G} {cB cC cI cO : ClassId} {A : Nat → Prop} (C0 : gC RJ8 cJ8_newLength_cabcc 4 (some .int) p s m args meth c D (hTy cB cC cI cO) A) (y0 y1 y2 : Nat) (E0 : jE A s) (h0 : y0 < 100000) (h1 : y1 < 100000) (h2 : y2 < 100000) (h3 : 1 ≤ y2) : gG p l e rmJ8_newLength_cabcc s m args below meth c D A 4 (MQ below (hQni D (Int32.ofNat (y0 + (if y1 < y2 then y2 else y1))) (fun _ : Unit => []) A) args s 0 0 A) 0 0 0 [(0, .int (Int32.ofNat y0)), (1, .int (Int32.ofNat y1)), (2, .int (Int32.ofNat y2))] [] [] := by
  have hm : 1 ≤ y0 + (if y1 < y2 then y2 else y1) ∧ y0 + (if y1 < y2 then y2 else y1) < 200000 := by split <;> omega
  refine g_iload_n C0 dJ8_newLength_cabcc_0 rfl 0 rfl ?_
  refine g_iload_n C0 dJ8_newLength_cabcc_1 rfl 1 rfl ?_
  refine g_iload_n C0 dJ8_newLength_cabcc_2 rfl 2 rfl ?_
  refine g_mmax C0 q_966 q_476 q_22 q_477 (Nat.le_of_ble_eq_true rfl) ⟨Nat.zero_le _, Nat.zero_le _⟩ (Nat.le_of_ble_eq_true rfl) dJ8_newLength_cabcc_3 ?_
  rw [n_mx (by omega) (by omega)]
  refine g_iadd C0 dJ8_newLength_cabcc_6 ?_
  rw [n_add]
  refine g_istore_n C0 (lv' := [(3, .int (Int32.ofNat (y0 + (if y1 < y2 then y2 else y1)))), (0, .int (Int32.ofNat y0)), (1, .int (Int32.ofNat y1)), (2, .int (Int32.ofNat y2))]) dJ8_newLength_cabcc_7 rfl (by decide) rfl ?_
  refine g_iconst C0 (v := (0 : Int32)) dJ8_newLength_cabcc_8 (by decide) ?_
  refine g_iload_n C0 dJ8_newLength_cabcc_9 rfl 0 rfl ?_
  refine g_icmp_ge C0 (tgt := 21) dJ8_newLength_cabcc_10 (by decide) (fun c1 => absurd ((n_le (b := 0) (by omega) (by decide)).mp c1) (by omega)) (fun c1 => ?_)
  refine g_iload_n C0 dJ8_newLength_cabcc_13 rfl 0 rfl ?_
  refine g_ldc C0 dJ8_newLength_cabcc_14 q_967 ?_
  refine g_icmp_gt C0 (tgt := 21) dJ8_newLength_cabcc_16 (by decide) (fun c1 => absurd ((n_lt (a := 2147483639) (by decide) (by omega)).mp c1) (by omega)) (fun c1 => ?_)
  refine g_iload_n C0 dJ8_newLength_cabcc_19 rfl 0 rfl ?_
  exact g_nreti C0 rfl dJ8_newLength_cabcc_20 () rfl rfl
theorem mJ8_newLength_cabcc (l : Launch) (D : va_G) (cB cC cI cO : ClassId) (y0 y1 y2 : Nat) (h0 : y0 < 100000) (h1 : y1 < 100000) (h2 : y2 < 100000) (h3 : 1 ≤ y2) : ∀ sz, Met l yJ8_newLength_cabcc (ws_ yJ8_newLength_cabcc cJ8_newLength_cabcc 4 (some .int)) rmJ8_newLength_cabcc (va_Pc [.int (Int32.ofNat y0), .int (Int32.ofNat y1), .int (Int32.ofNat y2)] (hPreE jE D (hTy cB cC cI cO) [] sz)) (hQni D (Int32.ofNat (y0 + (if y1 < y2 then y2 else y1))) (fun _ : Unit => []) (va_A [] sz)) 0 0 (va_A [] sz) :=
  g_metE (Qf := fun A => hQni D (Int32.ofNat (y0 + (if y1 < y2 then y2 else y1))) (fun _ : Unit => []) A) (by decide +kernel) (Nat.le_of_ble_eq_true rfl) rfl (fun C0 E0 => bJ8_newLength_cabcc C0 y0 y1 y2 E0 h0 h1 h2 h3)
/-! java/lang/AbstractStringBuilder.newCapacity(I)I -/
abbrev rmJ5_newCapacity_0f7a4 : Room := { frames := 2, cells := 0, slots := 0, locals := 90 }
theorem hmJ5_newCapacity_0f7a4 : hMC RJ4 yJ5_newCapacity_0f7a4 cJ5_newCapacity_0f7a4 6 (some .int) 1 := ⟨q_962, q_30, q_961, (hAll_pv (by decide +kernel)), by decide, by decide, by decide +kernel⟩
theorem dJ5_newCapacity_0f7a4_0 : decode cJ5_newCapacity_0f7a4 0 = .ok (.aload_n 0, 1) := by decide +kernel
theorem dJ5_newCapacity_0f7a4_1 : decode cJ5_newCapacity_0f7a4 1 = .ok (.getfield 15, 3) := by decide +kernel
theorem dJ5_newCapacity_0f7a4_4 : decode cJ5_newCapacity_0f7a4 4 = .ok (.arraylength, 1) := by decide +kernel
theorem dJ5_newCapacity_0f7a4_5 : decode cJ5_newCapacity_0f7a4 5 = .ok (.istore_n 2, 1) := by decide +kernel
theorem dJ5_newCapacity_0f7a4_6 : decode cJ5_newCapacity_0f7a4 6 = .ok (.iload_n 1, 1) := by decide +kernel
theorem dJ5_newCapacity_0f7a4_7 : decode cJ5_newCapacity_0f7a4 7 = .ok (.aload_n 0, 1) := by decide +kernel
theorem dJ5_newCapacity_0f7a4_8 : decode cJ5_newCapacity_0f7a4 8 = .ok (.getfield 22, 3) := by decide +kernel
theorem dJ5_newCapacity_0f7a4_11 : decode cJ5_newCapacity_0f7a4 11 = .ok (.ishl, 1) := by decide +kernel
theorem dJ5_newCapacity_0f7a4_12 : decode cJ5_newCapacity_0f7a4 12 = .ok (.istore_n 3, 1) := by decide +kernel
theorem dJ5_newCapacity_0f7a4_13 : decode cJ5_newCapacity_0f7a4 13 = .ok (.iload_n 3, 1) := by decide +kernel
theorem dJ5_newCapacity_0f7a4_14 : decode cJ5_newCapacity_0f7a4 14 = .ok (.iload_n 2, 1) := by decide +kernel
theorem dJ5_newCapacity_0f7a4_15 : decode cJ5_newCapacity_0f7a4 15 = .ok (.isub, 1) := by decide +kernel
theorem dJ5_newCapacity_0f7a4_16 : decode cJ5_newCapacity_0f7a4 16 = .ok (.istore 4, 2) := by decide +kernel
theorem dJ5_newCapacity_0f7a4_18 : decode cJ5_newCapacity_0f7a4 18 = .ok (.iload_n 2, 1) := by decide +kernel
theorem dJ5_newCapacity_0f7a4_19 : decode cJ5_newCapacity_0f7a4 19 = .ok (.iload 4, 2) := by decide +kernel
theorem dJ5_newCapacity_0f7a4_21 : decode cJ5_newCapacity_0f7a4 21 = .ok (.iload_n 2, 1) := by decide +kernel
theorem dJ5_newCapacity_0f7a4_22 : decode cJ5_newCapacity_0f7a4 22 = .ok (.iconst 2, 1) := by decide +kernel
theorem dJ5_newCapacity_0f7a4_23 : decode cJ5_newCapacity_0f7a4 23 = .ok (.aload_n 0, 1) := by decide +kernel
theorem dJ5_newCapacity_0f7a4_24 : decode cJ5_newCapacity_0f7a4 24 = .ok (.getfield 22, 3) := by decide +kernel
theorem dJ5_newCapacity_0f7a4_27 : decode cJ5_newCapacity_0f7a4 27 = .ok (.ishl, 1) := by decide +kernel
theorem dJ5_newCapacity_0f7a4_28 : decode cJ5_newCapacity_0f7a4 28 = .ok (.iadd, 1) := by decide +kernel
theorem dJ5_newCapacity_0f7a4_29 : decode cJ5_newCapacity_0f7a4 29 = .ok (.invokestatic 114, 3) := by decide +kernel
theorem dJ5_newCapacity_0f7a4_32 : decode cJ5_newCapacity_0f7a4 32 = .ok (.istore 5, 2) := by decide +kernel
theorem dJ5_newCapacity_0f7a4_34 : decode cJ5_newCapacity_0f7a4 34 = .ok (.iload 5, 2) := by decide +kernel
theorem dJ5_newCapacity_0f7a4_36 : decode cJ5_newCapacity_0f7a4 36 = .ok (.ldc 39, 2) := by decide +kernel
theorem dJ5_newCapacity_0f7a4_38 : decode cJ5_newCapacity_0f7a4 38 = .ok (.if_icmp .ne 13, 3) := by decide +kernel
theorem dJ5_newCapacity_0f7a4_41 : decode cJ5_newCapacity_0f7a4 41 = .ok (.new 120, 3) := by decide +kernel
theorem dJ5_newCapacity_0f7a4_44 : decode cJ5_newCapacity_0f7a4 44 = .ok (.dup, 1) := by decide +kernel
theorem dJ5_newCapacity_0f7a4_45 : decode cJ5_newCapacity_0f7a4 45 = .ok (.ldc 122, 2) := by decide +kernel
theorem dJ5_newCapacity_0f7a4_47 : decode cJ5_newCapacity_0f7a4 47 = .ok (.invokespecial 124, 3) := by decide +kernel
theorem dJ5_newCapacity_0f7a4_50 : decode cJ5_newCapacity_0f7a4 50 = .ok (.athrow, 1) := by decide +kernel
theorem dJ5_newCapacity_0f7a4_51 : decode cJ5_newCapacity_0f7a4 51 = .ok (.iload 5, 2) := by decide +kernel
theorem dJ5_newCapacity_0f7a4_53 : decode cJ5_newCapacity_0f7a4 53 = .ok (.aload_n 0, 1) := by decide +kernel
theorem dJ5_newCapacity_0f7a4_54 : decode cJ5_newCapacity_0f7a4 54 = .ok (.getfield 22, 3) := by decide +kernel
theorem dJ5_newCapacity_0f7a4_57 : decode cJ5_newCapacity_0f7a4 57 = .ok (.ishr, 1) := by decide +kernel
theorem dJ5_newCapacity_0f7a4_58 : decode cJ5_newCapacity_0f7a4 58 = .ok (.ireturn, 1) := by decide +kernel
set_option maxHeartbeats 4000000 in
set_option maxRecDepth 100000 in
theorem bJ5_newCapacity_0f7a4 {p : Program} {l : Launch} {e : Env} {s : State} {m : MethodId} {args : Array Value} {below : List Frame} {meth : Method} {c : Code} {D : va_G} {cB cC cI cO : ClassId} {A : Nat → Prop} (C0 : gC RJ5 cJ5_newCapacity_0f7a4 6 (some .int) p s m args meth c D (hTy cB cC cI cO) A) (b v : Nat) (ml : Int32) (n : Nat) (m0 y : Nat) (g : Nat → Int32) (E0 : jE A s) (hm : m0 < y) (hy : y < 30000) : gG p l e rmJ5_newCapacity_0f7a4 s m args below meth c D A 6 (MQ below (hQni D (Int32.ofNat (m0 + (if y - m0 < m0 + 2 then m0 + 2 else y - m0))) (fun _ : Unit => [(b, .inr (1, [.ref v, .int 0, .int ml, .int (Int32.ofNat n)])), (v, .inl (cB, m0, .inl g))]) A) args s 0 0 A) 0 0 0 [(0, .ref b), (1, .int (Int32.ofNat y))] [] [(b, .inr (1, [.ref v, .int 0, .int ml, .int (Int32.ofNat n)])), (v, .inl (cB, m0, .inl g))] := by
  have hcap : (m0 + (if y - m0 < m0 + 2 then m0 + 2 else y - m0)) < 200000 := by split <;> omega
  refine g_aload_n C0 dJ5_newCapacity_0f7a4_0 rfl 0 rfl ?_
  refine g_get C0 hinJ4 0 rfl rfl 0 (by decide) q_931 rfl dJ5_newCapacity_0f7a4_1 ?_
  refine g_alen C0 (v := Int32.ofNat m0) 1 3 rfl rfl rfl dJ5_newCapacity_0f7a4_4 ?_
  refine g_istore_n C0 (lv' := [(2, .int (Int32.ofNat m0)), (0, .ref b), (1, .int (Int32.ofNat y))]) dJ5_newCapacity_0f7a4_5 rfl (by decide) rfl ?_
  refine g_iload_n C0 dJ5_newCapacity_0f7a4_6 rfl 2 rfl ?_
  refine g_aload_n C0 dJ5_newCapacity_0f7a4_7 rfl 1 rfl ?_
  refine g_get C0 hinJ4 0 rfl rfl 1 (by decide) q_932 rfl dJ5_newCapacity_0f7a4_8 ?_
  refine g_ishl C0 dJ5_newCapacity_0f7a4_11 ?_
  rw [sh_l]
  refine g_istore_n C0 (lv' := [(3, .int (Int32.ofNat y)), (2, .int (Int32.ofNat m0)), (0, .ref b), (1, .int (Int32.ofNat y))]) dJ5_newCapacity_0f7a4_12 rfl (by decide) rfl ?_
  refine g_iload_n C0 dJ5_newCapacity_0f7a4_13 rfl 0 rfl ?_
  refine g_iload_n C0 dJ5_newCapacity_0f7a4_14 rfl 1 rfl ?_
  refine g_isub C0 dJ5_newCapacity_0f7a4_15 ?_
  rw [n_sub (by omega)]
  refine g_istore C0 (lv' := [(4, .int (Int32.ofNat (y - m0))), (3, .int (Int32.ofNat y)), (2, .int (Int32.ofNat m0)), (0, .ref b), (1, .int (Int32.ofNat y))]) dJ5_newCapacity_0f7a4_16 (by decide) rfl ?_
  refine g_iload_n C0 dJ5_newCapacity_0f7a4_18 rfl 2 rfl ?_
  refine g_iload C0 dJ5_newCapacity_0f7a4_19 0 rfl ?_
  refine g_iload_n C0 dJ5_newCapacity_0f7a4_21 rfl 2 rfl ?_
  refine g_iconst C0 (v := (2 : Int32)) dJ5_newCapacity_0f7a4_22 (by decide) ?_
  refine g_aload_n C0 dJ5_newCapacity_0f7a4_23 rfl 3 rfl ?_
  refine g_get C0 hinJ4 0 rfl rfl 1 (by decide) q_932 rfl dJ5_newCapacity_0f7a4_24 ?_
  refine g_ishl C0 dJ5_newCapacity_0f7a4_27 ?_
  rw [sh_l]
  refine g_iadd C0 dJ5_newCapacity_0f7a4_28 ?_
  rw [show Int32.ofNat m0 + (2 : Int32) = Int32.ofNat (m0 + 2) from n_add m0 2]
  refine g_xSi (X := [(b, .inr (1, [.ref v, .int 0, .int ml, .int (Int32.ofNat n)])), (v, .inl (cB, m0, .inl g))]) (pl := []) (wr := [(b, .inr (1, [.ref v, .int 0, .int ml, .int (Int32.ofNat n)])), (v, .inl (cB, m0, .inl g))]) (As := [.int (Int32.ofNat m0), .int (Int32.ofNat (y - m0)), .int (Int32.ofNat (m0 + 2))]) (st := []) C0 jE_ok (xe_of C0 jE_ok E0) (mJ8_newLength_cabcc l D cB cC cI cO m0 (y - m0) (m0 + 2) (by omega) (by omega) (by omega) (by omega)) hmJ8_newLength_cabcc q_963 ⟨Nat.le_of_ble_eq_true rfl, Nat.le_of_ble_eq_true rfl⟩ rfl rfl ⟨Nat.zero_le _, Nat.zero_le _⟩ rfl [] [0, 1] rfl rfl rfl rfl (by decide) rfl rfl (Nat.le_of_ble_eq_true rfl) dJ5_newCapacity_0f7a4_29 (fun _ => ?_)
  refine g_eq (ws' := [(b, .inr (1, [.ref v, .int 0, .int ml, .int (Int32.ofNat n)])), (v, .inl (cB, m0, .inl g))]) rfl rfl rfl ?_
  refine g_istore C0 (lv' := [(5, .int (Int32.ofNat (m0 + (if y - m0 < m0 + 2 then m0 + 2 else y - m0)))), (4, .int (Int32.ofNat (y - m0))), (3, .int (Int32.ofNat y)), (2, .int (Int32.ofNat m0)), (0, .ref b), (1, .int (Int32.ofNat y))]) dJ5_newCapacity_0f7a4_32 (by decide) rfl ?_
  refine g_iload C0 dJ5_newCapacity_0f7a4_34 0 rfl ?_
  refine g_ldc C0 dJ5_newCapacity_0f7a4_36 q_971 ?_
  refine g_icmp_ne C0 (tgt := 51) dJ5_newCapacity_0f7a4_38 (by decide) (fun c1 => ?_) (fun c1 => absurd ((n_eq (b := 2147483647) (by omega) (by decide)).mp c1) (by omega))
  refine g_iload C0 dJ5_newCapacity_0f7a4_51 0 rfl ?_
  refine g_aload_n C0 dJ5_newCapacity_0f7a4_53 rfl 4 rfl ?_
  refine g_get C0 hinJ4 0 rfl rfl 1 (by decide) q_932 rfl dJ5_newCapacity_0f7a4_54 ?_
  refine g_ishr C0 dJ5_newCapacity_0f7a4_57 ?_
  rw [sh_r]
  exact g_nreti C0 rfl dJ5_newCapacity_0f7a4_58 () rfl rfl
theorem mJ5_newCapacity_0f7a4 (l : Launch) (D : va_G) (cB cC cI cO : ClassId) (b v : Nat) (ml : Int32) (n : Nat) (m0 y : Nat) (g : Nat → Int32) (hm : m0 < y) (hy : y < 30000) : ∀ sz, Met l yJ5_newCapacity_0f7a4 (ws_ yJ5_newCapacity_0f7a4 cJ5_newCapacity_0f7a4 6 (some .int)) rmJ5_newCapacity_0f7a4 (va_Pc [.ref b, .int (Int32.ofNat y)] (hPreE jE D (hTy cB cC cI cO) [(b, .inr (1, [.ref v, .int 0, .int ml, .int (Int32.ofNat n)])), (v, .inl (cB, m0, .inl g))] sz)) (hQni D (Int32.ofNat (m0 + (if y - m0 < m0 + 2 then m0 + 2 else y - m0))) (fun _ : Unit => [(b, .inr (1, [.ref v, .int 0, .int ml, .int (Int32.ofNat n)])), (v, .inl (cB, m0, .inl g))]) (va_A [(b, .inr (1, [.ref v, .int 0, .int ml, .int (Int32.ofNat n)])), (v, .inl (cB, m0, .inl g))] sz)) 0 0 (va_A [(b, .inr (1, [.ref v, .int 0, .int ml, .int (Int32.ofNat n)])), (v, .inl (cB, m0, .inl g))] sz) :=
  g_metE (Qf := fun A => hQni D (Int32.ofNat (m0 + (if y - m0 < m0 + 2 then m0 + 2 else y - m0))) (fun _ : Unit => [(b, .inr (1, [.ref v, .int 0, .int ml, .int (Int32.ofNat n)])), (v, .inl (cB, m0, .inl g))]) A) (by decide +kernel) (Nat.le_of_ble_eq_true rfl) rfl (fun C0 E0 => bJ5_newCapacity_0f7a4 C0 b v ml n m0 y g E0 hm hy)
/-! java/util/Arrays.copyOf([BI)[B -/
abbrev rmJ7_copyOf_9075b (y : Nat) : Room := { frames := 1, cells := 1, slots := y, locals := 200 }
theorem hmJ7_copyOf_9075b : hMS yJ7_copyOf_9075b cJ7_copyOf_9075b 3 (some (.array .byte)) 2 := ⟨q_974, q_14, q_973, by decide, by decide, by decide +kernel⟩
theorem dJ7_copyOf_9075b_0 : decode cJ7_copyOf_9075b 0 = .ok (.iload_n 1, 1) := by decide +kernel
theorem dJ7_copyOf_9075b_1 : decode cJ7_copyOf_9075b 1 = .ok (.aload_n 0, 1) := by decide +kernel
theorem dJ7_copyOf_9075b_2 : decode cJ7_copyOf_9075b 2 = .ok (.arraylength, 1) := by decide +kernel
theorem dJ7_copyOf_9075b_3 : decode cJ7_copyOf_9075b 3 = .ok (.if_icmp .ne 11, 3) := by decide +kernel
theorem dJ7_copyOf_9075b_6 : decode cJ7_copyOf_9075b 6 = .ok (.aload_n 0, 1) := by decide +kernel
theorem dJ7_copyOf_9075b_7 : decode cJ7_copyOf_9075b 7 = .ok (.invokevirtual 310, 3) := by decide +kernel
theorem dJ7_copyOf_9075b_10 : decode cJ7_copyOf_9075b 10 = .ok (.checkcast 311, 3) := by decide +kernel
theorem dJ7_copyOf_9075b_13 : decode cJ7_copyOf_9075b 13 = .ok (.areturn, 1) := by decide +kernel
theorem dJ7_copyOf_9075b_14 : decode cJ7_copyOf_9075b 14 = .ok (.iload_n 1, 1) := by decide +kernel
theorem dJ7_copyOf_9075b_15 : decode cJ7_copyOf_9075b 15 = .ok (.newarray .byte, 2) := by decide +kernel
theorem dJ7_copyOf_9075b_17 : decode cJ7_copyOf_9075b 17 = .ok (.astore_n 2, 1) := by decide +kernel
theorem dJ7_copyOf_9075b_18 : decode cJ7_copyOf_9075b 18 = .ok (.aload_n 0, 1) := by decide +kernel
theorem dJ7_copyOf_9075b_19 : decode cJ7_copyOf_9075b 19 = .ok (.iconst 0, 1) := by decide +kernel
theorem dJ7_copyOf_9075b_20 : decode cJ7_copyOf_9075b 20 = .ok (.aload_n 2, 1) := by decide +kernel
theorem dJ7_copyOf_9075b_21 : decode cJ7_copyOf_9075b 21 = .ok (.iconst 0, 1) := by decide +kernel
theorem dJ7_copyOf_9075b_22 : decode cJ7_copyOf_9075b 22 = .ok (.aload_n 0, 1) := by decide +kernel
theorem dJ7_copyOf_9075b_23 : decode cJ7_copyOf_9075b 23 = .ok (.arraylength, 1) := by decide +kernel
theorem dJ7_copyOf_9075b_24 : decode cJ7_copyOf_9075b 24 = .ok (.iload_n 1, 1) := by decide +kernel
theorem dJ7_copyOf_9075b_25 : decode cJ7_copyOf_9075b 25 = .ok (.invokestatic 304, 3) := by decide +kernel
theorem dJ7_copyOf_9075b_28 : decode cJ7_copyOf_9075b 28 = .ok (.invokestatic 150, 3) := by decide +kernel
theorem dJ7_copyOf_9075b_31 : decode cJ7_copyOf_9075b 31 = .ok (.aload_n 2, 1) := by decide +kernel
theorem dJ7_copyOf_9075b_32 : decode cJ7_copyOf_9075b 32 = .ok (.areturn, 1) := by decide +kernel
set_option maxHeartbeats 4000000 in
set_option maxRecDepth 100000 in
theorem bJ7_copyOf_9075b {p : Program} {l : Launch} {e : Env} {s : State} {m : MethodId} {args : Array Value} {below : List Frame} {meth : Method} {c : Code} {D : va_G} {cB cC cI cO : ClassId} {A : Nat → Prop} (C0 : gC RJ7 cJ7_copyOf_9075b 3 (some (.array .byte)) p s m args meth c D (hTy cB cC cI cO) A) (v m0 y : Nat) (g : Nat → Int32) (E0 : jE A s) (hm : m0 < y) (hy : y < 200000) (hg : sb_Fit g) : gG p l e (rmJ7_copyOf_9075b y) s m args below meth c D A 3 (MQ below (hQnr D (fun w : Nat => w) (fun w : Nat => [(v, .inl (cB, m0, .inl g)), (w, .inl (cB, y, .inl (va_cpy g (fun _ => 0) 0 0 m0)))]) A) args s 1 (y) A) 0 0 0 [(0, .ref v), (1, .int (Int32.ofNat y))] [] [(v, .inl (cB, m0, .inl g))] := by
  refine g_iload_n C0 dJ7_copyOf_9075b_0 rfl 1 rfl ?_
  refine g_aload_n C0 dJ7_copyOf_9075b_1 rfl 0 rfl ?_
  refine g_alen C0 (v := Int32.ofNat m0) 0 3 rfl rfl rfl dJ7_copyOf_9075b_2 ?_
  refine g_icmp_ne C0 (tgt := 14) dJ7_copyOf_9075b_3 (by decide) (fun c1 => ?_) (fun c1 => absurd ((n_eq (by omega) (by omega)).mp c1) (by omega))
  refine g_iload_n C0 dJ7_copyOf_9075b_14 rfl 1 rfl ?_
  refine g_newB (N := y) C0 q_355 3 rfl (n_in1 (by omega)) (n_cl (by omega)) (show y * 1 ≤ 536870912 by omega) (Nat.le_of_ble_eq_true rfl) (show 0 + y ≤ y by omega) dJ7_copyOf_9075b_15 (fun w => ?_)
  refine g_eq (ws' := [(v, .inl (cB, m0, .inl g)), (w, .inl (cB, y, .inl (fun _ => 0)))]) rfl rfl rfl ?_
  refine g_astore_n C0 (lv' := [(2, .ref w), (0, .ref v), (1, .int (Int32.ofNat y))]) dJ7_copyOf_9075b_17 rfl (by decide) rfl ?_
  refine g_aload_n C0 dJ7_copyOf_9075b_18 rfl 1 rfl ?_
  refine g_iconst C0 (v := (0 : Int32)) dJ7_copyOf_9075b_19 (by decide) ?_
  refine g_aload_n C0 dJ7_copyOf_9075b_20 rfl 0 rfl ?_
  refine g_iconst C0 (v := (0 : Int32)) dJ7_copyOf_9075b_21 (by decide) ?_
  refine g_aload_n C0 dJ7_copyOf_9075b_22 rfl 1 rfl ?_
  refine g_alen C0 (v := Int32.ofNat m0) 0 3 rfl rfl rfl dJ7_copyOf_9075b_23 ?_
  refine g_iload_n C0 dJ7_copyOf_9075b_24 rfl 2 rfl ?_
  refine g_mmin C0 q_982 q_583 q_22 q_584 (Nat.le_of_ble_eq_true rfl) ⟨Nat.le_of_ble_eq_true rfl, show 0 + y ≤ y by omega⟩ (Nat.le_of_ble_eq_true rfl) dJ7_copyOf_9075b_25 ?_
  rw [if_neg (fun z => absurd ((n_lt (by omega) (by omega)).mp z) (by omega) : ¬ Int32.ofNat y < Int32.ofNat m0)]
  refine g_copyb C0 (ws' := [(v, .inl (cB, m0, .inl g)), (w, .inl (cB, y, .inl (va_cpy g (fun _ => 0) 0 0 m0)))]) (js := 0) (jd := 0) (jn := m0) q_983 q_591 q_590 q_23 0 1 3 3 rfl rfl rfl rfl (by decide) (by decide) (n_in1 (by omega)) (by decide) (by decide) (n_cl (by omega)) hg (by omega) (by omega) (Nat.le_of_ble_eq_true rfl) (show _ ≤ 200 by decide) dJ7_copyOf_9075b_28 rfl ?_
  refine g_aload_n C0 dJ7_copyOf_9075b_31 rfl 0 rfl ?_
  refine g_widen (kk1 := 1) (nn1 := y) (by omega) (by omega) ?_
  exact g_nretr C0 (Or.inr ⟨_, rfl⟩) dJ7_copyOf_9075b_32 w rfl rfl
theorem mJ7_copyOf_9075b (l : Launch) (D : va_G) (cB cC cI cO : ClassId) (v m0 y : Nat) (g : Nat → Int32) (hm : m0 < y) (hy : y < 200000) (hg : sb_Fit g) : ∀ sz, Met l yJ7_copyOf_9075b (ws_ yJ7_copyOf_9075b cJ7_copyOf_9075b 3 (some (.array .byte))) (rmJ7_copyOf_9075b y) (va_Pc [.ref v, .int (Int32.ofNat y)] (hPreE jE D (hTy cB cC cI cO) [(v, .inl (cB, m0, .inl g))] sz)) (hQnr D (fun w : Nat => w) (fun w : Nat => [(v, .inl (cB, m0, .inl g)), (w, .inl (cB, y, .inl (va_cpy g (fun _ => 0) 0 0 m0)))]) (va_A [(v, .inl (cB, m0, .inl g))] sz)) 1 (y) (va_A [(v, .inl (cB, m0, .inl g))] sz) :=
  g_metE (Qf := fun A => hQnr D (fun w : Nat => w) (fun w : Nat => [(v, .inl (cB, m0, .inl g)), (w, .inl (cB, y, .inl (va_cpy g (fun _ => 0) 0 0 m0)))]) A) (by decide +kernel) (Nat.le_of_ble_eq_true rfl) rfl (fun C0 E0 => bJ7_copyOf_9075b C0 v m0 y g E0 hm hy hg)
/-! java/lang/AbstractStringBuilder.ensureCapacityInternal(I)V -/
abbrev rmJ5_ensureCapacityInternal_d00df (y : Nat) : Room := { frames := 3, cells := 1, slots := (2 * y), locals := 230 }
theorem hmJ5_ensureCapacityInternal_d00df : hMC RJ4 yJ5_ensureCapacityInternal_d00df cJ5_ensureCapacityInternal_d00df 3 none 1 := ⟨q_958, q_30, q_957, (hAll_pv (by decide +kernel)), by decide, by decide, by decide +kernel⟩
theorem dJ5_ensureCapacityInternal_d00df_0 : decode cJ5_ensureCapacityInternal_d00df 0 = .ok (.aload_n 0, 1) := by decide +kernel
theorem dJ5_ensureCapacityInternal_d00df_1 : decode cJ5_ensureCapacityInternal_d00df 1 = .ok (.getfield 15, 3) := by decide +kernel
theorem dJ5_ensureCapacityInternal_d00df_4 : decode cJ5_ensureCapacityInternal_d00df 4 = .ok (.arraylength, 1) := by decide +kernel
theorem dJ5_ensureCapacityInternal_d00df_5 : decode cJ5_ensureCapacityInternal_d00df 5 = .ok (.aload_n 0, 1) := by decide +kernel
theorem dJ5_ensureCapacityInternal_d00df_6 : decode cJ5_ensureCapacityInternal_d00df 6 = .ok (.getfield 22, 3) := by decide +kernel
theorem dJ5_ensureCapacityInternal_d00df_9 : decode cJ5_ensureCapacityInternal_d00df 9 = .ok (.ishr, 1) := by decide +kernel
theorem dJ5_ensureCapacityInternal_d00df_10 : decode cJ5_ensureCapacityInternal_d00df 10 = .ok (.istore_n 2, 1) := by decide +kernel
theorem dJ5_ensureCapacityInternal_d00df_11 : decode cJ5_ensureCapacityInternal_d00df 11 = .ok (.iload_n 1, 1) := by decide +kernel
theorem dJ5_ensureCapacityInternal_d00df_12 : decode cJ5_ensureCapacityInternal_d00df 12 = .ok (.iload_n 2, 1) := by decide +kernel
theorem dJ5_ensureCapacityInternal_d00df_13 : decode cJ5_ensureCapacityInternal_d00df 13 = .ok (.isub, 1) := by decide +kernel
theorem dJ5_ensureCapacityInternal_d00df_14 : decode cJ5_ensureCapacityInternal_d00df 14 = .ok (.ifCond .le 24, 3) := by decide +kernel
theorem dJ5_ensureCapacityInternal_d00df_17 : decode cJ5_ensureCapacityInternal_d00df 17 = .ok (.aload_n 0, 1) := by decide +kernel
theorem dJ5_ensureCapacityInternal_d00df_18 : decode cJ5_ensureCapacityInternal_d00df 18 = .ok (.aload_n 0, 1) := by decide +kernel
theorem dJ5_ensureCapacityInternal_d00df_19 : decode cJ5_ensureCapacityInternal_d00df 19 = .ok (.getfield 15, 3) := by decide +kernel
theorem dJ5_ensureCapacityInternal_d00df_22 : decode cJ5_ensureCapacityInternal_d00df 22 = .ok (.aload_n 0, 1) := by decide +kernel
theorem dJ5_ensureCapacityInternal_d00df_23 : decode cJ5_ensureCapacityInternal_d00df 23 = .ok (.iload_n 1, 1) := by decide +kernel
theorem dJ5_ensureCapacityInternal_d00df_24 : decode cJ5_ensureCapacityInternal_d00df 24 = .ok (.invokevirtual 104, 3) := by decide +kernel
theorem dJ5_ensureCapacityInternal_d00df_27 : decode cJ5_ensureCapacityInternal_d00df 27 = .ok (.aload_n 0, 1) := by decide +kernel
theorem dJ5_ensureCapacityInternal_d00df_28 : decode cJ5_ensureCapacityInternal_d00df 28 = .ok (.getfield 22, 3) := by decide +kernel
theorem dJ5_ensureCapacityInternal_d00df_31 : decode cJ5_ensureCapacityInternal_d00df 31 = .ok (.ishl, 1) := by decide +kernel
theorem dJ5_ensureCapacityInternal_d00df_32 : decode cJ5_ensureCapacityInternal_d00df 32 = .ok (.invokestatic 108, 3) := by decide +kernel
theorem dJ5_ensureCapacityInternal_d00df_35 : decode cJ5_ensureCapacityInternal_d00df 35 = .ok (.putfield 15, 3) := by decide +kernel
theorem dJ5_ensureCapacityInternal_d00df_38 : decode cJ5_ensureCapacityInternal_d00df 38 = .ok (.return_, 1) := by decide +kernel
set_option maxHeartbeats 4000000 in
set_option maxRecDepth 100000 in
theorem bJ5_ensureCapacityInternal_d00df {p : Program} {l : Launch} {e : Env} {s : State} {m : MethodId} {args : Array Value} {below : List Frame} {meth : Method} {c : Code} {D : va_G} {cB cC cI cO : ClassId} {A : Nat → Prop} (C0 : gC RJ5 cJ5_ensureCapacityInternal_d00df 3 none p s m args meth c D (hTy cB cC cI cO) A) (b v : Nat) (ml : Int32) (n : Nat) (m0 y : Nat) (g : Nat → Int32) (E0 : jE A s) (hm : m0 < 30000) (hy : y < 30000) (hg : sb_Fit g) : gG p l e (rmJ5_ensureCapacityInternal_d00df y) s m args below meth c D A 3 (MQ below (hQn D (fun u : {u : Nat × Nat × (Nat → Int32) // y ≤ u.2.1 ∧ (u.2.1 = m0 ∨ u.2.1 ≤ 2 * y) ∧ sb_Fit u.2.2 ∧ ∀ j, j < m0 → u.2.2 j = g j} => sbW cB b ml n u.1) A) args s 1 ((2 * y)) A) 0 0 0 [(0, .ref b), (1, .int (Int32.ofNat y))] [] (sbW cB b ml n (v, m0, g)) := by
  refine g_eq (ws' := [(b, .inr (1, [.ref v, .int 0, .int ml, .int (Int32.ofNat n)])), (v, .inl (cB, m0, .inl g))]) rfl rfl rfl ?_
  refine g_aload_n C0 dJ5_ensureCapacityInternal_d00df_0 rfl 0 rfl ?_
  refine g_get C0 hinJ4 0 rfl rfl 0 (by decide) q_931 rfl dJ5_ensureCapacityInternal_d00df_1 ?_
  refine g_alen C0 (v := Int32.ofNat m0) 1 3 rfl rfl rfl dJ5_ensureCapacityInternal_d00df_4 ?_
  refine g_aload_n C0 dJ5_ensureCapacityInternal_d00df_5 rfl 0 rfl ?_
  refine g_get C0 hinJ4 0 rfl rfl 1 (by decide) q_932 rfl dJ5_ensureCapacityInternal_d00df_6 ?_
  refine g_ishr C0 dJ5_ensureCapacityInternal_d00df_9 ?_
  rw [sh_r]
  refine g_istore_n C0 (lv' := [(2, .int (Int32.ofNat m0)), (0, .ref b), (1, .int (Int32.ofNat y))]) dJ5_ensureCapacityInternal_d00df_10 rfl (by decide) rfl ?_
  refine g_iload_n C0 dJ5_ensureCapacityInternal_d00df_11 rfl 2 rfl ?_
  refine g_iload_n C0 dJ5_ensureCapacityInternal_d00df_12 rfl 0 rfl ?_
  refine g_isub C0 dJ5_ensureCapacityInternal_d00df_13 ?_
  refine g_if_le C0 (tgt := 38) dJ5_ensureCapacityInternal_d00df_14 (by decide) (fun c1 => ?_) (fun c1 => ?_)
  · have hym : y ≤ m0 := tx_le (by omega) (by omega) c1
    refine g_widen (kk1 := 1) (nn1 := 2 * y) (by omega) (by omega) ?_
    exact g_nret C0 dJ5_ensureCapacityInternal_d00df_38 ⟨(v, m0, g), hym, Or.inl rfl, hg, fun j _ => rfl⟩ rfl
  · have hym : m0 < y := tx_nle (by omega) (by omega) c1
    have hcap : (m0 + (if y - m0 < m0 + 2 then m0 + 2 else y - m0)) ≤ 2 * y ∧ y ≤ (m0 + (if y - m0 < m0 + 2 then m0 + 2 else y - m0)) := by split <;> omega
    refine g_aload_n C0 dJ5_ensureCapacityInternal_d00df_17 rfl 1 rfl ?_
    refine g_aload_n C0 dJ5_ensureCapacityInternal_d00df_18 rfl 1 rfl ?_
    refine g_get C0 hinJ4 0 rfl rfl 0 (by decide) q_931 rfl dJ5_ensureCapacityInternal_d00df_19 ?_
    refine g_aload_n C0 dJ5_ensureCapacityInternal_d00df_22 rfl 1 rfl ?_
    refine g_iload_n C0 dJ5_ensureCapacityInternal_d00df_23 rfl 2 rfl ?_
    refine g_xVi (X := [(b, .inr (1, [.ref v, .int 0, .int ml, .int (Int32.ofNat n)])), (v, .inl (cB, m0, .inl g))]) (pl := []) (wr := []) (As := [.int (Int32.ofNat y)]) (st := [.ref v, .ref b]) (b := b) C0 jE_ok (xe_of C0 jE_ok E0) (xr_w C0 0 rfl rfl) (mJ5_newCapacity_0f7a4 l D cB cC cI cO b v ml n m0 y g hym hy) hmJ5_newCapacity_0f7a4 q_959 ⟨Nat.le_of_ble_eq_true rfl, Nat.le_of_ble_eq_true rfl⟩ rfl rfl ⟨Nat.zero_le _, Nat.zero_le _⟩ rfl [0, 1] [] rfl rfl rfl rfl (by decide) rfl rfl (Nat.le_of_ble_eq_true rfl) dJ5_ensureCapacityInternal_d00df_24 (fun _ => ?_)
    refine g_eq (ws' := [(b, .inr (1, [.ref v, .int 0, .int ml, .int (Int32.ofNat n)])), (v, .inl (cB, m0, .inl g))]) rfl rfl rfl ?_
    refine g_aload_n C0 dJ5_ensureCapacityInternal_d00df_27 rfl 1 rfl ?_
    refine g_get C0 hinJ4 0 rfl rfl 1 (by decide) q_932 rfl dJ5_ensureCapacityInternal_d00df_28 ?_
    refine g_ishl C0 dJ5_ensureCapacityInternal_d00df_31 ?_
    rw [sh_l]
    refine g_xSr (X := [(b, .inr (1, [.ref v, .int 0, .int ml, .int (Int32.ofNat n)])), (v, .inl (cB, m0, .inl g))]) (pl := []) (wr := [(b, .inr (1, [.ref v, .int 0, .int ml, .int (Int32.ofNat n)]))]) (As := [.ref v, .int (Int32.ofNat (m0 + (if y - m0 < m0 + 2 then m0 + 2 else y - m0)))]) (st := [.ref b]) C0 jE_ok (xe_of C0 jE_ok E0) (mJ7_copyOf_9075b l D cB cC cI cO v m0 (m0 + (if y - m0 < m0 + 2 then m0 + 2 else y - m0)) g (by omega) (by omega) hg) hmJ7_copyOf_9075b q_972 ⟨Nat.le_of_ble_eq_true rfl, Nat.le_of_ble_eq_true rfl⟩ rfl rfl ⟨Nat.le_of_ble_eq_true rfl, show 0 + 0 + (m0 + (if y - m0 < m0 + 2 then m0 + 2 else y - m0)) ≤ 2 * y by omega⟩ rfl [1] [0] rfl rfl rfl rfl (by decide) rfl rfl (Nat.le_of_ble_eq_true rfl) dJ5_ensureCapacityInternal_d00df_32 (fun w => ?_)
    refine g_eq (ws' := [(b, .inr (1, [.ref v, .int 0, .int ml, .int (Int32.ofNat n)])), (v, .inl (cB, m0, .inl g)), (w, .inl (cB, (m0 + (if y - m0 < m0 + 2 then m0 + 2 else y - m0)), .inl (va_cpy g (fun _ => 0) 0 0 m0)))]) rfl rfl rfl ?_
    refine g_put C0 (ws' := [(b, .inr (1, [.ref w, .int 0, .int ml, .int (Int32.ofNat n)])), (v, .inl (cB, m0, .inl g)), (w, .inl (cB, (m0 + (if y - m0 < m0 + 2 then m0 + 2 else y - m0)), .inl (va_cpy g (fun _ => 0) 0 0 m0)))]) hinJ4 0 rfl rfl 0 (by decide) q_931 tyJ4_ok nmJ4 rfl rfl rfl (Nat.le_of_ble_eq_true rfl) rfl dJ5_ensureCapacityInternal_d00df_35 ?_
    refine g_ord (ws' := [(b, .inr (1, [.ref w, .int 0, .int ml, .int (Int32.ofNat n)])), (w, .inl (cB, (m0 + (if y - m0 < m0 + 2 then m0 + 2 else y - m0)), .inl (va_cpy g (fun _ => 0) 0 0 m0)))]) [0, 2] rfl rfl ?_
    refine g_widen (kk1 := 1) (nn1 := 2 * y) (by omega) (by omega) ?_
    exact g_nret C0 dJ5_ensureCapacityInternal_d00df_38 ⟨(w, (m0 + (if y - m0 < m0 + 2 then m0 + 2 else y - m0)), va_cpy g (fun _ => 0) 0 0 m0), hcap.2, Or.inr hcap.1, sb_fitC hg sb_fit0, fun j hj => show va_cpy g (fun _ => 0) 0 0 m0 j = g j from sb_cpy0 hj⟩ rfl
theorem mJ5_ensureCapacityInternal_d00df (l : Launch) (D : va_G) (cB cC cI cO : ClassId) (b v : Nat) (ml : Int32) (n : Nat) (m0 y : Nat) (g : Nat → Int32) (hm : m0 < 30000) (hy : y < 30000) (hg : sb_Fit g) : ∀ sz, Met l yJ5_ensureCapacityInternal_d00df (ws_ yJ5_ensureCapacityInternal_d00df cJ5_ensureCapacityInternal_d00df 3 none) (rmJ5_ensureCapacityInternal_d00df y) (va_Pc [.ref b, .int (Int32.ofNat y)] (hPreE jE D (hTy cB cC cI cO) (sbW cB b ml n (v, m0, g)) sz)) (hQn D (fun u : {u : Nat × Nat × (Nat → Int32) // y ≤ u.2.1 ∧ (u.2.1 = m0 ∨ u.2.1 ≤ 2 * y) ∧ sb_Fit u.2.2 ∧ ∀ j, j < m0 → u.2.2 j = g j} => sbW cB b ml n u.1) (va_A (sbW cB b ml n (v, m0, g)) sz)) 1 ((2 * y)) (va_A (sbW cB b ml n (v, m0, g)) sz) :=
  g_metE (Qf := fun A => hQn D (fun u : {u : Nat × Nat × (Nat → Int32) // y ≤ u.2.1 ∧ (u.2.1 = m0 ∨ u.2.1 ≤ 2 * y) ∧ sb_Fit u.2.2 ∧ ∀ j, j < m0 → u.2.2 j = g j} => sbW cB b ml n u.1) A) (by decide +kernel) (Nat.le_of_ble_eq_true rfl) rfl (fun C0 E0 => bJ5_ensureCapacityInternal_d00df C0 b v ml n m0 y g E0 hm hy hg)
/-! java/lang/AbstractStringBuilder.inflateIfNeededFor(Ljava/lang/String;)V -/
abbrev rmJ5_inflateIfNeededFor_a7421 : Room := { frames := 1, cells := 0, slots := 0, locals := 60 }
theorem hmJ5_inflateIfNeededFor_a7421 : hMC RJ4 yJ5_inflateIfNeededFor_a7421 cJ5_inflateIfNeededFor_a7421 2 none 1 := ⟨q_1012, q_30, q_1011, (hAll_pv (by decide +kernel)), by decide, by decide, by decide +kernel⟩
theorem dJ5_inflateIfNeededFor_a7421_0 : decode cJ5_inflateIfNeededFor_a7421 0 = .ok (.getstatic 18, 3) := by decide +kernel
theorem dJ5_inflateIfNeededFor_a7421_3 : decode cJ5_inflateIfNeededFor_a7421 3 = .ok (.ifCond .eq 18, 3) := by decide +kernel
theorem dJ5_inflateIfNeededFor_a7421_6 : decode cJ5_inflateIfNeededFor_a7421 6 = .ok (.aload_n 0, 1) := by decide +kernel
theorem dJ5_inflateIfNeededFor_a7421_7 : decode cJ5_inflateIfNeededFor_a7421 7 = .ok (.getfield 22, 3) := by decide +kernel
theorem dJ5_inflateIfNeededFor_a7421_10 : decode cJ5_inflateIfNeededFor_a7421 10 = .ok (.aload_n 1, 1) := by decide +kernel
theorem dJ5_inflateIfNeededFor_a7421_11 : decode cJ5_inflateIfNeededFor_a7421 11 = .ok (.invokevirtual 40, 3) := by decide +kernel
theorem dJ5_inflateIfNeededFor_a7421_14 : decode cJ5_inflateIfNeededFor_a7421 14 = .ok (.if_icmp .eq 7, 3) := by decide +kernel
theorem dJ5_inflateIfNeededFor_a7421_17 : decode cJ5_inflateIfNeededFor_a7421 17 = .ok (.aload_n 0, 1) := by decide +kernel
theorem dJ5_inflateIfNeededFor_a7421_18 : decode cJ5_inflateIfNeededFor_a7421 18 = .ok (.invokevirtual 195, 3) := by decide +kernel
theorem dJ5_inflateIfNeededFor_a7421_21 : decode cJ5_inflateIfNeededFor_a7421 21 = .ok (.return_, 1) := by decide +kernel
set_option maxHeartbeats 4000000 in
set_option maxRecDepth 100000 in
theorem bJ5_inflateIfNeededFor_a7421 {p : Program} {l : Launch} {e : Env} {s : State} {m : MethodId} {args : Array Value} {below : List Frame} {meth : Method} {c : Code} {D : va_G} {cB cC cI cO : ClassId} {A : Nat → Prop} (C0 : gC RJ5 cJ5_inflateIfNeededFor_a7421 2 none p s m args meth c D (hTy cB cC cI cO) A) (a w k : Nat) (f : Nat → Int32) (b v : Nat) (ml : Int32) (n : Nat) (E0 : (jT a w k f) A s)  : gG p l e rmJ5_inflateIfNeededFor_a7421 s m args below meth c D A 2 (MQ below (hQn D (fun _ : Unit => [(b, .inr (1, [.ref v, .int 0, .int ml, .int (Int32.ofNat n)]))]) A) args s 0 0 A) 0 0 0 [(0, .ref b), (1, .ref a)] [] [(b, .inr (1, [.ref v, .int 0, .int ml, .int (Int32.ofNat n)]))] := by
  refine g_getS C0 E0.1.1 q_923 dJ5_inflateIfNeededFor_a7421_0 ?_
  refine g_if_eq C0 (tgt := 21) dJ5_inflateIfNeededFor_a7421_3 (by decide) (fun c1 => absurd c1 (by decide)) (fun c1 => ?_)
  refine g_aload_n C0 dJ5_inflateIfNeededFor_a7421_6 rfl 0 rfl ?_
  refine g_get C0 hinJ4 0 rfl rfl 1 (by decide) q_932 rfl dJ5_inflateIfNeededFor_a7421_7 ?_
  refine g_aload_n C0 dJ5_inflateIfNeededFor_a7421_10 rfl 1 rfl ?_
  refine g_xVi (X := [(b, .inr (1, [.ref v, .int 0, .int ml, .int (Int32.ofNat n)]))]) (pl := []) (wr := [(b, .inr (1, [.ref v, .int 0, .int ml, .int (Int32.ofNat n)]))]) (As := []) (st := [.int 0]) (b := a) C0 (jT_ok a w k f) (xe_of C0 (jT_ok a w k f) E0) (fun _ _ _ hS => tx_recv E0.2 hS) (mJ0_coder_7d493 l D cB cC cI cO a w k f) hmJ0_coder_7d493 q_1013 ⟨Nat.le_of_ble_eq_true rfl, Nat.le_of_ble_eq_true rfl⟩ rfl rfl ⟨Nat.zero_le _, Nat.zero_le _⟩ rfl [] [0] rfl rfl rfl rfl (by decide) rfl rfl (Nat.le_of_ble_eq_true rfl) dJ5_inflateIfNeededFor_a7421_11 (fun _ => ?_)
  refine g_icmp_eq C0 (tgt := 21) dJ5_inflateIfNeededFor_a7421_14 (by decide) (fun c1 => ?_) (fun c1 => absurd rfl c1)
  exact g_nret C0 dJ5_inflateIfNeededFor_a7421_21 () rfl
theorem mJ5_inflateIfNeededFor_a7421 (l : Launch) (D : va_G) (cB cC cI cO : ClassId) (a w k : Nat) (f : Nat → Int32) (b v : Nat) (ml : Int32) (n : Nat)  : ∀ sz, Met l yJ5_inflateIfNeededFor_a7421 (ws_ yJ5_inflateIfNeededFor_a7421 cJ5_inflateIfNeededFor_a7421 2 none) rmJ5_inflateIfNeededFor_a7421 (va_Pc [.ref b, .ref a] (hPreE (jT a w k f) D (hTy cB cC cI cO) [(b, .inr (1, [.ref v, .int 0, .int ml, .int (Int32.ofNat n)]))] sz)) (hQn D (fun _ : Unit => [(b, .inr (1, [.ref v, .int 0, .int ml, .int (Int32.ofNat n)]))]) (va_A [(b, .inr (1, [.ref v, .int 0, .int ml, .int (Int32.ofNat n)]))] sz)) 0 0 (va_A [(b, .inr (1, [.ref v, .int 0, .int ml, .int (Int32.ofNat n)]))] sz) :=
  g_metE (Qf := fun A => hQn D (fun _ : Unit => [(b, .inr (1, [.ref v, .int 0, .int ml, .int (Int32.ofNat n)]))]) A) (by decide +kernel) (Nat.le_of_ble_eq_true rfl) rfl (fun C0 E0 => bJ5_inflateIfNeededFor_a7421 C0 a w k f b v ml n E0 )
/-! java/lang/AbstractStringBuilder.putStringAt(ILjava/lang/String;)V -/
abbrev rmJ5_putStringAt_47b60 : Room := { frames := 2, cells := 0, slots := 0, locals := 240 }
theorem hmJ5_putStringAt_47b60 : hMC RJ4 yJ5_putStringAt_47b60 cJ5_putStringAt_47b60 3 none 2 := ⟨q_1008, q_30, q_1007, (hAll_pv (by decide +kernel)), by decide, by decide, by decide +kernel⟩
theorem dJ5_putStringAt_47b60_0 : decode cJ5_putStringAt_47b60 0 = .ok (.aload_n 0, 1) := by decide +kernel
theorem dJ5_putStringAt_47b60_1 : decode cJ5_putStringAt_47b60 1 = .ok (.aload_n 2, 1) := by decide +kernel
theorem dJ5_putStringAt_47b60_2 : decode cJ5_putStringAt_47b60 2 = .ok (.invokevirtual 397, 3) := by decide +kernel
theorem dJ5_putStringAt_47b60_5 : decode cJ5_putStringAt_47b60 5 = .ok (.aload_n 2, 1) := by decide +kernel
theorem dJ5_putStringAt_47b60_6 : decode cJ5_putStringAt_47b60 6 = .ok (.aload_n 0, 1) := by decide +kernel
theorem dJ5_putStringAt_47b60_7 : decode cJ5_putStringAt_47b60 7 = .ok (.getfield 15, 3) := by decide +kernel
theorem dJ5_putStringAt_47b60_10 : decode cJ5_putStringAt_47b60 10 = .ok (.iload_n 1, 1) := by decide +kernel
theorem dJ5_putStringAt_47b60_11 : decode cJ5_putStringAt_47b60 11 = .ok (.aload_n 0, 1) := by decide +kernel
theorem dJ5_putStringAt_47b60_12 : decode cJ5_putStringAt_47b60 12 = .ok (.getfield 22, 3) := by decide +kernel
theorem dJ5_putStringAt_47b60_15 : decode cJ5_putStringAt_47b60 15 = .ok (.invokevirtual 399, 3) := by decide +kernel
theorem dJ5_putStringAt_47b60_18 : decode cJ5_putStringAt_47b60 18 = .ok (.return_, 1) := by decide +kernel
set_option maxHeartbeats 4000000 in
set_option maxRecDepth 100000 in
theorem bJ5_putStringAt_47b60 {p : Program} {l : Launch} {e : Env} {s : State} {m : MethodId} {args : Array Value} {below : List Frame} {meth : Method} {c : Code} {D : va_G} {cB cC cI cO : ClassId} {A : Nat → Prop} (C0 : gC RJ5 cJ5_putStringAt_47b60 3 none p s m args meth c D (hTy cB cC cI cO) A) (a w k : Nat) (f : Nat → Int32) (b v : Nat) (ml : Int32) (n : Nat) (m0 i : Nat) (g : Nat → Int32) (E0 : (jT a w k f) A s) (hm0 : m0 < 2147483648) (ha : asc k f) (hi : i + k ≤ m0) : gG p l e rmJ5_putStringAt_47b60 s m args below meth c D A 3 (MQ below (hQn D (fun _ : Unit => [(b, .inr (1, [.ref v, .int 0, .int ml, .int (Int32.ofNat n)])), (v, .inl (cB, m0, .inl (va_cpy f g 0 i k)))]) A) args s 0 0 A) 0 0 0 [(0, .ref b), (1, .int (Int32.ofNat i)), (2, .ref a)] [] [(b, .inr (1, [.ref v, .int 0, .int ml, .int (Int32.ofNat n)])), (v, .inl (cB, m0, .inl g))] := by
  refine g_aload_n C0 dJ5_putStringAt_47b60_0 rfl 0 rfl ?_
  refine g_aload_n C0 dJ5_putStringAt_47b60_1 rfl 2 rfl ?_
  refine g_xVv (X := [(b, .inr (1, [.ref v, .int 0, .int ml, .int (Int32.ofNat n)])), (v, .inl (cB, m0, .inl g))]) (pl := []) (wr := [(v, .inl (cB, m0, .inl g))]) (As := [.ref a]) (st := []) (b := b) C0 (jT_ok a w k f) (xe_of C0 (jT_ok a w k f) E0) (xr_w C0 0 rfl rfl) (mJ5_inflateIfNeededFor_a7421 l D cB cC cI cO a w k f b v ml n) hmJ5_inflateIfNeededFor_a7421 q_1009 ⟨Nat.le_of_ble_eq_true rfl, Nat.le_of_ble_eq_true rfl⟩ rfl rfl ⟨Nat.zero_le _, Nat.zero_le _⟩ rfl [0] [1] rfl rfl rfl rfl (by decide) rfl rfl (Nat.le_of_ble_eq_true rfl) dJ5_putStringAt_47b60_2 (fun _ => ?_)
  refine g_ord (ws' := [(b, .inr (1, [.ref v, .int 0, .int ml, .int (Int32.ofNat n)])), (v, .inl (cB, m0, .inl g))]) [1, 0] rfl rfl ?_
  refine g_aload_n C0 dJ5_putStringAt_47b60_5 rfl 2 rfl ?_
  refine g_aload_n C0 dJ5_putStringAt_47b60_6 rfl 0 rfl ?_
  refine g_get C0 hinJ4 0 rfl rfl 0 (by decide) q_931 rfl dJ5_putStringAt_47b60_7 ?_
  refine g_iload_n C0 dJ5_putStringAt_47b60_10 rfl 1 rfl ?_
  refine g_aload_n C0 dJ5_putStringAt_47b60_11 rfl 0 rfl ?_
  refine g_get C0 hinJ4 0 rfl rfl 1 (by decide) q_932 rfl dJ5_putStringAt_47b60_12 ?_
  refine g_xVv (X := [(b, .inr (1, [.ref v, .int 0, .int ml, .int (Int32.ofNat n)])), (v, .inl (cB, m0, .inl g))]) (pl := []) (wr := [(b, .inr (1, [.ref v, .int 0, .int ml, .int (Int32.ofNat n)]))]) (As := [.ref v, .int (Int32.ofNat i), .int 0]) (st := []) (b := a) C0 (jT_ok a w k f) (xe_of C0 (jT_ok a w k f) E0) (fun _ _ _ hS => tx_recv E0.2 hS) (mJ0_getBytes_840e7 l D cB cC cI cO a w k f v m0 i g hm0 ha hi) hmJ0_getBytes_840e7 q_1033 ⟨Nat.le_of_ble_eq_true rfl, Nat.le_of_ble_eq_true rfl⟩ rfl rfl ⟨Nat.zero_le _, Nat.zero_le _⟩ rfl [1] [0] rfl rfl rfl rfl (by decide) rfl rfl (Nat.le_of_ble_eq_true rfl) dJ5_putStringAt_47b60_15 (fun _ => ?_)
  refine g_eq (ws' := [(b, .inr (1, [.ref v, .int 0, .int ml, .int (Int32.ofNat n)])), (v, .inl (cB, m0, .inl (va_cpy f g 0 i k)))]) rfl rfl rfl ?_
  exact g_nret C0 dJ5_putStringAt_47b60_18 () rfl
theorem mJ5_putStringAt_47b60 (l : Launch) (D : va_G) (cB cC cI cO : ClassId) (a w k : Nat) (f : Nat → Int32) (b v : Nat) (ml : Int32) (n : Nat) (m0 i : Nat) (g : Nat → Int32) (hm0 : m0 < 2147483648) (ha : asc k f) (hi : i + k ≤ m0) : ∀ sz, Met l yJ5_putStringAt_47b60 (ws_ yJ5_putStringAt_47b60 cJ5_putStringAt_47b60 3 none) rmJ5_putStringAt_47b60 (va_Pc [.ref b, .int (Int32.ofNat i), .ref a] (hPreE (jT a w k f) D (hTy cB cC cI cO) [(b, .inr (1, [.ref v, .int 0, .int ml, .int (Int32.ofNat n)])), (v, .inl (cB, m0, .inl g))] sz)) (hQn D (fun _ : Unit => [(b, .inr (1, [.ref v, .int 0, .int ml, .int (Int32.ofNat n)])), (v, .inl (cB, m0, .inl (va_cpy f g 0 i k)))]) (va_A [(b, .inr (1, [.ref v, .int 0, .int ml, .int (Int32.ofNat n)])), (v, .inl (cB, m0, .inl g))] sz)) 0 0 (va_A [(b, .inr (1, [.ref v, .int 0, .int ml, .int (Int32.ofNat n)])), (v, .inl (cB, m0, .inl g))] sz) :=
  g_metE (Qf := fun A => hQn D (fun _ : Unit => [(b, .inr (1, [.ref v, .int 0, .int ml, .int (Int32.ofNat n)])), (v, .inl (cB, m0, .inl (va_cpy f g 0 i k)))]) A) (by decide +kernel) (Nat.le_of_ble_eq_true rfl) rfl (fun C0 E0 => bJ5_putStringAt_47b60 C0 a w k f b v ml n m0 i g E0 hm0 ha hi)
theorem tx_app {n k m0 w : Nat} {f g t : Nat → Int32} (h1 : n + k ≤ m0) (h2 : m0 ≤ 16 + 2 * (n + k)) (h3 : sb_Fit g) (h4 : ∀ j, j < n → g j = t j) (ha : asc k f) : sbP (n + k) (tcat n t f) (w, m0, va_cpy f g 0 n k) := by
  refine ⟨h1, h2, fun j => ?_, fun j hj => ?_⟩
  · by_cases e : n ≤ j ∧ j < n + k
    · show fits .byte (.int (va_cpy f g 0 n k j)) = true
      rw [pk_cpy_in e.1 e.2]
      obtain ⟨z, hz, hzf⟩ := ha (0 + (j - n)) (by omega)
      rw [hzf]
      exact (asc_one z hz).2.2.1
    · show fits .byte (.int (va_cpy f g 0 n k j)) = true
      rw [pk_cpy_out (by omega)]
      exact h3 j
  · show va_cpy f g 0 n k j = _
    by_cases e : j < n
    · rw [tcat_lo e, pk_cpy_out (by omega), h4 j e]
    · obtain ⟨i, rfl⟩ : ∃ i, j = n + i := ⟨j - n, by omega⟩
      rw [tcat_hi, pk_cpy_in (by omega) (by omega), Nat.add_sub_cancel_left, Nat.zero_add]
/-! java/lang/AbstractStringBuilder.append(Ljava/lang/String;)Ljava/lang/AbstractStringBuilder; -/
abbrev rmJ5_append_cf1ce (n k : Nat) : Room := { frames := 4, cells := 1, slots := (2 * (n + k)), locals := 300 }
theorem hmJ5_append_cf1ce : hMU RJ4 yJ5_append_cf1ce cJ5_append_cf1ce 3 (some (.object "java/lang/AbstractStringBuilder")) 1 := ⟨q_950, q_30, q_949, q_1131, q_943, by decide, by decide +kernel⟩
theorem dJ5_append_cf1ce_0 : decode cJ5_append_cf1ce 0 = .ok (.aload_n 1, 1) := by decide +kernel
theorem dJ5_append_cf1ce_1 : decode cJ5_append_cf1ce 1 = .ok (.ifnonnull 8, 3) := by decide +kernel
theorem dJ5_append_cf1ce_4 : decode cJ5_append_cf1ce 4 = .ok (.aload_n 0, 1) := by decide +kernel
theorem dJ5_append_cf1ce_5 : decode cJ5_append_cf1ce 5 = .ok (.invokevirtual 204, 3) := by decide +kernel
theorem dJ5_append_cf1ce_8 : decode cJ5_append_cf1ce 8 = .ok (.areturn, 1) := by decide +kernel
theorem dJ5_append_cf1ce_9 : decode cJ5_append_cf1ce 9 = .ok (.aload_n 1, 1) := by decide +kernel
theorem dJ5_append_cf1ce_10 : decode cJ5_append_cf1ce 10 = .ok (.invokevirtual 32, 3) := by decide +kernel
theorem dJ5_append_cf1ce_13 : decode cJ5_append_cf1ce 13 = .ok (.istore_n 2, 1) := by decide +kernel
theorem dJ5_append_cf1ce_14 : decode cJ5_append_cf1ce 14 = .ok (.aload_n 0, 1) := by decide +kernel
theorem dJ5_append_cf1ce_15 : decode cJ5_append_cf1ce 15 = .ok (.aload_n 0, 1) := by decide +kernel
theorem dJ5_append_cf1ce_16 : decode cJ5_append_cf1ce 16 = .ok (.getfield 79, 3) := by decide +kernel
theorem dJ5_append_cf1ce_19 : decode cJ5_append_cf1ce 19 = .ok (.iload_n 2, 1) := by decide +kernel
theorem dJ5_append_cf1ce_20 : decode cJ5_append_cf1ce 20 = .ok (.iadd, 1) := by decide +kernel
theorem dJ5_append_cf1ce_21 : decode cJ5_append_cf1ce 21 = .ok (.invokevirtual 100, 3) := by decide +kernel
theorem dJ5_append_cf1ce_24 : decode cJ5_append_cf1ce 24 = .ok (.aload_n 0, 1) := by decide +kernel
theorem dJ5_append_cf1ce_25 : decode cJ5_append_cf1ce 25 = .ok (.aload_n 0, 1) := by decide +kernel
theorem dJ5_append_cf1ce_26 : decode cJ5_append_cf1ce 26 = .ok (.getfield 79, 3) := by decide +kernel
theorem dJ5_append_cf1ce_29 : decode cJ5_append_cf1ce 29 = .ok (.aload_n 1, 1) := by decide +kernel
theorem dJ5_append_cf1ce_30 : decode cJ5_append_cf1ce 30 = .ok (.invokevirtual 208, 3) := by decide +kernel
theorem dJ5_append_cf1ce_33 : decode cJ5_append_cf1ce 33 = .ok (.aload_n 0, 1) := by decide +kernel
theorem dJ5_append_cf1ce_34 : decode cJ5_append_cf1ce 34 = .ok (.dup, 1) := by decide +kernel
theorem dJ5_append_cf1ce_35 : decode cJ5_append_cf1ce 35 = .ok (.getfield 79, 3) := by decide +kernel
theorem dJ5_append_cf1ce_38 : decode cJ5_append_cf1ce 38 = .ok (.iload_n 2, 1) := by decide +kernel
theorem dJ5_append_cf1ce_39 : decode cJ5_append_cf1ce 39 = .ok (.iadd, 1) := by decide +kernel
theorem dJ5_append_cf1ce_40 : decode cJ5_append_cf1ce 40 = .ok (.putfield 79, 3) := by decide +kernel
theorem dJ5_append_cf1ce_43 : decode cJ5_append_cf1ce 43 = .ok (.aload_n 0, 1) := by decide +kernel
theorem dJ5_append_cf1ce_44 : decode cJ5_append_cf1ce 44 = .ok (.areturn, 1) := by decide +kernel
set_option maxHeartbeats 4000000 in
set_option maxRecDepth 100000 in
theorem bJ5_append_cf1ce {p : Program} {l : Launch} {e : Env} {s : State} {m : MethodId} {args : Array Value} {below : List Frame} {meth : Method} {c : Code} {D : va_G} {cB cC cI cO : ClassId} {A : Nat → Prop} (C0 : gC RJ5 cJ5_append_cf1ce 3 (some (.object "java/lang/AbstractStringBuilder")) p s m args meth c D (hTy cB cC cI cO) A) (a w k : Nat) (f : Nat → Int32) (b v : Nat) (ml : Int32) (n : Nat) (m0 : Nat) (g t : Nat → Int32) (E0 : (jT a w k f) A s) (hk : k ≤ 700) (hn : n ≤ 700) (ha : asc k f) (hb : sbP n t (v, m0, g)) : gG p l e (rmJ5_append_cf1ce n k) s m args below meth c D A 3 (MQ below (hQnr D (fun _ => b) (fun u : {u : Nat × Nat × (Nat → Int32) // sbP (n + k) (tcat n t f) u} => sbW cB b ml (n + k) u.1) A) args s 1 ((2 * (n + k))) A) 0 0 0 [(0, .ref b), (1, .ref a)] [] (sbW cB b ml n (v, m0, g)) := by
  obtain ⟨hb1, hb2, hb3, hb4⟩ := hb
  have hb5 : m0 ≤ 16 + 2 * n := hb2
  have hb6 : n ≤ m0 := hb1
  refine g_eq (ws' := [(b, .inr (1, [.ref v, .int 0, .int ml, .int (Int32.ofNat n)])), (v, .inl (cB, m0, .inl g))]) rfl rfl rfl ?_
  refine g_aload_n C0 dJ5_append_cf1ce_0 rfl 1 rfl ?_
  refine g_ifnonnull C0 (tgt := 9) dJ5_append_cf1ce_1 (by decide) ?_
  refine g_aload_n C0 dJ5_append_cf1ce_9 rfl 1 rfl ?_
  refine g_xVi (X := [(b, .inr (1, [.ref v, .int 0, .int ml, .int (Int32.ofNat n)])), (v, .inl (cB, m0, .inl g))]) (pl := []) (wr := [(b, .inr (1, [.ref v, .int 0, .int ml, .int (Int32.ofNat n)])), (v, .inl (cB, m0, .inl g))]) (As := []) (st := []) (b := a) C0 (jT_ok a w k f) (xe_of C0 (jT_ok a w k f) E0) (fun _ _ _ hS => tx_recv E0.2 hS) (mJ0_length_8abf5 l D cB cC cI cO a w k f) hmJ0_length_8abf5 q_1004 ⟨Nat.le_of_ble_eq_true rfl, Nat.le_of_ble_eq_true rfl⟩ rfl rfl ⟨Nat.zero_le _, Nat.zero_le _⟩ rfl [] [0, 1] rfl rfl rfl rfl (by decide) rfl rfl (Nat.le_of_ble_eq_true rfl) dJ5_append_cf1ce_10 (fun _ => ?_)
  refine g_eq (ws' := [(b, .inr (1, [.ref v, .int 0, .int ml, .int (Int32.ofNat n)])), (v, .inl (cB, m0, .inl g))]) rfl rfl rfl ?_
  refine g_istore_n C0 (lv' := [(2, .int (Int32.ofNat k)), (0, .ref b), (1, .ref a)]) dJ5_append_cf1ce_13 rfl (by decide) rfl ?_
  refine g_aload_n C0 dJ5_append_cf1ce_14 rfl 1 rfl ?_
  refine g_aload_n C0 dJ5_append_cf1ce_15 rfl 1 rfl ?_
  refine g_get C0 hinJ4 0 rfl rfl 3 (by decide) q_934 rfl dJ5_append_cf1ce_16 ?_
  refine g_iload_n C0 dJ5_append_cf1ce_19 rfl 0 rfl ?_
  refine g_iadd C0 dJ5_append_cf1ce_20 ?_
  rw [n_add]
  refine g_xVv (X := [(b, .inr (1, [.ref v, .int 0, .int ml, .int (Int32.ofNat n)])), (v, .inl (cB, m0, .inl g))]) (pl := []) (wr := []) (As := [.int (Int32.ofNat (n + k))]) (st := []) (b := b) C0 jE_ok (xe_of C0 jE_ok E0.1) (xr_w C0 0 rfl rfl) (mJ5_ensureCapacityInternal_d00df l D cB cC cI cO b v ml n m0 (n + k) g (by omega) (by omega) hb3) hmJ5_ensureCapacityInternal_d00df q_955 ⟨Nat.le_of_ble_eq_true rfl, Nat.le_of_ble_eq_true rfl⟩ rfl rfl ⟨Nat.le_of_ble_eq_true rfl, show 0 + 0 + 2 * (n + k) ≤ 2 * (n + k) by omega⟩ rfl [0, 1] [] rfl rfl rfl rfl (by decide) rfl rfl (Nat.le_of_ble_eq_true rfl) dJ5_append_cf1ce_21 (fun u => ?_)
  obtain ⟨hu1, hu2, hu3, hu4⟩ := u.2
  have hu5 : u.1.2.1 ≤ 16 + 2 * (n + k) := by rcases hu2 with h | h <;> omega
  refine g_eq (ws' := [(b, .inr (1, [.ref u.1.1, .int 0, .int ml, .int (Int32.ofNat n)])), (u.1.1, .inl (cB, u.1.2.1, .inl u.1.2.2))]) rfl rfl rfl ?_
  refine g_aload_n C0 dJ5_append_cf1ce_24 rfl 1 rfl ?_
  refine g_aload_n C0 dJ5_append_cf1ce_25 rfl 1 rfl ?_
  refine g_get C0 hinJ4 0 rfl rfl 3 (by decide) q_934 rfl dJ5_append_cf1ce_26 ?_
  refine g_aload_n C0 dJ5_append_cf1ce_29 rfl 2 rfl ?_
  refine g_xVv (X := [(b, .inr (1, [.ref u.1.1, .int 0, .int ml, .int (Int32.ofNat n)])), (u.1.1, .inl (cB, u.1.2.1, .inl u.1.2.2))]) (pl := []) (wr := []) (As := [.int (Int32.ofNat n), .ref a]) (st := []) (b := b) C0 (jT_ok a w k f) (xe_of C0 (jT_ok a w k f) E0) (xr_w C0 0 rfl rfl) (mJ5_putStringAt_47b60 l D cB cC cI cO a w k f b u.1.1 ml n u.1.2.1 n u.1.2.2 (by omega) ha hu1) hmJ5_putStringAt_47b60 q_1005 ⟨Nat.le_of_ble_eq_true rfl, Nat.le_of_ble_eq_true rfl⟩ rfl rfl ⟨Nat.le_of_ble_eq_true rfl, show 0 + 0 + 2 * (n + k) + 0 ≤ 2 * (n + k) by omega⟩ rfl [0, 1] [] rfl rfl rfl rfl (by decide) rfl rfl (Nat.le_of_ble_eq_true rfl) dJ5_append_cf1ce_30 (fun _ => ?_)
  refine g_eq (ws' := [(b, .inr (1, [.ref u.1.1, .int 0, .int ml, .int (Int32.ofNat n)])), (u.1.1, .inl (cB, u.1.2.1, .inl (va_cpy f u.1.2.2 0 n k)))]) rfl rfl rfl ?_
  refine g_aload_n C0 dJ5_append_cf1ce_33 rfl 1 rfl ?_
  refine g_dup C0 dJ5_append_cf1ce_34 rfl ?_
  refine g_get C0 hinJ4 0 rfl rfl 3 (by decide) q_934 rfl dJ5_append_cf1ce_35 ?_
  refine g_iload_n C0 dJ5_append_cf1ce_38 rfl 0 rfl ?_
  refine g_iadd C0 dJ5_append_cf1ce_39 ?_
  rw [n_add]
  refine g_put C0 (ws' := [(b, .inr (1, [.ref u.1.1, .int 0, .int ml, .int (Int32.ofNat (n + k))])), (u.1.1, .inl (cB, u.1.2.1, .inl (va_cpy f u.1.2.2 0 n k)))]) hinJ4 0 rfl rfl 3 (by decide) q_934 tyJ4_ok nmJ4 rfl rfl rfl (Nat.le_of_ble_eq_true rfl) rfl dJ5_append_cf1ce_40 ?_
  refine g_aload_n C0 dJ5_append_cf1ce_43 rfl 1 rfl ?_
  refine g_widen (kk1 := 1) (nn1 := 2 * (n + k)) (by omega) (by omega) ?_
  exact g_nretr C0 (Or.inl ⟨_, rfl⟩) dJ5_append_cf1ce_44 ⟨(u.1.1, u.1.2.1, va_cpy f u.1.2.2 0 n k), tx_app hu1 hu5 hu3 (fun j hj => (hu4 j (by omega)).trans (hb4 j hj)) ha⟩ rfl rfl
theorem mJ5_append_cf1ce (l : Launch) (D : va_G) (cB cC cI cO : ClassId) (a w k : Nat) (f : Nat → Int32) (b v : Nat) (ml : Int32) (n : Nat) (m0 : Nat) (g t : Nat → Int32) (hk : k ≤ 700) (hn : n ≤ 700) (ha : asc k f) (hb : sbP n t (v, m0, g)) : ∀ sz, Met l yJ5_append_cf1ce (ws_ yJ5_append_cf1ce cJ5_append_cf1ce 3 (some (.object "java/lang/AbstractStringBuilder"))) (rmJ5_append_cf1ce n k) (va_Pc [.ref b, .ref a] (hPreE (jT a w k f) D (hTy cB cC cI cO) (sbW cB b ml n (v, m0, g)) sz)) (hQnr D (fun _ => b) (fun u : {u : Nat × Nat × (Nat → Int32) // sbP (n + k) (tcat n t f) u} => sbW cB b ml (n + k) u.1) (va_A (sbW cB b ml n (v, m0, g)) sz)) 1 ((2 * (n + k))) (va_A (sbW cB b ml n (v, m0, g)) sz) :=
  g_metE (Qf := fun A => hQnr D (fun _ => b) (fun u : {u : Nat × Nat × (Nat → Int32) // sbP (n + k) (tcat n t f) u} => sbW cB b ml (n + k) u.1) A) (by decide +kernel) (Nat.le_of_ble_eq_true rfl) rfl (fun C0 E0 => bJ5_append_cf1ce C0 a w k f b v ml n m0 g t E0 hk hn ha hb)
/-! java/lang/StringBuilder.append(Ljava/lang/String;)Ljava/lang/StringBuilder; -/
abbrev rmJ4_append_15ec4 (n k : Nat) : Room := { frames := 5, cells := 1, slots := (2 * (n + k)), locals := 340 }
theorem hmJ4_append_15ec4 : hMC RJ4 yJ4_append_15ec4 cJ4_append_15ec4 2 (some (.object "java/lang/StringBuilder")) 1 := ⟨q_947, q_31, q_945, q_946, by decide, by decide, by decide +kernel⟩
theorem dJ4_append_15ec4_0 : decode cJ4_append_15ec4 0 = .ok (.aload_n 0, 1) := by decide +kernel
theorem dJ4_append_15ec4_1 : decode cJ4_append_15ec4 1 = .ok (.aload_n 1, 1) := by decide +kernel
theorem dJ4_append_15ec4_2 : decode cJ4_append_15ec4 2 = .ok (.invokespecial 29, 3) := by decide +kernel
theorem dJ4_append_15ec4_5 : decode cJ4_append_15ec4 5 = .ok (.pop, 1) := by decide +kernel
theorem dJ4_append_15ec4_6 : decode cJ4_append_15ec4 6 = .ok (.aload_n 0, 1) := by decide +kernel
theorem dJ4_append_15ec4_7 : decode cJ4_append_15ec4 7 = .ok (.areturn, 1) := by decide +kernel
set_option maxHeartbeats 4000000 in
set_option maxRecDepth 100000 in
theorem bJ4_append_15ec4 {p : Program} {l : Launch} {e : Env} {s : State} {m : MethodId} {args : Array Value} {below : List Frame} {meth : Method} {c : Code} {D : va_G} {cB cC cI cO : ClassId} {A : Nat → Prop} (C0 : gC RJ4 cJ4_append_15ec4 2 (some (.object "java/lang/StringBuilder")) p s m args meth c D (hTy cB cC cI cO) A) (a w k : Nat) (f : Nat → Int32) (b v : Nat) (ml : Int32) (n : Nat) (m0 : Nat) (g t : Nat → Int32) (E0 : (jT a w k f) A s) (hk : k ≤ 700) (hn : n ≤ 700) (ha : asc k f) (hb : sbP n t (v, m0, g)) : gG p l e (rmJ4_append_15ec4 n k) s m args below meth c D A 2 (MQ below (hQnr D (fun _ => b) (fun u : {u : Nat × Nat × (Nat → Int32) // sbP (n + k) (tcat n t f) u} => sbW cB b ml (n + k) u.1) A) args s 1 ((2 * (n + k))) A) 0 0 0 [(0, .ref b), (1, .ref a)] [] (sbW cB b ml n (v, m0, g)) := by
  refine g_eq (ws' := [(b, .inr (1, [.ref v, .int 0, .int ml, .int (Int32.ofNat n)])), (v, .inl (cB, m0, .inl g))]) rfl rfl rfl ?_
  refine g_aload_n C0 dJ4_append_15ec4_0 rfl 0 rfl ?_
  refine g_aload_n C0 dJ4_append_15ec4_1 rfl 1 rfl ?_
  refine g_xUr (X := [(b, .inr (1, [.ref v, .int 0, .int ml, .int (Int32.ofNat n)])), (v, .inl (cB, m0, .inl g))]) (pl := []) (wr := []) (As := [.ref a]) (st := []) (b := b) C0 (jT_ok a w k f) (xe_of C0 (jT_ok a w k f) E0) (xr_w C0 0 rfl rfl) (⟨_, ((gC_K C0).1 1 (RJ4, TJ4, 4) rfl).2⟩) (mJ5_append_cf1ce l D cB cC cI cO a w k f b v ml n m0 g t hk hn ha hb) hmJ5_append_cf1ce q_948 ⟨Nat.le_of_ble_eq_true rfl, Nat.le_of_ble_eq_true rfl⟩ rfl rfl ⟨Nat.le_of_ble_eq_true rfl, show 0 + (2 * (n + k)) ≤ (2 * (n + k)) by omega⟩ rfl [0, 1] [] rfl rfl rfl rfl (by decide) rfl rfl (Nat.le_of_ble_eq_true rfl) dJ4_append_15ec4_2 (fun u => ?_)
  refine g_pop C0 dJ4_append_15ec4_5 rfl ?_
  refine g_aload_n C0 dJ4_append_15ec4_6 rfl 0 rfl ?_
  refine g_widen (kk1 := 1) (nn1 := (2 * (n + k))) (by omega) (by omega) ?_
  exact g_nretr C0 (Or.inl ⟨_, rfl⟩) dJ4_append_15ec4_7 u rfl rfl
theorem mJ4_append_15ec4 (l : Launch) (D : va_G) (cB cC cI cO : ClassId) (a w k : Nat) (f : Nat → Int32) (b v : Nat) (ml : Int32) (n : Nat) (m0 : Nat) (g t : Nat → Int32) (hk : k ≤ 700) (hn : n ≤ 700) (ha : asc k f) (hb : sbP n t (v, m0, g)) : ∀ sz, Met l yJ4_append_15ec4 (ws_ yJ4_append_15ec4 cJ4_append_15ec4 2 (some (.object "java/lang/StringBuilder"))) (rmJ4_append_15ec4 n k) (va_Pc [.ref b, .ref a] (hPreE (jT a w k f) D (hTy cB cC cI cO) (sbW cB b ml n (v, m0, g)) sz)) (hQnr D (fun _ => b) (fun u : {u : Nat × Nat × (Nat → Int32) // sbP (n + k) (tcat n t f) u} => sbW cB b ml (n + k) u.1) (va_A (sbW cB b ml n (v, m0, g)) sz)) 1 ((2 * (n + k))) (va_A (sbW cB b ml n (v, m0, g)) sz) :=
  g_metE (Qf := fun A => hQnr D (fun _ => b) (fun u : {u : Nat × Nat × (Nat → Int32) // sbP (n + k) (tcat n t f) u} => sbW cB b ml (n + k) u.1) A) (by decide +kernel) (Nat.le_of_ble_eq_true rfl) rfl (fun C0 E0 => bJ4_append_15ec4 C0 a w k f b v ml n m0 g t E0 hk hn ha hb)
