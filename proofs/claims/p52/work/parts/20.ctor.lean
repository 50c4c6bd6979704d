/-! making: rows of one form for constructors -/
section GM
variable {p : Program} {l : Launch} {e : Env} {R : Room} {s : State} {m : MethodId} {args : Array Value} {below : List Frame} {meth : Method} {c : Code} {D : va_G} {tys : List (ClassId × FieldType)} {A : Nat → Prop} {own : String} {cc : ByteArray} {nL : Nat} {ret0 : Option FieldType} {Q : State → Prop} {pc : Nat} {lv lv' : List (Nat × Value)} {st : List Value} {ws ws' : va_W} {kk nn : Nat}
theorem g_newI {cI : ClassId} {n : Int32} {N : Nat} (C0 : gC own cc nL ret0 p s m args meth c D tys A) (harr : Cond.arrayClass .int ∈ hAll) (t0 : Nat) (ht : tys[t0]? = some (cI, .int)) (hn : hl_in n (N + 1) = true) (hN : n.toNatClampNeg = N) (hby : N * componentBytes .int ≤ 536870912) (hc : kk + 1 ≤ R.cells) (hs : nn + N ≤ R.slots) (hdg : decode cc pc = .ok (.newarray .int, 2)) (k : ∀ q : Nat, gG p l e R s m args below meth c D A nL Q (kk + 1) (nn + N) (pc + 2) lv (.ref q :: st) (List.append ws [(q, .inl (cI, N, .inl (fun _ => 0)))])) : gG p l e R s m args below meth c D A nL Q kk nn pc lv (.int n :: st) ws := by
  intro H locs ls hP hD hS hl
  refine va_newa (atype := .int) (ty := .int) (a0 := (N, .inl (fun _ => 0))) (gC_x C0) (gC_b C0) (gC_t C0 _ harr) rfl (gC_K C0) hP hD hS (gC_A C0) (fun cA => rfl) (fun h => hl_inP hn (Or.inl h)) hN hby hc hs hdg (fun q cA H1 hK1 hP1 hD1 hS1 => ?_)
  have h1 := (hK1.2 tys.length (cA, .int) (by simp)).2
  have h2 := ((gC_K C0).2 t0 (cI, .int) ht).2
  have e1 : cA = cI := Option.some.inj (h1.symm.trans h2)
  subst e1
  exact k q H1 locs ls hP1 hD1 hS1 hl
theorem g_newC {cC : ClassId} {n : Int32} {N : Nat} (C0 : gC own cc nL ret0 p s m args meth c D tys A) (harr : Cond.arrayClass .char ∈ hAll) (t0 : Nat) (ht : tys[t0]? = some (cC, .char)) (hn : hl_in n (N + 1) = true) (hN : n.toNatClampNeg = N) (hby : N * componentBytes .char ≤ 536870912) (hc : kk + 1 ≤ R.cells) (hs : nn + N ≤ R.slots) (hdg : decode cc pc = .ok (.newarray .char, 2)) (k : ∀ q : Nat, gG p l e R s m args below meth c D A nL Q (kk + 1) (nn + N) (pc + 2) lv (.ref q :: st) (List.append ws [(q, .inl (cC, N, .inl (fun _ => 0)))])) : gG p l e R s m args below meth c D A nL Q kk nn pc lv (.int n :: st) ws := by
  intro H locs ls hP hD hS hl
  refine va_newa (atype := .char) (ty := .char) (a0 := (N, .inl (fun _ => 0))) (gC_x C0) (gC_b C0) (gC_t C0 _ harr) rfl (gC_K C0) hP hD hS (gC_A C0) (fun cA => rfl) (fun h => hl_inP hn (Or.inl h)) hN hby hc hs hdg (fun q cA H1 hK1 hP1 hD1 hS1 => ?_)
  have h1 := (hK1.2 tys.length (cA, .char) (by simp)).2
  have h2 := ((gC_K C0).2 t0 (cC, .char) ht).2
  have e1 : cA = cC := Option.some.inj (h1.symm.trans h2)
  subst e1
  exact k q H1 locs ls hP1 hD1 hS1 hl
theorem g_new {C : String} {T : u_T} {N ci index : Nat} {fs : List Value} {ty0 : Nat → FieldType} (C0 : gC own cc nL ret0 p s m args meth c D tys A) (hin : ∀ w ∈ u_ws C T N, w ∈ hAll) (hty : ∀ k, k < N → parseFieldDescriptor (T k).2.2.1 = some (ty0 k)) (hcl : Cond.classLink own index C ∈ hAll) (hinst : Cond.instantiable C N ∈ hAll) (hini : Cond.initialized C ∈ hAll) (hc : vwCl[ci]? = some (C, T, N)) (hfs : ∀ j, j < N → defaultValue (ty0 j) = vp_V fs j) (hcells : kk + 1 ≤ R.cells) (hslots : nn + N ≤ R.slots) (hdg : decode cc pc = .ok (.new index, 3)) (k : ∀ q : Nat, gG p l e R s m args below meth c D A nL Q (kk + 1) (nn + N) (pc + 3) lv (.ref q :: st) (List.append ws [(q, .inr (ci, fs))])) : gG p l e R s m args below meth c D A nL Q kk nn pc lv st ws :=
  fun H locs ls hP hD hS hl => va_new (gC_x C0) (gC_b C0) (gC_t C0) hin ty0 hty (gC_o C0) (gC_t C0 _ hcl) (gC_t C0 _ hinst) (gC_t C0 _ hini) (gC_K C0) hP hD hS (gC_A C0) hc hfs hcells hslots hdg (fun q H1 hP1 hD1 hS1 => k q H1 locs ls hP1 hD1 hS1 hl)
/-- what a constructor leaves: some cells of its own -/
def hQn {α : Type} (D : va_G) (w1 : α → va_W) (A : Nat → Prop) : Array Value → State → Outcome → State → Prop := va_Qv (fun (_ : Unit) => True) (fun _ t => ∃ u : α, va_P D vwCl (w1 u) t.heap ∧ va_D A (w1 u)) A
def hMI (y : MethodName) (cc : ByteArray) (nL : Nat) (n : Nat) : Prop := Cond.code y cc nL none ∈ hAll ∧ Cond.initialized y.cls ∈ hAll ∧ Cond.instanceMethod y ∈ hAll ∧ y.name = "<init>" ∧ (y.cls ≠ "java/lang/invoke/MethodHandle" ∧ y.cls ≠ "java/lang/invoke/VarHandle" ∧ (parseMethodDescriptor y.desc).map (fun d => d.parameters.length) = some n)
theorem g_callI {α : Type} {w1 : α → va_W} {y : MethodName} {bytes : ByteArray} {maxL n index mc ms : Nat} {rm : Room} {wc wr : va_W} {As : List Value} {st0 : List Value} {b : Nat} (C0 : gC own cc nL ret0 p s m args meth c D tys A) (hM : ∀ sz, Met l y (ws_ y bytes maxL none) rm (va_Pc (.ref b :: As) (hPre D tys wc sz)) (hQn D w1 (va_A wc sz)) mc ms (va_A wc sz)) (hm : hMI y bytes maxL n) (hlink : Cond.methodLink own index y ∈ hAll) (hR : rm.frames + 1 ≤ R.frames ∧ 8 + (maxL + 11) + rm.locals ≤ R.locals) (hrc : rm.cells = mc) (hrs : rm.slots = ms) (hRc : kk + mc ≤ R.cells ∧ nn + ms ≤ R.slots) (isC isR : List Nat) (hC : isC.map (fun i => ws[i]?) = wc.map some) (hRr : isR.map (fun i => ws[i]?) = wr.map some) (hndC : va_nd isC = true) (hndR : va_nd isR = true) (hdis : ∀ i ∈ isR, i ∉ isC) (hn : As.length = n) (hst : st0 = As.reverse ++ .ref b :: st) (hW : (st.map fun v => v.category).sum ≤ 8) (hdg : decode cc pc = .ok (.invokespecial index, 3)) (k : ∀ u : α, gG p l e R s m args below meth c D A nL Q (kk + mc) (nn + ms) (pc + 3) lv st (List.append wr (w1 u))) : gG p l e R s m args below meth c D A nL Q kk nn pc lv st0 ws := by
  intro H locs ls hP hD hS hl
  have hPc := hl_Psub hP isC hC
  have hDc := hD.sub isC hndC hC
  have hFc := va_free hD hS (gC_A C0) isC hC
  refine va_callv (va_runI (As := As) (rest := st) C0.1 (hM H.size) ⟨callB_of n (gC_t C0) (ws_good hm.1) rfl hrc hrs (gC_t C0 _ hm.2.1) (gC_t C0 _ hlink) hm.2.2.2.2 hR, hm.2.2.2.1, gC_t C0 _ hm.2.2.1⟩ ⟨hPre_blind, fun U hU hW => ⟨rfl, by rw [hU], by rw [hU]; exact hPc, va_K.moved hW.alike (gC_K C0), hDc.weaken (fun _ _ _ _ => trivial), hNw_warm hW (gC_n C0)⟩⟩ rfl hn hl.1 hst (lv_room hW) hdg hRc) hS (fun q _ h => hFc q h) hFc (fun u t H1 locs1 ht hvm hw hB hz1 hk1 hS1 => ?_)
  obtain ⟨u, hB1, hB2⟩ := hB
  rw [ht] at hB1
  obtain ⟨hP1, hD1⟩ := va_join (wr := wr) (w1 := w1 u) hP hD isC isR hC hRr hndR hdis hk1 hFc hB1 hB2
  exact k u H1 locs1 ls hP1 hD1 hS1 hl
theorem g_nret {α : Type} {w1 : α → va_W} (C0 : gC own cc nL none p s m args meth c D tys A) (hdg : decode cc pc = .ok (.return_, 1)) (u : α) (hw : ws = w1 u) : gG p l e R s m args below meth c D A nL (MQ below (hQn D w1 A) args s kk nn A) kk nn pc lv [] ws := by
  subst hw
  exact fun H locs ls hP hD hS hl => W.vret (gC_x C0) (gC_b C0) (gC_r C0) (fun t ht hW => ⟨⟨(), rfl, trivial, u, show va_P D vwCl _ t.heap by rw [ht]; exact hP, hD⟩, hS.F ht⟩) hS.2.2 hdg (gC_l C0)
/-- the cells in another order, some left out -/
theorem g_ord (is : List Nat) (hs : is.map (fun i => ws[i]?) = ws'.map some) (hnd : va_nd is = true) (k : gG p l e R s m args below meth c D A nL Q kk nn pc lv st ws') : gG p l e R s m args below meth c D A nL Q kk nn pc lv st ws := fun H locs ls hP hD hS hl => k H locs ls (hl_Psub hP is hs) (hD.sub is hnd hs) hS hl
end GM
theorem g_metI {l : Launch} {D : va_G} {tys : List (ClassId × FieldType)} {y : MethodName} {bytes : ByteArray} {maxL : Nat} {ret : Option FieldType} {rm : Room} {av : List Value} {wc : va_W} {lv0 : List (Nat × Value)} {Qf : (Nat → Prop) → Array Value → State → Outcome → State → Prop} {mc ms : Nat}
    (hy : plainFor y = true) (hlen : (lg_sl av).length ≤ maxL) (hlv : lv_args 0 av = lv0)
    (body : ∀ {p : Program} {e : Env} {s : State} {m : MethodId} {args : Array Value} {below : List Frame} {meth : Method} {c : Code} {A : Nat → Prop}, gC y.cls bytes maxL ret p s m args meth c D tys A → meth.name = y.name → gG p l e rm s m args below meth c D A maxL (MQ below (Qf A) args s mc ms A) 0 0 0 lv0 [] wc) :
    ∀ sz, Met l y (ws_ y bytes maxL ret) rm (va_Pc av (hPre D tys wc sz)) (Qf (va_A wc sz)) mc ms (va_A wc sz) := by
  intro sz
  refine hl_ofW (cc := bytes) (maxL := maxL) (ret := ret) hy rfl ?_
  intro p e s m args below meth c s₁ B hml hv
  obtain ⟨rfl, hsz, hP, hK, hD0, hN⟩ := hv
  subst hsz
  have hts := atoms_spec (ws := ws_ y bytes maxL ret) B.pre
  have hown := findClass_of_methodNamed B.named
  have hD := hD0.self (sz := s.heap.size)
  have C0 : gC y.cls bytes maxL ret p s m av.toArray meth c D tys (va_A wc s.heap.size) := ⟨⟨B.exec, B.bytes, hml, hown, fun w h => hts w (List.mem_cons_of_mem _ h)⟩, hK, fun q h => Or.inr h, B.returns, B.notSynchronized, hN⟩
  have hl := lv_entry av (n := maxL) hlen
  rw [hlv] at hl
  rw [lg_entry_eq]
  exact body C0 (name_of_methodNamed B.named B.method).1 s.heap [] _ hP hD va_S.rf hl
abbrev rmX5_init : Room := { frames := 1, cells := 4, slots := 256, locals := 23 }
theorem hmX5_init : hMI yX5_init cX5_init 1 0 := ⟨q_55, q_13, q_54, rfl, by decide, by decide, by decide +kernel⟩
theorem dX5_init_0 : decode cX5_init 0 = .ok (.aload_n 0, 1) := by decide +kernel
theorem dX5_init_1 : decode cX5_init 1 = .ok (.invokespecial 3, 3) := by decide +kernel
theorem dX5_init_4 : decode cX5_init 4 = .ok (.aload_n 0, 1) := by decide +kernel
theorem dX5_init_5 : decode cX5_init 5 = .ok (.bipush 64, 2) := by decide +kernel
theorem dX5_init_7 : decode cX5_init 7 = .ok (.newarray .int, 2) := by decide +kernel
theorem dX5_init_9 : decode cX5_init 9 = .ok (.putfield 9, 3) := by decide +kernel
theorem dX5_init_12 : decode cX5_init 12 = .ok (.aload_n 0, 1) := by decide +kernel
theorem dX5_init_13 : decode cX5_init 13 = .ok (.bipush 64, 2) := by decide +kernel
theorem dX5_init_15 : decode cX5_init 15 = .ok (.newarray .int, 2) := by decide +kernel
theorem dX5_init_17 : decode cX5_init 17 = .ok (.putfield 15, 3) := by decide +kernel
theorem dX5_init_20 : decode cX5_init 20 = .ok (.aload_n 0, 1) := by decide +kernel
theorem dX5_init_21 : decode cX5_init 21 = .ok (.bipush 64, 2) := by decide +kernel
theorem dX5_init_23 : decode cX5_init 23 = .ok (.newarray .int, 2) := by decide +kernel
theorem dX5_init_25 : decode cX5_init 25 = .ok (.putfield 18, 3) := by decide +kernel
theorem dX5_init_28 : decode cX5_init 28 = .ok (.aload_n 0, 1) := by decide +kernel
theorem dX5_init_29 : decode cX5_init 29 = .ok (.bipush 64, 2) := by decide +kernel
theorem dX5_init_31 : decode cX5_init 31 = .ok (.newarray .int, 2) := by decide +kernel
theorem dX5_init_33 : decode cX5_init 33 = .ok (.putfield 21, 3) := by decide +kernel
theorem dX5_init_36 : decode cX5_init 36 = .ok (.aload_n 0, 1) := by decide +kernel
theorem dX5_init_37 : decode cX5_init 37 = .ok (.iconst 0, 1) := by decide +kernel
theorem dX5_init_38 : decode cX5_init 38 = .ok (.putfield 24, 3) := by decide +kernel
theorem dX5_init_41 : decode cX5_init 41 = .ok (.aload_n 0, 1) := by decide +kernel
theorem dX5_init_42 : decode cX5_init 42 = .ok (.bipush 70, 2) := by decide +kernel
theorem dX5_init_44 : decode cX5_init 44 = .ok (.putfield 28, 3) := by decide +kernel
theorem dX5_init_47 : decode cX5_init 47 = .ok (.aload_n 0, 1) := by decide +kernel
theorem dX5_init_48 : decode cX5_init 48 = .ok (.bipush 8, 2) := by decide +kernel
theorem dX5_init_50 : decode cX5_init 50 = .ok (.putfield 31, 3) := by decide +kernel
theorem dX5_init_53 : decode cX5_init 53 = .ok (.aload_n 0, 1) := by decide +kernel
theorem dX5_init_54 : decode cX5_init 54 = .ok (.getfield 9, 3) := by decide +kernel
theorem dX5_init_57 : decode cX5_init 57 = .ok (.iconst (-1), 1) := by decide +kernel
theorem dX5_init_58 : decode cX5_init 58 = .ok (.invokestatic 34, 3) := by decide +kernel
theorem dX5_init_61 : decode cX5_init 61 = .ok (.return_, 1) := by decide +kernel
def cwX5_init (cC cI : ClassId) (h0 : Nat) (K0 : Nat → Int32) : Nat × Nat × Nat × Nat → va_W := (fun u : Nat × Nat × Nat × Nat => ([(h0, .inr (5, [.ref u.1, .ref u.2.1, .ref u.2.2.1, .ref u.2.2.2, .int (8 : Int32), .int (0 : Int32), .int (0 : Int32), .int (70 : Int32), .int (0 : Int32), .int (0 : Int32), .int (0 : Int32), .int (0 : Int32)])), (u.1, .inl (cI, 64, .inl K0)), (u.2.1, .inl (cI, 64, .inl (fun _ => 0))), (u.2.2.1, .inl (cI, 64, .inl (fun _ => 0))), (u.2.2.2, .inl (cI, 64, .inl (fun _ => 0)))] : va_W))
set_option maxHeartbeats 4000000 in
set_option maxRecDepth 100000 in
theorem bX5_init {p : Program} {l : Launch} {e : Env} {s : State} {m : MethodId} {args : Array Value} {below : List Frame} {meth : Method} {c : Code} {D : va_G} {cB cC cI cO : ClassId} {A : Nat → Prop} (C0 : gC RX5 cX5_init 1 none p s m args meth c D (hTy cB cC cI cO) A) (hin : meth.name = "<init>") (h0 : Nat) (K0 : Nat → Int32) (hK0 : fJ7_fill_53178 64 (fun _ => 0) (-1 : Int32) = some K0) : gG p l e rmX5_init s m args below meth c D A 1 (MQ below (hQn D (cwX5_init cC cI h0 K0) A) args s 4 256 A) 0 0 0 [(0, .ref h0)] [] [(h0, .inr (5, [.null, .null, .null, .null, .int (0 : Int32), .int (0 : Int32), .int (0 : Int32), .int (0 : Int32), .int (0 : Int32), .int (0 : Int32), .int (0 : Int32), .int (0 : Int32)]))] := by
  refine g_aload_n C0 dX5_init_0 rfl 0 rfl ?_
  refine g_objInit C0 q_56 q_49 q_50 dX5_init_1 (Nat.le_of_ble_eq_true rfl) (Nat.le_of_ble_eq_true rfl) ?_
  refine g_aload_n C0 dX5_init_4 rfl 0 rfl ?_
  refine g_bipush C0 (v := (64 : Int32)) dX5_init_5 (by decide) ?_
  refine g_newI (N := 64) C0 q_106 1 rfl (by decide) (by decide) (by decide) (Nat.le_of_ble_eq_true rfl) (Nat.le_of_ble_eq_true rfl) dX5_init_7 (fun h1 => ?_)
  refine g_eq (ws' := [(h0, .inr (5, [.null, .null, .null, .null, .int (0 : Int32), .int (0 : Int32), .int (0 : Int32), .int (0 : Int32), .int (0 : Int32), .int (0 : Int32), .int (0 : Int32), .int (0 : Int32)])), (h1, .inl (cI, 64, .inl (fun _ => 0)))]) rfl rfl rfl ?_
  refine g_putF C0 (ws' := [(h0, .inr (5, [.ref h1, .null, .null, .null, .int (0 : Int32), .int (0 : Int32), .int (0 : Int32), .int (0 : Int32), .int (0 : Int32), .int (0 : Int32), .int (0 : Int32), .int (0 : Int32)])), (h1, .inl (cI, 64, .inl (fun _ => 0)))]) hinX5 0 rfl rfl 0 (by decide) q_60 hin rfl tyX5_ok nmX5 rfl rfl rfl (Nat.le_of_ble_eq_true rfl) rfl dX5_init_9 ?_
  refine g_aload_n C0 dX5_init_12 rfl 0 rfl ?_
  refine g_bipush C0 (v := (64 : Int32)) dX5_init_13 (by decide) ?_
  refine g_newI (N := 64) C0 q_106 1 rfl (by decide) (by decide) (by decide) (Nat.le_of_ble_eq_true rfl) (Nat.le_of_ble_eq_true rfl) dX5_init_15 (fun h2 => ?_)
  refine g_eq (ws' := [(h0, .inr (5, [.ref h1, .null, .null, .null, .int (0 : Int32), .int (0 : Int32), .int (0 : Int32), .int (0 : Int32), .int (0 : Int32), .int (0 : Int32), .int (0 : Int32), .int (0 : Int32)])), (h1, .inl (cI, 64, .inl (fun _ => 0))), (h2, .inl (cI, 64, .inl (fun _ => 0)))]) rfl rfl rfl ?_
  refine g_putF C0 (ws' := [(h0, .inr (5, [.ref h1, .ref h2, .null, .null, .int (0 : Int32), .int (0 : Int32), .int (0 : Int32), .int (0 : Int32), .int (0 : Int32), .int (0 : Int32), .int (0 : Int32), .int (0 : Int32)])), (h1, .inl (cI, 64, .inl (fun _ => 0))), (h2, .inl (cI, 64, .inl (fun _ => 0)))]) hinX5 0 rfl rfl 1 (by decide) q_61 hin rfl tyX5_ok nmX5 rfl rfl rfl (Nat.le_of_ble_eq_true rfl) rfl dX5_init_17 ?_
  refine g_aload_n C0 dX5_init_20 rfl 0 rfl ?_
  refine g_bipush C0 (v := (64 : Int32)) dX5_init_21 (by decide) ?_
  refine g_newI (N := 64) C0 q_106 1 rfl (by decide) (by decide) (by decide) (Nat.le_of_ble_eq_true rfl) (Nat.le_of_ble_eq_true rfl) dX5_init_23 (fun h3 => ?_)
  refine g_eq (ws' := [(h0, .inr (5, [.ref h1, .ref h2, .null, .null, .int (0 : Int32), .int (0 : Int32), .int (0 : Int32), .int (0 : Int32), .int (0 : Int32), .int (0 : Int32), .int (0 : Int32), .int (0 : Int32)])), (h1, .inl (cI, 64, .inl (fun _ => 0))), (h2, .inl (cI, 64, .inl (fun _ => 0))), (h3, .inl (cI, 64, .inl (fun _ => 0)))]) rfl rfl rfl ?_
  refine g_putF C0 (ws' := [(h0, .inr (5, [.ref h1, .ref h2, .ref h3, .null, .int (0 : Int32), .int (0 : Int32), .int (0 : Int32), .int (0 : Int32), .int (0 : Int32), .int (0 : Int32), .int (0 : Int32), .int (0 : Int32)])), (h1, .inl (cI, 64, .inl (fun _ => 0))), (h2, .inl (cI, 64, .inl (fun _ => 0))), (h3, .inl (cI, 64, .inl (fun _ => 0)))]) hinX5 0 rfl rfl 2 (by decide) q_62 hin rfl tyX5_ok nmX5 rfl rfl rfl (Nat.le_of_ble_eq_true rfl) rfl dX5_init_25 ?_
  refine g_aload_n C0 dX5_init_28 rfl 0 rfl ?_
  refine g_bipush C0 (v := (64 : Int32)) dX5_init_29 (by decide) ?_
  refine g_newI (N := 64) C0 q_106 1 rfl (by decide) (by decide) (by decide) (Nat.le_of_ble_eq_true rfl) (Nat.le_of_ble_eq_true rfl) dX5_init_31 (fun h4 => ?_)
  refine g_eq (ws' := [(h0, .inr (5, [.ref h1, .ref h2, .ref h3, .null, .int (0 : Int32), .int (0 : Int32), .int (0 : Int32), .int (0 : Int32), .int (0 : Int32), .int (0 : Int32), .int (0 : Int32), .int (0 : Int32)])), (h1, .inl (cI, 64, .inl (fun _ => 0))), (h2, .inl (cI, 64, .inl (fun _ => 0))), (h3, .inl (cI, 64, .inl (fun _ => 0))), (h4, .inl (cI, 64, .inl (fun _ => 0)))]) rfl rfl rfl ?_
  refine g_putF C0 (ws' := [(h0, .inr (5, [.ref h1, .ref h2, .ref h3, .ref h4, .int (0 : Int32), .int (0 : Int32), .int (0 : Int32), .int (0 : Int32), .int (0 : Int32), .int (0 : Int32), .int (0 : Int32), .int (0 : Int32)])), (h1, .inl (cI, 64, .inl (fun _ => 0))), (h2, .inl (cI, 64, .inl (fun _ => 0))), (h3, .inl (cI, 64, .inl (fun _ => 0))), (h4, .inl (cI, 64, .inl (fun _ => 0)))]) hinX5 0 rfl rfl 3 (by decide) q_63 hin rfl tyX5_ok nmX5 rfl rfl rfl (Nat.le_of_ble_eq_true rfl) rfl dX5_init_33 ?_
  refine g_aload_n C0 dX5_init_36 rfl 0 rfl ?_
  refine g_iconst C0 (v := (0 : Int32)) dX5_init_37 (by decide) ?_
  refine g_put C0 (ws' := [(h0, .inr (5, [.ref h1, .ref h2, .ref h3, .ref h4, .int (0 : Int32), .int (0 : Int32), .int (0 : Int32), .int (0 : Int32), .int (0 : Int32), .int (0 : Int32), .int (0 : Int32), .int (0 : Int32)])), (h1, .inl (cI, 64, .inl (fun _ => 0))), (h2, .inl (cI, 64, .inl (fun _ => 0))), (h3, .inl (cI, 64, .inl (fun _ => 0))), (h4, .inl (cI, 64, .inl (fun _ => 0)))]) hinX5 0 rfl rfl 5 (by decide) q_67 tyX5_ok nmX5 rfl rfl rfl (Nat.le_of_ble_eq_true rfl) rfl dX5_init_38 ?_
  refine g_aload_n C0 dX5_init_41 rfl 0 rfl ?_
  refine g_bipush C0 (v := (70 : Int32)) dX5_init_42 (by decide) ?_
  refine g_put C0 (ws' := [(h0, .inr (5, [.ref h1, .ref h2, .ref h3, .ref h4, .int (0 : Int32), .int (0 : Int32), .int (0 : Int32), .int (70 : Int32), .int (0 : Int32), .int (0 : Int32), .int (0 : Int32), .int (0 : Int32)])), (h1, .inl (cI, 64, .inl (fun _ => 0))), (h2, .inl (cI, 64, .inl (fun _ => 0))), (h3, .inl (cI, 64, .inl (fun _ => 0))), (h4, .inl (cI, 64, .inl (fun _ => 0)))]) hinX5 0 rfl rfl 7 (by decide) q_71 tyX5_ok nmX5 rfl rfl rfl (Nat.le_of_ble_eq_true rfl) rfl dX5_init_44 ?_
  refine g_aload_n C0 dX5_init_47 rfl 0 rfl ?_
  refine g_bipush C0 (v := (8 : Int32)) dX5_init_48 (by decide) ?_
  refine g_put C0 (ws' := [(h0, .inr (5, [.ref h1, .ref h2, .ref h3, .ref h4, .int (8 : Int32), .int (0 : Int32), .int (0 : Int32), .int (70 : Int32), .int (0 : Int32), .int (0 : Int32), .int (0 : Int32), .int (0 : Int32)])), (h1, .inl (cI, 64, .inl (fun _ => 0))), (h2, .inl (cI, 64, .inl (fun _ => 0))), (h3, .inl (cI, 64, .inl (fun _ => 0))), (h4, .inl (cI, 64, .inl (fun _ => 0)))]) hinX5 0 rfl rfl 4 (by decide) q_64 tyX5_ok nmX5 rfl rfl rfl (Nat.le_of_ble_eq_true rfl) rfl dX5_init_50 ?_
  refine g_aload_n C0 dX5_init_53 rfl 0 rfl ?_
  refine g_get C0 hinX5 0 rfl rfl 0 (by decide) q_60 rfl dX5_init_54 ?_
  refine g_iconst C0 (v := (-1 : Int32)) dX5_init_57 (by decide) ?_
  refine g_callSv C0 (ws' := [(h0, .inr (5, [.ref h1, .ref h2, .ref h3, .ref h4, .int (8 : Int32), .int (0 : Int32), .int (0 : Int32), .int (70 : Int32), .int (0 : Int32), .int (0 : Int32), .int (0 : Int32), .int (0 : Int32)])), (h1, .inl (cI, 64, .inl K0)), (h2, .inl (cI, 64, .inl (fun _ => 0))), (h3, .inl (cI, 64, .inl (fun _ => 0))), (h4, .inl (cI, 64, .inl (fun _ => 0)))]) (mJ7_fill_53178 l D cB cC cI cO 64 h1 (fun _ => 0) (-1 : Int32) K0 hK0) hmJ7_fill_53178 q_57 ⟨Nat.le_of_ble_eq_true rfl, Nat.le_of_ble_eq_true rfl⟩ ⟨Nat.le_of_ble_eq_true rfl, Nat.le_of_ble_eq_true rfl⟩ rfl rfl [1] rfl rfl rfl rfl rfl rfl (Nat.le_of_ble_eq_true rfl) dX5_init_58 ?_
  exact g_nret C0 dX5_init_61 (h1, h2, h3, h4) rfl
theorem mX5_init (l : Launch) (D : va_G) (cB cC cI cO : ClassId) (h0 : Nat) (K0 : Nat → Int32) (hK0 : fJ7_fill_53178 64 (fun _ => 0) (-1 : Int32) = some K0) : ∀ sz, Met l yX5_init (ws_ yX5_init cX5_init 1 none) rmX5_init (va_Pc [.ref h0] (hPre D (hTy cB cC cI cO) [(h0, .inr (5, [.null, .null, .null, .null, .int (0 : Int32), .int (0 : Int32), .int (0 : Int32), .int (0 : Int32), .int (0 : Int32), .int (0 : Int32), .int (0 : Int32), .int (0 : Int32)]))] sz)) (hQn D (cwX5_init cC cI h0 K0) (va_A [(h0, .inr (5, [.null, .null, .null, .null, .int (0 : Int32), .int (0 : Int32), .int (0 : Int32), .int (0 : Int32), .int (0 : Int32), .int (0 : Int32), .int (0 : Int32), .int (0 : Int32)]))] sz)) 4 256 (va_A [(h0, .inr (5, [.null, .null, .null, .null, .int (0 : Int32), .int (0 : Int32), .int (0 : Int32), .int (0 : Int32), .int (0 : Int32), .int (0 : Int32), .int (0 : Int32), .int (0 : Int32)]))] sz) :=
  g_metI (Qf := fun A => hQn D (cwX5_init cC cI h0 K0) A) (by decide +kernel) (Nat.le_of_ble_eq_true rfl) rfl (fun C0 hin => bX5_init C0 hin h0 K0 hK0)
abbrev rmX3_init : Room := { frames := 1, cells := 1, slots := 640, locals := 12 }
theorem hmX3_init : hMI yX3_init cX3_init 1 0 := ⟨q_156, q_17, q_155, rfl, by decide, by decide, by decide +kernel⟩
theorem dX3_init_0 : decode cX3_init 0 = .ok (.aload_n 0, 1) := by decide +kernel
theorem dX3_init_1 : decode cX3_init 1 = .ok (.invokespecial 3, 3) := by decide +kernel
theorem dX3_init_4 : decode cX3_init 4 = .ok (.aload_n 0, 1) := by decide +kernel
theorem dX3_init_5 : decode cX3_init 5 = .ok (.sipush 640, 3) := by decide +kernel
theorem dX3_init_8 : decode cX3_init 8 = .ok (.newarray .char, 2) := by decide +kernel
theorem dX3_init_10 : decode cX3_init 10 = .ok (.putfield 11, 3) := by decide +kernel
theorem dX3_init_13 : decode cX3_init 13 = .ok (.return_, 1) := by decide +kernel
def cwX3_init (cC cI : ClassId) (l0 : Nat) : Nat → va_W := (fun u : Nat => ([(l0, .inr (3, [.ref u, .int (0 : Int32)])), (u, .inl (cC, 640, .inl (fun _ => 0)))] : va_W))
set_option maxHeartbeats 4000000 in
set_option maxRecDepth 100000 in
theorem bX3_init {p : Program} {l : Launch} {e : Env} {s : State} {m : MethodId} {args : Array Value} {below : List Frame} {meth : Method} {c : Code} {D : va_G} {cB cC cI cO : ClassId} {A : Nat → Prop} (C0 : gC RX3 cX3_init 1 none p s m args meth c D (hTy cB cC cI cO) A) (hin : meth.name = "<init>") (l0 : Nat)  : gG p l e rmX3_init s m args below meth c D A 1 (MQ below (hQn D (cwX3_init cC cI l0) A) args s 1 640 A) 0 0 0 [(0, .ref l0)] [] [(l0, .inr (3, [.null, .int (0 : Int32)]))] := by
  refine g_aload_n C0 dX3_init_0 rfl 0 rfl ?_
  refine g_objInit C0 q_157 q_49 q_50 dX3_init_1 (Nat.le_of_ble_eq_true rfl) (Nat.le_of_ble_eq_true rfl) ?_
  refine g_aload_n C0 dX3_init_4 rfl 0 rfl ?_
  refine g_sipush C0 (v := (640 : Int32)) dX3_init_5 (by decide) ?_
  refine g_newC (N := 640) C0 q_151 0 rfl (by decide) (by decide) (by decide) (Nat.le_of_ble_eq_true rfl) (Nat.le_of_ble_eq_true rfl) dX3_init_8 (fun l1 => ?_)
  refine g_eq (ws' := [(l0, .inr (3, [.null, .int (0 : Int32)])), (l1, .inl (cC, 640, .inl (fun _ => 0)))]) rfl rfl rfl ?_
  refine g_putF C0 (ws' := [(l0, .inr (3, [.ref l1, .int (0 : Int32)])), (l1, .inl (cC, 640, .inl (fun _ => 0)))]) hinX3 0 rfl rfl 0 (by decide) q_158 hin rfl tyX3_ok nmX3 rfl rfl rfl (Nat.le_of_ble_eq_true rfl) rfl dX3_init_10 ?_
  exact g_nret C0 dX3_init_13 l1 rfl
theorem mX3_init (l : Launch) (D : va_G) (cB cC cI cO : ClassId) (l0 : Nat)  : ∀ sz, Met l yX3_init (ws_ yX3_init cX3_init 1 none) rmX3_init (va_Pc [.ref l0] (hPre D (hTy cB cC cI cO) [(l0, .inr (3, [.null, .int (0 : Int32)]))] sz)) (hQn D (cwX3_init cC cI l0) (va_A [(l0, .inr (3, [.null, .int (0 : Int32)]))] sz)) 1 640 (va_A [(l0, .inr (3, [.null, .int (0 : Int32)]))] sz) :=
  g_metI (Qf := fun A => hQn D (cwX3_init cC cI l0) A) (by decide +kernel) (Nat.le_of_ble_eq_true rfl) rfl (fun C0 hin => bX3_init C0 hin l0)
abbrev rmX4_init : Room := { frames := 1, cells := 4, slots := 240, locals := 12 }
theorem hmX4_init : hMI yX4_init cX4_init 1 0 := ⟨q_130, q_16, q_129, rfl, by decide, by decide, by decide +kernel⟩
theorem dX4_init_0 : decode cX4_init 0 = .ok (.aload_n 0, 1) := by decide +kernel
theorem dX4_init_1 : decode cX4_init 1 = .ok (.invokespecial 3, 3) := by decide +kernel
theorem dX4_init_4 : decode cX4_init 4 = .ok (.aload_n 0, 1) := by decide +kernel
theorem dX4_init_5 : decode cX4_init 5 = .ok (.bipush 60, 2) := by decide +kernel
theorem dX4_init_7 : decode cX4_init 7 = .ok (.newarray .char, 2) := by decide +kernel
theorem dX4_init_9 : decode cX4_init 9 = .ok (.putfield 11, 3) := by decide +kernel
theorem dX4_init_12 : decode cX4_init 12 = .ok (.aload_n 0, 1) := by decide +kernel
theorem dX4_init_13 : decode cX4_init 13 = .ok (.bipush 60, 2) := by decide +kernel
theorem dX4_init_15 : decode cX4_init 15 = .ok (.newarray .int, 2) := by decide +kernel
theorem dX4_init_17 : decode cX4_init 17 = .ok (.putfield 15, 3) := by decide +kernel
theorem dX4_init_20 : decode cX4_init 20 = .ok (.aload_n 0, 1) := by decide +kernel
theorem dX4_init_21 : decode cX4_init 21 = .ok (.bipush 60, 2) := by decide +kernel
theorem dX4_init_23 : decode cX4_init 23 = .ok (.newarray .int, 2) := by decide +kernel
theorem dX4_init_25 : decode cX4_init 25 = .ok (.putfield 19, 3) := by decide +kernel
theorem dX4_init_28 : decode cX4_init 28 = .ok (.aload_n 0, 1) := by decide +kernel
theorem dX4_init_29 : decode cX4_init 29 = .ok (.bipush 60, 2) := by decide +kernel
theorem dX4_init_31 : decode cX4_init 31 = .ok (.newarray .int, 2) := by decide +kernel
theorem dX4_init_33 : decode cX4_init 33 = .ok (.putfield 22, 3) := by decide +kernel
theorem dX4_init_36 : decode cX4_init 36 = .ok (.return_, 1) := by decide +kernel
def cwX4_init (cC cI : ClassId) (p0 : Nat) : Nat × Nat × Nat × Nat → va_W := (fun u : Nat × Nat × Nat × Nat => ([(p0, .inr (4, [.ref u.1, .ref u.2.1, .ref u.2.2.1, .ref u.2.2.2, .int (0 : Int32), .int (0 : Int32), .int (0 : Int32)])), (u.1, .inl (cC, 60, .inl (fun _ => 0))), (u.2.1, .inl (cI, 60, .inl (fun _ => 0))), (u.2.2.1, .inl (cI, 60, .inl (fun _ => 0))), (u.2.2.2, .inl (cI, 60, .inl (fun _ => 0)))] : va_W))
set_option maxHeartbeats 4000000 in
set_option maxRecDepth 100000 in
theorem bX4_init {p : Program} {l : Launch} {e : Env} {s : State} {m : MethodId} {args : Array Value} {below : List Frame} {meth : Method} {c : Code} {D : va_G} {cB cC cI cO : ClassId} {A : Nat → Prop} (C0 : gC RX4 cX4_init 1 none p s m args meth c D (hTy cB cC cI cO) A) (hin : meth.name = "<init>") (p0 : Nat)  : gG p l e rmX4_init s m args below meth c D A 1 (MQ below (hQn D (cwX4_init cC cI p0) A) args s 4 240 A) 0 0 0 [(0, .ref p0)] [] [(p0, .inr (4, [.null, .null, .null, .null, .int (0 : Int32), .int (0 : Int32), .int (0 : Int32)]))] := by
  refine g_aload_n C0 dX4_init_0 rfl 0 rfl ?_
  refine g_objInit C0 q_131 q_49 q_50 dX4_init_1 (Nat.le_of_ble_eq_true rfl) (Nat.le_of_ble_eq_true rfl) ?_
  refine g_aload_n C0 dX4_init_4 rfl 0 rfl ?_
  refine g_bipush C0 (v := (60 : Int32)) dX4_init_5 (by decide) ?_
  refine g_newC (N := 60) C0 q_151 0 rfl (by decide) (by decide) (by decide) (Nat.le_of_ble_eq_true rfl) (Nat.le_of_ble_eq_true rfl) dX4_init_7 (fun p1 => ?_)
  refine g_eq (ws' := [(p0, .inr (4, [.null, .null, .null, .null, .int (0 : Int32), .int (0 : Int32), .int (0 : Int32)])), (p1, .inl (cC, 60, .inl (fun _ => 0)))]) rfl rfl rfl ?_
  refine g_putF C0 (ws' := [(p0, .inr (4, [.ref p1, .null, .null, .null, .int (0 : Int32), .int (0 : Int32), .int (0 : Int32)])), (p1, .inl (cC, 60, .inl (fun _ => 0)))]) hinX4 0 rfl rfl 0 (by decide) q_132 hin rfl tyX4_ok nmX4 rfl rfl rfl (Nat.le_of_ble_eq_true rfl) rfl dX4_init_9 ?_
  refine g_aload_n C0 dX4_init_12 rfl 0 rfl ?_
  refine g_bipush C0 (v := (60 : Int32)) dX4_init_13 (by decide) ?_
  refine g_newI (N := 60) C0 q_106 1 rfl (by decide) (by decide) (by decide) (Nat.le_of_ble_eq_true rfl) (Nat.le_of_ble_eq_true rfl) dX4_init_15 (fun p2 => ?_)
  refine g_eq (ws' := [(p0, .inr (4, [.ref p1, .null, .null, .null, .int (0 : Int32), .int (0 : Int32), .int (0 : Int32)])), (p1, .inl (cC, 60, .inl (fun _ => 0))), (p2, .inl (cI, 60, .inl (fun _ => 0)))]) rfl rfl rfl ?_
  refine g_putF C0 (ws' := [(p0, .inr (4, [.ref p1, .ref p2, .null, .null, .int (0 : Int32), .int (0 : Int32), .int (0 : Int32)])), (p1, .inl (cC, 60, .inl (fun _ => 0))), (p2, .inl (cI, 60, .inl (fun _ => 0)))]) hinX4 0 rfl rfl 1 (by decide) q_133 hin rfl tyX4_ok nmX4 rfl rfl rfl (Nat.le_of_ble_eq_true rfl) rfl dX4_init_17 ?_
  refine g_aload_n C0 dX4_init_20 rfl 0 rfl ?_
  refine g_bipush C0 (v := (60 : Int32)) dX4_init_21 (by decide) ?_
  refine g_newI (N := 60) C0 q_106 1 rfl (by decide) (by decide) (by decide) (Nat.le_of_ble_eq_true rfl) (Nat.le_of_ble_eq_true rfl) dX4_init_23 (fun p3 => ?_)
  refine g_eq (ws' := [(p0, .inr (4, [.ref p1, .ref p2, .null, .null, .int (0 : Int32), .int (0 : Int32), .int (0 : Int32)])), (p1, .inl (cC, 60, .inl (fun _ => 0))), (p2, .inl (cI, 60, .inl (fun _ => 0))), (p3, .inl (cI, 60, .inl (fun _ => 0)))]) rfl rfl rfl ?_
  refine g_putF C0 (ws' := [(p0, .inr (4, [.ref p1, .ref p2, .ref p3, .null, .int (0 : Int32), .int (0 : Int32), .int (0 : Int32)])), (p1, .inl (cC, 60, .inl (fun _ => 0))), (p2, .inl (cI, 60, .inl (fun _ => 0))), (p3, .inl (cI, 60, .inl (fun _ => 0)))]) hinX4 0 rfl rfl 2 (by decide) q_134 hin rfl tyX4_ok nmX4 rfl rfl rfl (Nat.le_of_ble_eq_true rfl) rfl dX4_init_25 ?_
  refine g_aload_n C0 dX4_init_28 rfl 0 rfl ?_
  refine g_bipush C0 (v := (60 : Int32)) dX4_init_29 (by decide) ?_
  refine g_newI (N := 60) C0 q_106 1 rfl (by decide) (by decide) (by decide) (Nat.le_of_ble_eq_true rfl) (Nat.le_of_ble_eq_true rfl) dX4_init_31 (fun p4 => ?_)
  refine g_eq (ws' := [(p0, .inr (4, [.ref p1, .ref p2, .ref p3, .null, .int (0 : Int32), .int (0 : Int32), .int (0 : Int32)])), (p1, .inl (cC, 60, .inl (fun _ => 0))), (p2, .inl (cI, 60, .inl (fun _ => 0))), (p3, .inl (cI, 60, .inl (fun _ => 0))), (p4, .inl (cI, 60, .inl (fun _ => 0)))]) rfl rfl rfl ?_
  refine g_putF C0 (ws' := [(p0, .inr (4, [.ref p1, .ref p2, .ref p3, .ref p4, .int (0 : Int32), .int (0 : Int32), .int (0 : Int32)])), (p1, .inl (cC, 60, .inl (fun _ => 0))), (p2, .inl (cI, 60, .inl (fun _ => 0))), (p3, .inl (cI, 60, .inl (fun _ => 0))), (p4, .inl (cI, 60, .inl (fun _ => 0)))]) hinX4 0 rfl rfl 3 (by decide) q_135 hin rfl tyX4_ok nmX4 rfl rfl rfl (Nat.le_of_ble_eq_true rfl) rfl dX4_init_33 ?_
  exact g_nret C0 dX4_init_36 (p1, p2, p3, p4) rfl
theorem mX4_init (l : Launch) (D : va_G) (cB cC cI cO : ClassId) (p0 : Nat)  : ∀ sz, Met l yX4_init (ws_ yX4_init cX4_init 1 none) rmX4_init (va_Pc [.ref p0] (hPre D (hTy cB cC cI cO) [(p0, .inr (4, [.null, .null, .null, .null, .int (0 : Int32), .int (0 : Int32), .int (0 : Int32)]))] sz)) (hQn D (cwX4_init cC cI p0) (va_A [(p0, .inr (4, [.null, .null, .null, .null, .int (0 : Int32), .int (0 : Int32), .int (0 : Int32)]))] sz)) 4 240 (va_A [(p0, .inr (4, [.null, .null, .null, .null, .int (0 : Int32), .int (0 : Int32), .int (0 : Int32)]))] sz) :=
  g_metI (Qf := fun A => hQn D (cwX4_init cC cI p0) A) (by decide +kernel) (Nat.le_of_ble_eq_true rfl) rfl (fun C0 hin => bX4_init C0 hin p0)
