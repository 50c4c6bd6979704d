/-! the law's kit: its types, what its helpers want of the machine, calls inside a longer world -/
abbrev hTy5 (cC cI cO cJ cD : ClassId) : List (ClassId × FieldType) := [(cC, .char), (cI, .int), (cO, .object "HashLab$Table"), (cJ, .long), (cD, .double)]
theorem hTy5_3 {D : va_G} {cC cI cO cJ cD : ClassId} {U : State} (h : va_K D vwCl (hTy5 cC cI cO cJ cD) U) : va_K D vwCl (hTy cC cI cO) U := h.sub [0, 1, 2] rfl
def hNc (U : State) : Prop := va_Nc (hExn 2) (hExn 1) U ∧ va_Nc (hExn 4) (hExn 1) U ∧ va_Nc (hExn 3) (hExn 4) U ∧ va_Nc (hExn 6) (hExn 1) U
theorem hNc_moved {u U : State} (hvm : u.vm.Alike U.vm) (h : hNc u) : hNc U := ⟨h.1.moved hvm, h.2.1.moved hvm, h.2.2.1.moved hvm, h.2.2.2.moved hvm⟩
def hLw (adK adV : Nat → Nat) (A : Nat → Prop) (U : State) : Prop := hZ A U ∧ hSt adK adV A U ∧ hNc U
theorem hLw_ok (adK adV : Nat → Nat) : hEok (hLw adK adV) :=
  ⟨fun A U g mk a h => ⟨hZ_call h.1, (hSt_ok adK adV).1 A U g mk a h.2.1, hNc_moved (u := U) (U := U.calling g mk a) (Vm.Alike.refl U.vm) h.2.2⟩,
   fun A A' s U h hq hW hAA => ⟨hZ_at h.1 hq hW hAA, (hSt_ok adK adV).2 A A' s U h.2.1 hq hW hAA, hNc_moved hW.alike h.2.2⟩⟩
def hcd {β : Type} (ks : List Nat) (o : β ⊕ Nat) : Int32 := match o with
  | .inl _ => 0
  | .inr k => Int32.ofNat (ks.findIdx (fun z => z == k) + 1)
def hwr (f : Nat → Int64) (o : Int32 ⊕ Nat) (g : Int32 → Int64) : Nat → Int64 := match o with
  | .inl v => vp_updL f 0 (g v)
  | .inr _ => f
def hwl (f : Nat → Int64) (o : Int64 ⊕ Nat) : Nat → Int64 := match o with
  | .inl v => vp_updL f 0 v
  | .inr _ => f
def hwd (f : Nat → UInt64) (o : UInt64 ⊕ Nat) : Nat → UInt64 := match o with
  | .inl v => vf_upd f 0 v
  | .inr _ => f
def hg1 (v : Int32) : Int64 := if v = 0 then 0 else 1
def hgI (v : Int32) : Int64 := v.toInt64
theorem ll_backS {A0 : Nat → Prop} {D : va_G} {cl : List vw_C} {P X X1 : va_W} {H H1 : Heap} (hP : va_P D cl (List.append P X) H) (hD : va_D A0 (List.append P X)) (hf1 : X1.map Prod.fst = X.map Prod.fst) (hk : ∀ q : Nat, q < H.size → ¬ va_A X H.size q → H1[q]? = H[q]?) (hP1 : va_P D cl X1 H1) : va_P D cl (List.append P X1) H1 ∧ va_D A0 (List.append P X1) := by
  refine ⟨va_P.app (fun k q hkq => ?_) hP1, hl_Dfst (ws := List.append P X) ?_ hD⟩
  · have hl := (hl_PL hP k q hkq).lt
    refine (hl_PL hP k q hkq).kept (hk q.1 hl (fun h => ?_))
    rcases h with ⟨k2, e, h⟩ | h
    · exact hl_DX hD k k2 q (q.1, e) hkq h rfl
    · omega
  · show (P ++ X1).map Prod.fst = (P ++ X).map Prod.fst
    rw [List.map_append, List.map_append, hf1]
theorem ll_backP {A0 : Nat → Prop} {D : va_G} {cl : List vw_C} {X X1 S : va_W} {H H1 : Heap} (hP : va_P D cl (List.append X S) H) (hD : va_D A0 (List.append X S)) (hf1 : X1.map Prod.fst = X.map Prod.fst) (hk : ∀ q : Nat, q < H.size → ¬ va_A X H.size q → H1[q]? = H[q]?) (hP1 : va_P D cl X1 H1) : va_P D cl (List.append X1 S) H1 ∧ va_D A0 (List.append X1 S) := by
  refine ⟨va_P.app hP1 (fun k q hkq => ?_), hl_Dfst (ws := List.append X S) ?_ hD⟩
  · have hl := (hl_PR hP k q hkq).lt
    refine (hl_PR hP k q hkq).kept (hk q.1 hl (fun h => ?_))
    rcases h with ⟨k2, e, h⟩ | h
    · exact hl_DX hD k2 k (q.1, e) q h hkq rfl
    · omega
  · show (X1 ++ S).map Prod.fst = (X ++ S).map Prod.fst
    rw [List.map_append, List.map_append, hf1]
/-- the handler that takes an exception -/
def hHd (c : Code) (args : Array Value) (s : State) (own : String) (pc : Nat) (E : String) (h : Nat) : Prop := ∃ (pre : List ExceptionTableEntry) (x : ExceptionTableEntry) (suf : List ExceptionTableEntry) (name : String), c.exceptionTable.toList = pre ++ x :: suf ∧ (∀ z ∈ pre, covers z pc = false ∨ (z.catchType ≠ 0 ∧ ∃ nm : String, (Cond.classLink own z.catchType nm).before args s = true ∧ va_Nc E nm s)) ∧ covers x pc = true ∧ x.catchType ≠ 0 ∧ (Cond.classLink own x.catchType name).before args s = true ∧ (Cond.castable E name).before args s = true ∧ x.handlerPc = h
theorem hHd1 {c : Code} {args : Array Value} {s : State} {own : String} {pc : Nat} {E : String} {a b h t : Nat} {suf : List (Nat × Nat × Nat × Nat)} (hT : c.exceptionTable.toList = tableOf ((a, b, h, t) :: suf)) (hc : covers ⟨a, b, h, t⟩ pc = true) (h0 : t ≠ 0) {name : String} (hl : (Cond.classLink own t name).before args s = true) (hk : (Cond.castable E name).before args s = true) : hHd c args s own pc E h := ⟨[], ⟨a, b, h, t⟩, tableOf suf, name, hT, (fun _ z => absurd z List.not_mem_nil), hc, h0, hl, hk, rfl⟩
theorem hHd2 {c : Code} {args : Array Value} {s : State} {own : String} {pc : Nat} {E : String} {a b h t a1 b1 h1 t1 : Nat} {suf : List (Nat × Nat × Nat × Nat)} (hT : c.exceptionTable.toList = tableOf ((a1, b1, h1, t1) :: (a, b, h, t) :: suf)) (h10 : t1 ≠ 0) {nm : String} (hl1 : (Cond.classLink own t1 nm).before args s = true) (hn : va_Nc E nm s) (hc : covers ⟨a, b, h, t⟩ pc = true) (h0 : t ≠ 0) {name : String} (hl : (Cond.classLink own t name).before args s = true) (hk : (Cond.castable E name).before args s = true) : hHd c args s own pc E h := ⟨[⟨a1, b1, h1, t1⟩], ⟨a, b, h, t⟩, tableOf suf, name, hT, (fun z hz => by
  cases List.mem_singleton.mp hz
  exact Or.inr ⟨h10, nm, hl1, hn⟩), hc, h0, hl, hk, rfl⟩
abbrev wsW_ (y : MethodName) (cc : ByteArray) (nL : Nat) (hh : List (Nat × Nat × Nat × Nat)) : List Cond := Cond.codeWith y cc nL (some .int) hh :: hAll
def hMW (y : MethodName) (cc : ByteArray) (nL : Nat) (hh : List (Nat × Nat × Nat × Nat)) (n : Nat) : Prop := Cond.codeWith y cc nL (some .int) hh ∈ hAll ∧ Cond.initialized y.cls ∈ hAll ∧ Cond.static y ∈ hAll ∧ (y.cls ≠ "java/lang/invoke/MethodHandle" ∧ y.cls ≠ "java/lang/invoke/VarHandle" ∧ (parseMethodDescriptor y.desc).map (fun d => d.parameters.length) = some n)
theorem wsW_good {own : String} {index : Nat} {y : MethodName} {cc : ByteArray} {nL : Nat} {hh : List (Nat × Nat × Nat × Nat)} {n : Nat} (h : hMW y cc nL hh n) (hlink : Cond.methodLink own index y ∈ hAll) : GoodIn hAll (va_wsS own index y (wsW_ y cc nL hh)) := by
  intro w hw
  refine hAll_good w ?_
  rcases List.mem_append.mp hw with hw | hw
  · simp only [List.mem_cons, List.not_mem_nil, or_false] at hw
    rcases hw with rfl | rfl | rfl
    · exact hlink
    · exact h.2.2.1
    · exact h.2.1
  · rcases List.mem_cons.mp hw with rfl | hw
    · exact h.1
    · exact hw
section LK
variable {p : Program} {l : Launch} {e : Env} {R : Room} {s : State} {m : MethodId} {args : Array Value} {below : List Frame} {meth : Method} {c : Code} {D : va_G} {cC cI cO cJ cD : ClassId} {A : Nat → Prop} {own : String} {cc : ByteArray} {nL : Nat} {ret0 : Option FieldType} {Q : State → Prop} {pc : Nat} {lv lv' : List (Nat × Value)} {st : List Value} {ws ws' : va_W} {kk nn : Nat}
theorem g_sufi (C0 : gC own cc nL ret0 p s m args meth c D (hTy5 cC cI cO cJ cD) A) {y : MethodName} {bytes : ByteArray} {maxL n index : Nat} {ret : Option FieldType} {rm : Room} {P X X1 : va_W} {r0 : Int32} {As : List Value} {st0 : List Value} {b ci N : Nat} {T : u_T} {fs : List Value} (hM : ∀ sz, Met l y (ws_ y bytes maxL ret) rm (va_Pc (.ref b :: As) (hPre D (hTy cC cI cO) X sz)) (hQi D X1 r0 (va_A X sz)) 0 0 (va_A X sz)) (hm : hMV y bytes maxL ret n) (hlink : Cond.methodLink own index y ∈ hAll) (hR : rm.frames + 1 ≤ R.frames ∧ 8 + (maxL + 11) + rm.locals ≤ R.locals) (hRc : kk ≤ R.cells ∧ nn ≤ R.slots) (hrc : rm.cells = 0) (hrs : rm.slots = 0) (e1 : ws = List.append P X) (hf1 : X1.map Prod.fst = X.map Prod.fst) (hn : As.length = n) (q0 : Nat) (hb0 : X[q0]? = some (b, .inr (ci, fs))) (hci : vwCl[ci]? = some (y.cls, T, N)) (hst : st0 = As.reverse ++ .ref b :: st) (hW : (st.map fun v => v.category).sum ≤ 8) (hdg : decode cc pc = .ok (.invokevirtual index, 3)) (k : gG p l e R s m args below meth c D A nL Q kk nn (pc + 3) lv (.int r0 :: st) (List.append P X1)) : gG p l e R s m args below meth c D A nL Q kk nn pc lv st0 ws := by
  subst e1
  intro H locs ls hP hD hS hl
  have hPc := hl_PR hP
  have hDc := hl_DR hD
  have hFc : ∀ q, va_A X H.size q → A q := fun q h => by
    rcases h with ⟨k, e, h⟩ | h
    · exact hDc.2 k (q, e) h
    · exact gC_A C0 q (Nat.le_trans hS.1 h)
  refine va_calli (va_runV (As := As) (rest := st) C0.1 (hM H.size) ⟨callB_of n (gC_t C0) (ws_good hm.1) rfl hrc hrs (gC_t C0 _ hm.2.1) (gC_t C0 _ hlink) hm.2.2.2.2 hR, gC_t C0 _ hm.2.2.1, gC_t C0 _ hm.2.2.2.1⟩ ⟨hPre_blind, va_recv (gC_K C0) hPc hci hb0, fun U hU hW => ⟨rfl, by rw [hU], by rw [hU]; exact hPc, va_K.moved hW.alike (hTy5_3 (gC_K C0)), hDc.weaken (fun _ _ _ _ => trivial), hNw_warm hW (gC_n C0)⟩⟩ rfl hn hl.1 hst (lv_room hW) hdg hRc) hS (fun q _ h => hFc q h) hFc (fun r u t H1 locs1 ht hvm hw hB hz1 hk1 hS1 => ?_)
  rw [ht] at hB
  obtain ⟨hP1, hD1⟩ := ll_backS hP hD hf1 hk1 hB
  subst hw
  exact k H1 locs1 ls hP1 hD1 hS1 hl
theorem g_suff (C0 : gC own cc nL ret0 p s m args meth c D (hTy5 cC cI cO cJ cD) A) {y : MethodName} {bytes : ByteArray} {maxL n index : Nat} {ret : Option FieldType} {rm : Room} {P X X1 : va_W} {r0 : UInt32} {As : List Value} {st0 : List Value} {b ci N : Nat} {T : u_T} {fs : List Value} (hM : ∀ sz, Met l y (ws_ y bytes maxL ret) rm (va_Pc (.ref b :: As) (hPre D (hTy cC cI cO) X sz)) (hQf D X1 r0 (va_A X sz)) 0 0 (va_A X sz)) (hm : hMV y bytes maxL ret n) (hlink : Cond.methodLink own index y ∈ hAll) (hR : rm.frames + 1 ≤ R.frames ∧ 8 + (maxL + 11) + rm.locals ≤ R.locals) (hRc : kk ≤ R.cells ∧ nn ≤ R.slots) (hrc : rm.cells = 0) (hrs : rm.slots = 0) (e1 : ws = List.append P X) (hf1 : X1.map Prod.fst = X.map Prod.fst) (hn : As.length = n) (q0 : Nat) (hb0 : X[q0]? = some (b, .inr (ci, fs))) (hci : vwCl[ci]? = some (y.cls, T, N)) (hst : st0 = As.reverse ++ .ref b :: st) (hW : (st.map fun v => v.category).sum ≤ 8) (hdg : decode cc pc = .ok (.invokevirtual index, 3)) (k : gG p l e R s m args below meth c D A nL Q kk nn (pc + 3) lv (.float r0 :: st) (List.append P X1)) : gG p l e R s m args below meth c D A nL Q kk nn pc lv st0 ws := by
  subst e1
  intro H locs ls hP hD hS hl
  have hPc := hl_PR hP
  have hDc := hl_DR hD
  have hFc : ∀ q, va_A X H.size q → A q := fun q h => by
    rcases h with ⟨k, e, h⟩ | h
    · exact hDc.2 k (q, e) h
    · exact gC_A C0 q (Nat.le_trans hS.1 h)
  refine va_callf (va_runV (As := As) (rest := st) C0.1 (hM H.size) ⟨callB_of n (gC_t C0) (ws_good hm.1) rfl hrc hrs (gC_t C0 _ hm.2.1) (gC_t C0 _ hlink) hm.2.2.2.2 hR, gC_t C0 _ hm.2.2.1, gC_t C0 _ hm.2.2.2.1⟩ ⟨hPre_blind, va_recv (gC_K C0) hPc hci hb0, fun U hU hW => ⟨rfl, by rw [hU], by rw [hU]; exact hPc, va_K.moved hW.alike (hTy5_3 (gC_K C0)), hDc.weaken (fun _ _ _ _ => trivial), hNw_warm hW (gC_n C0)⟩⟩ rfl hn hl.1 hst (lv_room hW) hdg hRc) hS (fun q _ h => hFc q h) hFc (fun r u t H1 locs1 ht hvm hw hB hz1 hk1 hS1 => ?_)
  rw [ht] at hB
  obtain ⟨hP1, hD1⟩ := ll_backS hP hD hf1 hk1 hB
  subst hw
  exact k H1 locs1 ls hP1 hD1 hS1 hl
theorem g_prei (C0 : gC own cc nL ret0 p s m args meth c D (hTy5 cC cI cO cJ cD) A) {y : MethodName} {bytes : ByteArray} {maxL n index : Nat} {ret : Option FieldType} {rm : Room} {P X X1 : va_W} {r0 : Int32} {As : List Value} {st0 : List Value} {b ci N : Nat} {T : u_T} {fs : List Value} (hM : ∀ sz, Met l y (ws_ y bytes maxL ret) rm (va_Pc (.ref b :: As) (hPre D (hTy cC cI cO) X sz)) (hQi D X1 r0 (va_A X sz)) 0 0 (va_A X sz)) (hm : hMV y bytes maxL ret n) (hlink : Cond.methodLink own index y ∈ hAll) (hR : rm.frames + 1 ≤ R.frames ∧ 8 + (maxL + 11) + rm.locals ≤ R.locals) (hRc : kk ≤ R.cells ∧ nn ≤ R.slots) (hrc : rm.cells = 0) (hrs : rm.slots = 0) (e1 : ws = List.append X P) (hf1 : X1.map Prod.fst = X.map Prod.fst) (hn : As.length = n) (q0 : Nat) (hb0 : X[q0]? = some (b, .inr (ci, fs))) (hci : vwCl[ci]? = some (y.cls, T, N)) (hst : st0 = As.reverse ++ .ref b :: st) (hW : (st.map fun v => v.category).sum ≤ 8) (hdg : decode cc pc = .ok (.invokevirtual index, 3)) (k : gG p l e R s m args below meth c D A nL Q kk nn (pc + 3) lv (.int r0 :: st) (List.append X1 P)) : gG p l e R s m args below meth c D A nL Q kk nn pc lv st0 ws := by
  subst e1
  intro H locs ls hP hD hS hl
  have hPc := hl_PL hP
  have hDc := hl_DL hD
  have hFc : ∀ q, va_A X H.size q → A q := fun q h => by
    rcases h with ⟨k, e, h⟩ | h
    · exact hDc.2 k (q, e) h
    · exact gC_A C0 q (Nat.le_trans hS.1 h)
  refine va_calli (va_runV (As := As) (rest := st) C0.1 (hM H.size) ⟨callB_of n (gC_t C0) (ws_good hm.1) rfl hrc hrs (gC_t C0 _ hm.2.1) (gC_t C0 _ hlink) hm.2.2.2.2 hR, gC_t C0 _ hm.2.2.1, gC_t C0 _ hm.2.2.2.1⟩ ⟨hPre_blind, va_recv (gC_K C0) hPc hci hb0, fun U hU hW => ⟨rfl, by rw [hU], by rw [hU]; exact hPc, va_K.moved hW.alike (hTy5_3 (gC_K C0)), hDc.weaken (fun _ _ _ _ => trivial), hNw_warm hW (gC_n C0)⟩⟩ rfl hn hl.1 hst (lv_room hW) hdg hRc) hS (fun q _ h => hFc q h) hFc (fun r u t H1 locs1 ht hvm hw hB hz1 hk1 hS1 => ?_)
  rw [ht] at hB
  obtain ⟨hP1, hD1⟩ := ll_backP hP hD hf1 hk1 hB
  subst hw
  exact k H1 locs1 ls hP1 hD1 hS1 hl
theorem g_prel (C0 : gC own cc nL ret0 p s m args meth c D (hTy5 cC cI cO cJ cD) A) {y : MethodName} {bytes : ByteArray} {maxL n index : Nat} {ret : Option FieldType} {rm : Room} {P X X1 : va_W} {r0 : Int64} {As : List Value} {st0 : List Value} {b ci N : Nat} {T : u_T} {fs : List Value} (hM : ∀ sz, Met l y (ws_ y bytes maxL ret) rm (va_Pc (.ref b :: As) (hPre D (hTy cC cI cO) X sz)) (hQl D X1 r0 (va_A X sz)) 0 0 (va_A X sz)) (hm : hMV y bytes maxL ret n) (hlink : Cond.methodLink own index y ∈ hAll) (hR : rm.frames + 1 ≤ R.frames ∧ 8 + (maxL + 11) + rm.locals ≤ R.locals) (hRc : kk ≤ R.cells ∧ nn ≤ R.slots) (hrc : rm.cells = 0) (hrs : rm.slots = 0) (e1 : ws = List.append X P) (hf1 : X1.map Prod.fst = X.map Prod.fst) (hn : As.length = n) (q0 : Nat) (hb0 : X[q0]? = some (b, .inr (ci, fs))) (hci : vwCl[ci]? = some (y.cls, T, N)) (hst : st0 = As.reverse ++ .ref b :: st) (hW : (st.map fun v => v.category).sum ≤ 8) (hdg : decode cc pc = .ok (.invokevirtual index, 3)) (k : gG p l e R s m args below meth c D A nL Q kk nn (pc + 3) lv (.long r0 :: st) (List.append X1 P)) : gG p l e R s m args below meth c D A nL Q kk nn pc lv st0 ws := by
  subst e1
  intro H locs ls hP hD hS hl
  have hPc := hl_PL hP
  have hDc := hl_DL hD
  have hFc : ∀ q, va_A X H.size q → A q := fun q h => by
    rcases h with ⟨k, e, h⟩ | h
    · exact hDc.2 k (q, e) h
    · exact gC_A C0 q (Nat.le_trans hS.1 h)
  refine va_calll (va_runV (As := As) (rest := st) C0.1 (hM H.size) ⟨callB_of n (gC_t C0) (ws_good hm.1) rfl hrc hrs (gC_t C0 _ hm.2.1) (gC_t C0 _ hlink) hm.2.2.2.2 hR, gC_t C0 _ hm.2.2.1, gC_t C0 _ hm.2.2.2.1⟩ ⟨hPre_blind, va_recv (gC_K C0) hPc hci hb0, fun U hU hW => ⟨rfl, by rw [hU], by rw [hU]; exact hPc, va_K.moved hW.alike (hTy5_3 (gC_K C0)), hDc.weaken (fun _ _ _ _ => trivial), hNw_warm hW (gC_n C0)⟩⟩ rfl hn hl.1 hst (lv_room hW) hdg hRc) hS (fun q _ h => hFc q h) hFc (fun r u t H1 locs1 ht hvm hw hB hz1 hk1 hS1 => ?_)
  rw [ht] at hB
  obtain ⟨hP1, hD1⟩ := ll_backP hP hD hf1 hk1 hB
  subst hw
  exact k H1 locs1 ls hP1 hD1 hS1 hl
theorem g_pref (C0 : gC own cc nL ret0 p s m args meth c D (hTy5 cC cI cO cJ cD) A) {y : MethodName} {bytes : ByteArray} {maxL n index : Nat} {ret : Option FieldType} {rm : Room} {P X X1 : va_W} {r0 : UInt32} {As : List Value} {st0 : List Value} {b ci N : Nat} {T : u_T} {fs : List Value} (hM : ∀ sz, Met l y (ws_ y bytes maxL ret) rm (va_Pc (.ref b :: As) (hPre D (hTy cC cI cO) X sz)) (hQf D X1 r0 (va_A X sz)) 0 0 (va_A X sz)) (hm : hMV y bytes maxL ret n) (hlink : Cond.methodLink own index y ∈ hAll) (hR : rm.frames + 1 ≤ R.frames ∧ 8 + (maxL + 11) + rm.locals ≤ R.locals) (hRc : kk ≤ R.cells ∧ nn ≤ R.slots) (hrc : rm.cells = 0) (hrs : rm.slots = 0) (e1 : ws = List.append X P) (hf1 : X1.map Prod.fst = X.map Prod.fst) (hn : As.length = n) (q0 : Nat) (hb0 : X[q0]? = some (b, .inr (ci, fs))) (hci : vwCl[ci]? = some (y.cls, T, N)) (hst : st0 = As.reverse ++ .ref b :: st) (hW : (st.map fun v => v.category).sum ≤ 8) (hdg : decode cc pc = .ok (.invokevirtual index, 3)) (k : gG p l e R s m args below meth c D A nL Q kk nn (pc + 3) lv (.float r0 :: st) (List.append X1 P)) : gG p l e R s m args below meth c D A nL Q kk nn pc lv st0 ws := by
  subst e1
  intro H locs ls hP hD hS hl
  have hPc := hl_PL hP
  have hDc := hl_DL hD
  have hFc : ∀ q, va_A X H.size q → A q := fun q h => by
    rcases h with ⟨k, e, h⟩ | h
    · exact hDc.2 k (q, e) h
    · exact gC_A C0 q (Nat.le_trans hS.1 h)
  refine va_callf (va_runV (As := As) (rest := st) C0.1 (hM H.size) ⟨callB_of n (gC_t C0) (ws_good hm.1) rfl hrc hrs (gC_t C0 _ hm.2.1) (gC_t C0 _ hlink) hm.2.2.2.2 hR, gC_t C0 _ hm.2.2.1, gC_t C0 _ hm.2.2.2.1⟩ ⟨hPre_blind, va_recv (gC_K C0) hPc hci hb0, fun U hU hW => ⟨rfl, by rw [hU], by rw [hU]; exact hPc, va_K.moved hW.alike (hTy5_3 (gC_K C0)), hDc.weaken (fun _ _ _ _ => trivial), hNw_warm hW (gC_n C0)⟩⟩ rfl hn hl.1 hst (lv_room hW) hdg hRc) hS (fun q _ h => hFc q h) hFc (fun r u t H1 locs1 ht hvm hw hB hz1 hk1 hS1 => ?_)
  rw [ht] at hB
  obtain ⟨hP1, hD1⟩ := ll_backP hP hD hf1 hk1 hB
  subst hw
  exact k H1 locs1 ls hP1 hD1 hS1 hl
theorem g_pred (C0 : gC own cc nL ret0 p s m args meth c D (hTy5 cC cI cO cJ cD) A) {y : MethodName} {bytes : ByteArray} {maxL n index : Nat} {ret : Option FieldType} {rm : Room} {P X X1 : va_W} {r0 : UInt64} {As : List Value} {st0 : List Value} {b ci N : Nat} {T : u_T} {fs : List Value} (hM : ∀ sz, Met l y (ws_ y bytes maxL ret) rm (va_Pc (.ref b :: As) (hPre D (hTy cC cI cO) X sz)) (hQd D X1 r0 (va_A X sz)) 0 0 (va_A X sz)) (hm : hMV y bytes maxL ret n) (hlink : Cond.methodLink own index y ∈ hAll) (hR : rm.frames + 1 ≤ R.frames ∧ 8 + (maxL + 11) + rm.locals ≤ R.locals) (hRc : kk ≤ R.cells ∧ nn ≤ R.slots) (hrc : rm.cells = 0) (hrs : rm.slots = 0) (e1 : ws = List.append X P) (hf1 : X1.map Prod.fst = X.map Prod.fst) (hn : As.length = n) (q0 : Nat) (hb0 : X[q0]? = some (b, .inr (ci, fs))) (hci : vwCl[ci]? = some (y.cls, T, N)) (hst : st0 = As.reverse ++ .ref b :: st) (hW : (st.map fun v => v.category).sum ≤ 8) (hdg : decode cc pc = .ok (.invokevirtual index, 3)) (k : gG p l e R s m args below meth c D A nL Q kk nn (pc + 3) lv (.double r0 :: st) (List.append X1 P)) : gG p l e R s m args below meth c D A nL Q kk nn pc lv st0 ws := by
  subst e1
  intro H locs ls hP hD hS hl
  have hPc := hl_PL hP
  have hDc := hl_DL hD
  have hFc : ∀ q, va_A X H.size q → A q := fun q h => by
    rcases h with ⟨k, e, h⟩ | h
    · exact hDc.2 k (q, e) h
    · exact gC_A C0 q (Nat.le_trans hS.1 h)
  refine va_calld (va_runV (As := As) (rest := st) C0.1 (hM H.size) ⟨callB_of n (gC_t C0) (ws_good hm.1) rfl hrc hrs (gC_t C0 _ hm.2.1) (gC_t C0 _ hlink) hm.2.2.2.2 hR, gC_t C0 _ hm.2.2.1, gC_t C0 _ hm.2.2.2.1⟩ ⟨hPre_blind, va_recv (gC_K C0) hPc hci hb0, fun U hU hW => ⟨rfl, by rw [hU], by rw [hU]; exact hPc, va_K.moved hW.alike (hTy5_3 (gC_K C0)), hDc.weaken (fun _ _ _ _ => trivial), hNw_warm hW (gC_n C0)⟩⟩ rfl hn hl.1 hst (lv_room hW) hdg hRc) hS (fun q _ h => hFc q h) hFc (fun r u t H1 locs1 ht hvm hw hB hz1 hk1 hS1 => ?_)
  rw [ht] at hB
  obtain ⟨hP1, hD1⟩ := ll_backP hP hD hf1 hk1 hB
  subst hw
  exact k H1 locs1 ls hP1 hD1 hS1 hl
theorem g_hlp {adK adV : Nat → Nat} (C0 : gC own cc nL ret0 p s m args meth c D (hTy5 cC cI cO cJ cD) A) (E0 : hLw adK adV A s) {y : MethodName} {bytes : ByteArray} {maxL n index : Nat} {rm : Room} {hh : List (Nat × Nat × Nat × Nat)} {P X X1 : va_W} {r0 : Int32} {As : List Value} {st0 : List Value} (hM : ∀ sz, Met l y (wsW_ y bytes maxL hh) rm (va_Pc As (hPreE (hLw adK adV) D (hTy5 cC cI cO cJ cD) X sz)) (hQi D X1 r0 (va_A X sz)) 1 6 (va_A X sz)) (hm : hMW y bytes maxL hh n) (hlink : Cond.methodLink own index y ∈ hAll) (hR : rm.frames + 1 ≤ R.frames ∧ 8 + (maxL + 11) + rm.locals ≤ R.locals) (hRc : kk + 1 ≤ R.cells ∧ nn + 6 ≤ R.slots) (hrc : rm.cells = 1) (hrs : rm.slots = 6) (e1 : ws = List.append P X) (hf1 : X1.map Prod.fst = X.map Prod.fst) (hn : As.length = n) (hst : st0 = As.reverse ++ st) (hW : (st.map fun v => v.category).sum ≤ 8) (hdg : decode cc pc = .ok (.invokestatic index, 3)) (k : gG p l e R s m args below meth c D A nL Q (kk + 1) (nn + 6) (pc + 3) lv (.int r0 :: st) (List.append P X1)) : gG p l e R s m args below meth c D A nL Q kk nn pc lv st0 ws := by
  subst e1
  intro H locs ls hP hD hS hl
  have hPc := hl_PR hP
  have hDc := hl_DR hD
  have hFc : ∀ q, va_A X H.size q → A q := fun q h => by
    rcases h with ⟨k, e, h⟩ | h
    · exact hDc.2 k (q, e) h
    · exact gC_A C0 q (Nat.le_trans hS.1 h)
  refine va_calli (vx_runSW (As := As) (rest := st) C0.1 (hM H.size) (vx_cwSW n (gC_t C0) (wsW_good hm hlink) rfl hrc hrs hm.2.2.2 hR) ⟨hPreE_blind (hLw_ok adK adV), fun U hU hW => ⟨rfl, ⟨by rw [hU], by rw [hU]; exact hPc, va_K.moved hW.alike (gC_K C0), hDc.weaken (fun _ _ _ _ => trivial), hNw_warm hW (gC_n C0)⟩, (hLw_ok adK adV).2 A _ s U E0 (by rw [hU]; exact hS.2.1) hW hFc⟩⟩ rfl hn hl.1 hst (lv_room hW) hdg hRc) hS (fun q _ h => hFc q h) hFc (fun r u t H1 locs1 ht hvm hw hB hz1 hk1 hS1 => ?_)
  rw [ht] at hB
  obtain ⟨hP1, hD1⟩ := ll_backS hP hD hf1 hk1 hB
  subst hw
  exact k H1 locs1 ls hP1 hD1 hS1 hl
theorem g_sXi {adK adV : Nat → Nat} (C0 : gC own cc nL ret0 p s m args meth c D (hTy5 cC cI cO cJ cD) A) (E0 : hLw adK adV A s) {y : MethodName} {bytes : ByteArray} {maxL n index : Nat} {ret : Option FieldType} {rm : Room} {P X X1 : va_W} {o : Int32 ⊕ Nat} {As : List Value} {st0 : List Value} {b ci N : Nat} {T : u_T} {fs : List Value} (hM : ∀ sz, vx_Met l y (ws_ y bytes maxL ret) rm (va_Pc (.ref b :: As) (hPreX D (hTy cC cI cO) X sz)) (hXi D X1 o (va_A X sz)) (hXX D X1 o (va_A X sz)) 1 6 (va_A X sz)) (hm : hMV y bytes maxL ret n) (hlink : Cond.methodLink own index y ∈ hAll) (hR : rm.frames + 1 ≤ R.frames ∧ 8 + (maxL + 11) + rm.locals ≤ R.locals) (hRc : kk + 1 ≤ R.cells ∧ nn + 6 ≤ R.slots) (hrc : rm.cells = 1) (hrs : rm.slots = 6) (e1 : ws = List.append P X) (hf1 : X1.map Prod.fst = X.map Prod.fst) (hn : As.length = n) (q0 : Nat) (hb0 : X[q0]? = some (b, .inr (ci, fs))) (hci : vwCl[ci]? = some (y.cls, T, N)) (hst : st0 = As.reverse ++ .ref b :: st) (hW : (st.map fun v => v.category).sum ≤ 8) (hdg : decode cc pc = .ok (.invokevirtual index, 3)) (kx : ∀ k', o = .inr k' → ∃ h, hHd c args s own pc (hExn k') h ∧ ∀ q9, gG p l e R s m args below meth c D A nL Q (kk + 1) (nn + 6) h lv [.ref q9] (List.append P X1)) (k : ∀ r, o = .inl r → gG p l e R s m args below meth c D A nL Q (kk + 1) (nn + 6) (pc + 3) lv (.int r :: st) (List.append P X1)) : gG p l e R s m args below meth c D A nL Q kk nn pc lv st0 ws := by
  subst e1
  intro H locs ls hP hD hS hl
  have hPc := hl_PR hP
  have hDc := hl_DR hD
  have hFc : ∀ q, va_A X H.size q → A q := fun q h => by
    rcases h with ⟨k, e, h⟩ | h
    · exact hDc.2 k (q, e) h
    · exact gC_A C0 q (Nat.le_trans hS.1 h)
  refine vx_calli (vx_runV (As := As) (rest := st) C0.1 (hM H.size) ⟨callB_of n (gC_t C0) (ws_good hm.1) rfl hrc hrs (gC_t C0 _ hm.2.1) (gC_t C0 _ hlink) hm.2.2.2.2 hR, gC_t C0 _ hm.2.2.1, gC_t C0 _ hm.2.2.2.1⟩ ⟨hPreX_blind, va_recv (gC_K C0) hPc hci hb0, fun U hU hW => ⟨rfl, ⟨⟨by rw [hU], by rw [hU]; exact hPc, va_K.moved hW.alike (hTy5_3 (gC_K C0)), hDc.weaken (fun _ _ _ _ => trivial), hNw_warm hW (gC_n C0)⟩, hZ_at E0.1 (by rw [hU]; exact hS.2.1) hW hFc⟩⟩⟩ rfl hn hl.1 hst (lv_room hW) hdg hRc) hS (fun q _ h => hFc q h) hFc (fun q _ h => hFc q h) (fun E ce q9 u t H1 locs1 ht hvm hw hB hz1 hk1 hS1 hc9 hv9 hcl9 => ?_) (fun r u t H1 locs1 ht hvm hw hB hz1 hk1 hS1 => ?_)
  · obtain ⟨k', ho, hE, hB⟩ := hB
    subst hE
    rw [ht] at hB
    obtain ⟨hP1, hD1⟩ := ll_backS hP hD hf1 hk1 hB
    obtain ⟨h, ⟨pre, x, suf, name, g1, g2, g3, g4, g5, g6, g7⟩, kh⟩ := kx k' ho
    refine vx_catch (gC_o C0) pre x suf g1 g2 g3 g4 g5 g6 hc9 hv9 hcl9 ?_
    rw [g7]
    exact kh q9 H1 locs1 ls hP1 hD1 hS1 hl
  · rw [ht] at hB
    obtain ⟨hP1, hD1⟩ := ll_backS hP hD hf1 hk1 hB
    exact k r hw H1 locs1 ls hP1 hD1 hS1 hl
theorem g_sXl {adK adV : Nat → Nat} (C0 : gC own cc nL ret0 p s m args meth c D (hTy5 cC cI cO cJ cD) A) (E0 : hLw adK adV A s) {y : MethodName} {bytes : ByteArray} {maxL n index : Nat} {ret : Option FieldType} {rm : Room} {P X X1 : va_W} {o : Int64 ⊕ Nat} {As : List Value} {st0 : List Value} {b ci N : Nat} {T : u_T} {fs : List Value} (hM : ∀ sz, vx_Met l y (ws_ y bytes maxL ret) rm (va_Pc (.ref b :: As) (hPreX D (hTy cC cI cO) X sz)) (hXl D X1 o (va_A X sz)) (hXX D X1 o (va_A X sz)) 1 6 (va_A X sz)) (hm : hMV y bytes maxL ret n) (hlink : Cond.methodLink own index y ∈ hAll) (hR : rm.frames + 1 ≤ R.frames ∧ 8 + (maxL + 11) + rm.locals ≤ R.locals) (hRc : kk + 1 ≤ R.cells ∧ nn + 6 ≤ R.slots) (hrc : rm.cells = 1) (hrs : rm.slots = 6) (e1 : ws = List.append P X) (hf1 : X1.map Prod.fst = X.map Prod.fst) (hn : As.length = n) (q0 : Nat) (hb0 : X[q0]? = some (b, .inr (ci, fs))) (hci : vwCl[ci]? = some (y.cls, T, N)) (hst : st0 = As.reverse ++ .ref b :: st) (hW : (st.map fun v => v.category).sum ≤ 8) (hdg : decode cc pc = .ok (.invokevirtual index, 3)) (kx : ∀ k', o = .inr k' → ∃ h, hHd c args s own pc (hExn k') h ∧ ∀ q9, gG p l e R s m args below meth c D A nL Q (kk + 1) (nn + 6) h lv [.ref q9] (List.append P X1)) (k : ∀ r, o = .inl r → gG p l e R s m args below meth c D A nL Q (kk + 1) (nn + 6) (pc + 3) lv (.long r :: st) (List.append P X1)) : gG p l e R s m args below meth c D A nL Q kk nn pc lv st0 ws := by
  subst e1
  intro H locs ls hP hD hS hl
  have hPc := hl_PR hP
  have hDc := hl_DR hD
  have hFc : ∀ q, va_A X H.size q → A q := fun q h => by
    rcases h with ⟨k, e, h⟩ | h
    · exact hDc.2 k (q, e) h
    · exact gC_A C0 q (Nat.le_trans hS.1 h)
  refine vx_calll (vx_runV (As := As) (rest := st) C0.1 (hM H.size) ⟨callB_of n (gC_t C0) (ws_good hm.1) rfl hrc hrs (gC_t C0 _ hm.2.1) (gC_t C0 _ hlink) hm.2.2.2.2 hR, gC_t C0 _ hm.2.2.1, gC_t C0 _ hm.2.2.2.1⟩ ⟨hPreX_blind, va_recv (gC_K C0) hPc hci hb0, fun U hU hW => ⟨rfl, ⟨⟨by rw [hU], by rw [hU]; exact hPc, va_K.moved hW.alike (hTy5_3 (gC_K C0)), hDc.weaken (fun _ _ _ _ => trivial), hNw_warm hW (gC_n C0)⟩, hZ_at E0.1 (by rw [hU]; exact hS.2.1) hW hFc⟩⟩⟩ rfl hn hl.1 hst (lv_room hW) hdg hRc) hS (fun q _ h => hFc q h) hFc (fun q _ h => hFc q h) (fun E ce q9 u t H1 locs1 ht hvm hw hB hz1 hk1 hS1 hc9 hv9 hcl9 => ?_) (fun r u t H1 locs1 ht hvm hw hB hz1 hk1 hS1 => ?_)
  · obtain ⟨k', ho, hE, hB⟩ := hB
    subst hE
    rw [ht] at hB
    obtain ⟨hP1, hD1⟩ := ll_backS hP hD hf1 hk1 hB
    obtain ⟨h, ⟨pre, x, suf, name, g1, g2, g3, g4, g5, g6, g7⟩, kh⟩ := kx k' ho
    refine vx_catch (gC_o C0) pre x suf g1 g2 g3 g4 g5 g6 hc9 hv9 hcl9 ?_
    rw [g7]
    exact kh q9 H1 locs1 ls hP1 hD1 hS1 hl
  · rw [ht] at hB
    obtain ⟨hP1, hD1⟩ := ll_backS hP hD hf1 hk1 hB
    exact k r hw H1 locs1 ls hP1 hD1 hS1 hl
theorem g_sXd {adK adV : Nat → Nat} (C0 : gC own cc nL ret0 p s m args meth c D (hTy5 cC cI cO cJ cD) A) (E0 : hLw adK adV A s) {y : MethodName} {bytes : ByteArray} {maxL n index : Nat} {ret : Option FieldType} {rm : Room} {P X X1 : va_W} {o : UInt64 ⊕ Nat} {As : List Value} {st0 : List Value} {b ci N : Nat} {T : u_T} {fs : List Value} (hM : ∀ sz, vx_Met l y (ws_ y bytes maxL ret) rm (va_Pc (.ref b :: As) (hPreX D (hTy cC cI cO) X sz)) (hXd D X1 o (va_A X sz)) (hXX D X1 o (va_A X sz)) 1 6 (va_A X sz)) (hm : hMV y bytes maxL ret n) (hlink : Cond.methodLink own index y ∈ hAll) (hR : rm.frames + 1 ≤ R.frames ∧ 8 + (maxL + 11) + rm.locals ≤ R.locals) (hRc : kk + 1 ≤ R.cells ∧ nn + 6 ≤ R.slots) (hrc : rm.cells = 1) (hrs : rm.slots = 6) (e1 : ws = List.append P X) (hf1 : X1.map Prod.fst = X.map Prod.fst) (hn : As.length = n) (q0 : Nat) (hb0 : X[q0]? = some (b, .inr (ci, fs))) (hci : vwCl[ci]? = some (y.cls, T, N)) (hst : st0 = As.reverse ++ .ref b :: st) (hW : (st.map fun v => v.category).sum ≤ 8) (hdg : decode cc pc = .ok (.invokevirtual index, 3)) (kx : ∀ k', o = .inr k' → ∃ h, hHd c args s own pc (hExn k') h ∧ ∀ q9, gG p l e R s m args below meth c D A nL Q (kk + 1) (nn + 6) h lv [.ref q9] (List.append P X1)) (k : ∀ r, o = .inl r → gG p l e R s m args below meth c D A nL Q (kk + 1) (nn + 6) (pc + 3) lv (.double r :: st) (List.append P X1)) : gG p l e R s m args below meth c D A nL Q kk nn pc lv st0 ws := by
  subst e1
  intro H locs ls hP hD hS hl
  have hPc := hl_PR hP
  have hDc := hl_DR hD
  have hFc : ∀ q, va_A X H.size q → A q := fun q h => by
    rcases h with ⟨k, e, h⟩ | h
    · exact hDc.2 k (q, e) h
    · exact gC_A C0 q (Nat.le_trans hS.1 h)
  refine vx_calld (vx_runV (As := As) (rest := st) C0.1 (hM H.size) ⟨callB_of n (gC_t C0) (ws_good hm.1) rfl hrc hrs (gC_t C0 _ hm.2.1) (gC_t C0 _ hlink) hm.2.2.2.2 hR, gC_t C0 _ hm.2.2.1, gC_t C0 _ hm.2.2.2.1⟩ ⟨hPreX_blind, va_recv (gC_K C0) hPc hci hb0, fun U hU hW => ⟨rfl, ⟨⟨by rw [hU], by rw [hU]; exact hPc, va_K.moved hW.alike (hTy5_3 (gC_K C0)), hDc.weaken (fun _ _ _ _ => trivial), hNw_warm hW (gC_n C0)⟩, hZ_at E0.1 (by rw [hU]; exact hS.2.1) hW hFc⟩⟩⟩ rfl hn hl.1 hst (lv_room hW) hdg hRc) hS (fun q _ h => hFc q h) hFc (fun q _ h => hFc q h) (fun E ce q9 u t H1 locs1 ht hvm hw hB hz1 hk1 hS1 hc9 hv9 hcl9 => ?_) (fun r u t H1 locs1 ht hvm hw hB hz1 hk1 hS1 => ?_)
  · obtain ⟨k', ho, hE, hB⟩ := hB
    subst hE
    rw [ht] at hB
    obtain ⟨hP1, hD1⟩ := ll_backS hP hD hf1 hk1 hB
    obtain ⟨h, ⟨pre, x, suf, name, g1, g2, g3, g4, g5, g6, g7⟩, kh⟩ := kx k' ho
    refine vx_catch (gC_o C0) pre x suf g1 g2 g3 g4 g5 g6 hc9 hv9 hcl9 ?_
    rw [g7]
    exact kh q9 H1 locs1 ls hP1 hD1 hS1 hl
  · rw [ht] at hB
    obtain ⟨hP1, hD1⟩ := ll_backS hP hD hf1 hk1 hB
    exact k r hw H1 locs1 ls hP1 hD1 hS1 hl
theorem g_sXEi {adK adV : Nat → Nat} (C0 : gC own cc nL ret0 p s m args meth c D (hTy5 cC cI cO cJ cD) A) (E0 : hLw adK adV A s) {y : MethodName} {bytes : ByteArray} {maxL n index : Nat} {ret : Option FieldType} {rm : Room} {P X X1 : va_W} {o : Int32 ⊕ Nat} {As : List Value} {st0 : List Value} {b ci N : Nat} {T : u_T} {fs : List Value} (hM : ∀ sz, vx_Met l y (ws_ y bytes maxL ret) rm (va_Pc (.ref b :: As) (hPreXE adK adV D (hTy cC cI cO) X sz)) (hXi D X1 o (va_A X sz)) (hXX D X1 o (va_A X sz)) 1 6 (va_A X sz)) (hm : hMV y bytes maxL ret n) (hlink : Cond.methodLink own index y ∈ hAll) (hR : rm.frames + 1 ≤ R.frames ∧ 8 + (maxL + 11) + rm.locals ≤ R.locals) (hRc : kk + 1 ≤ R.cells ∧ nn + 6 ≤ R.slots) (hrc : rm.cells = 1) (hrs : rm.slots = 6) (e1 : ws = List.append P X) (hf1 : X1.map Prod.fst = X.map Prod.fst) (hn : As.length = n) (q0 : Nat) (hb0 : X[q0]? = some (b, .inr (ci, fs))) (hci : vwCl[ci]? = some (y.cls, T, N)) (hst : st0 = As.reverse ++ .ref b :: st) (hW : (st.map fun v => v.category).sum ≤ 8) (hdg : decode cc pc = .ok (.invokevirtual index, 3)) (kx : ∀ k', o = .inr k' → ∃ h, hHd c args s own pc (hExn k') h ∧ ∀ q9, gG p l e R s m args below meth c D A nL Q (kk + 1) (nn + 6) h lv [.ref q9] (List.append P X1)) (k : ∀ r, o = .inl r → gG p l e R s m args below meth c D A nL Q (kk + 1) (nn + 6) (pc + 3) lv (.int r :: st) (List.append P X1)) : gG p l e R s m args below meth c D A nL Q kk nn pc lv st0 ws := by
  subst e1
  intro H locs ls hP hD hS hl
  have hPc := hl_PR hP
  have hDc := hl_DR hD
  have hFc : ∀ q, va_A X H.size q → A q := fun q h => by
    rcases h with ⟨k, e, h⟩ | h
    · exact hDc.2 k (q, e) h
    · exact gC_A C0 q (Nat.le_trans hS.1 h)
  refine vx_calli (vx_runV (As := As) (rest := st) C0.1 (hM H.size) ⟨callB_of n (gC_t C0) (ws_good hm.1) rfl hrc hrs (gC_t C0 _ hm.2.1) (gC_t C0 _ hlink) hm.2.2.2.2 hR, gC_t C0 _ hm.2.2.1, gC_t C0 _ hm.2.2.2.1⟩ ⟨hPreXE_blind, va_recv (gC_K C0) hPc hci hb0, fun U hU hW => ⟨rfl, ⟨⟨⟨by rw [hU], by rw [hU]; exact hPc, va_K.moved hW.alike (hTy5_3 (gC_K C0)), hDc.weaken (fun _ _ _ _ => trivial), hNw_warm hW (gC_n C0)⟩, hZ_at E0.1 (by rw [hU]; exact hS.2.1) hW hFc⟩, (hSt_ok adK adV).2 A _ s U E0.2.1 (by rw [hU]; exact hS.2.1) hW hFc⟩⟩⟩ rfl hn hl.1 hst (lv_room hW) hdg hRc) hS (fun q _ h => hFc q h) hFc (fun q _ h => hFc q h) (fun E ce q9 u t H1 locs1 ht hvm hw hB hz1 hk1 hS1 hc9 hv9 hcl9 => ?_) (fun r u t H1 locs1 ht hvm hw hB hz1 hk1 hS1 => ?_)
  · obtain ⟨k', ho, hE, hB⟩ := hB
    subst hE
    rw [ht] at hB
    obtain ⟨hP1, hD1⟩ := ll_backS hP hD hf1 hk1 hB
    obtain ⟨h, ⟨pre, x, suf, name, g1, g2, g3, g4, g5, g6, g7⟩, kh⟩ := kx k' ho
    refine vx_catch (gC_o C0) pre x suf g1 g2 g3 g4 g5 g6 hc9 hv9 hcl9 ?_
    rw [g7]
    exact kh q9 H1 locs1 ls hP1 hD1 hS1 hl
  · rw [ht] at hB
    obtain ⟨hP1, hD1⟩ := ll_backS hP hD hf1 hk1 hB
    exact k r hw H1 locs1 ls hP1 hD1 hS1 hl
theorem g_last (C0 : gC own cc nL ret0 p s m args meth c D (hTy5 cC cI cO cJ cD) A) {a n : Nat} {f : Nat → Int64} {x : Int64} (q0 : Nat) (ha : ws[q0]? = some (a, .inl (cJ, 1, .inr (.inl f)))) (hdg : decode cc pc = .ok (.lastore, 1)) (hws : ws.set q0 (a, .inl (cJ, 1, .inr (.inl (vp_updL f 0 x)))) = ws') (k : gG p l e R s m args below meth c D A nL Q kk nn (pc + 1) lv st ws') : gG p l e R s m args below meth c D A nL Q kk nn pc lv (.long x :: .int 0 :: .ref a :: st) ws := fun H locs ls hP hD hS hl => va_last (gC_x C0) (gC_b C0) (gC_K C0) hP hD hS q0 3 ha rfl (hl_inP (n := 1) (by decide)) hdg (fun H1 locs1 hP1 hD1 hS1 => by
  have e0 : (0 : Int32).toNatClampNeg = 0 := by decide
  rw [e0, hws] at hP1 hD1
  exact k H1 locs1 ls hP1 hD1 hS1 hl)
theorem g_dast (C0 : gC own cc nL ret0 p s m args meth c D (hTy5 cC cI cO cJ cD) A) {a n : Nat} {f : Nat → UInt64} {x : UInt64} (q0 : Nat) (ha : ws[q0]? = some (a, .inl (cD, 1, .inr (.inr (.inr (.inl f)))))) (hdg : decode cc pc = .ok (.dastore, 1)) (hws : ws.set q0 (a, .inl (cD, 1, .inr (.inr (.inr (.inl (vf_upd f 0 x)))))) = ws') (k : gG p l e R s m args below meth c D A nL Q kk nn (pc + 1) lv st ws') : gG p l e R s m args below meth c D A nL Q kk nn pc lv (.double x :: .int 0 :: .ref a :: st) ws := fun H locs ls hP hD hS hl => va_dast (gC_x C0) (gC_b C0) (gC_K C0) hP hD hS q0 4 ha rfl (hl_inP (n := 1) (by decide)) hdg (fun H1 locs1 hP1 hD1 hS1 => by
  have e0 : (0 : Int32).toNatClampNeg = 0 := by decide
  rw [e0, hws] at hP1 hD1
  exact k H1 locs1 ls hP1 hD1 hS1 hl)
theorem g_lald (C0 : gC own cc nL ret0 p s m args meth c D (hTy5 cC cI cO cJ cD) A) {a n : Nat} {f : Nat → Int64} (q0 : Nat) (ha : ws[q0]? = some (a, .inl (cJ, 1, .inr (.inl f)))) (hdg : decode cc pc = .ok (.laload, 1)) (k : gG p l e R s m args below meth c D A nL Q kk nn (pc + 1) lv (.long (f 0) :: st) ws) : gG p l e R s m args below meth c D A nL Q kk nn pc lv (.int 0 :: .ref a :: st) ws := fun H locs ls hP hD hS hl => va_lald (gC_x C0) (gC_b C0) (gC_K C0) hP q0 3 ha rfl (hl_inP (n := 1) (by decide)) hdg (by
  have e0 : (0 : Int32).toNatClampNeg = 0 := by decide
  rw [e0]
  exact k H locs ls hP hD hS hl)
theorem g_dald (C0 : gC own cc nL ret0 p s m args meth c D (hTy5 cC cI cO cJ cD) A) {a n : Nat} {f : Nat → UInt64} (q0 : Nat) (ha : ws[q0]? = some (a, .inl (cD, 1, .inr (.inr (.inr (.inl f)))))) (hdg : decode cc pc = .ok (.daload, 1)) (k : gG p l e R s m args below meth c D A nL Q kk nn (pc + 1) lv (.double (f 0) :: st) ws) : gG p l e R s m args below meth c D A nL Q kk nn pc lv (.int 0 :: .ref a :: st) ws := fun H locs ls hP hD hS hl => va_dald (gC_x C0) (gC_b C0) (gC_K C0) hP q0 4 ha rfl (hl_inP (n := 1) (by decide)) hdg (by
  have e0 : (0 : Int32).toNatClampNeg = 0 := by decide
  rw [e0]
  exact k H locs ls hP hD hS hl)
end LK
theorem g_metH {l : Launch} {D : va_G} {adK adV : Nat → Nat} {tys : List (ClassId × FieldType)} {y : MethodName} {bytes : ByteArray} {maxL : Nat} {rm : Room} {hh : List (Nat × Nat × Nat × Nat)} {av : List Value} {wc : va_W} {lv0 : List (Nat × Value)} {Qf : (Nat → Prop) → Array Value → State → Outcome → State → Prop} {mc ms : Nat}
    (hy : plainFor y = true) (hlen : (lg_sl av).length ≤ maxL) (hlv : lv_args 0 av = lv0)
    (body : ∀ {p : Program} {e : Env} {s : State} {m : MethodId} {args : Array Value} {below : List Frame} {meth : Method} {c : Code} {A : Nat → Prop}, gC y.cls bytes maxL (some .int) p s m args meth c D tys A → hLw adK adV A s → c.exceptionTable.toList = tableOf hh → gG p l e rm s m args below meth c D A maxL (MQ below (Qf A) args s mc ms A) 0 0 0 lv0 [] wc) :
    ∀ sz, Met l y (wsW_ y bytes maxL hh) rm (va_Pc av (hPreE (hLw adK adV) D tys wc sz)) (Qf (va_A wc sz)) mc ms (va_A wc sz) := by
  intro sz
  refine MetFree.of_bodySF (code := bytes) (maxLocals := maxL) (ret := some .int) hy ?_ ?_
  · intro args s m h hn
    obtain ⟨m9, meth, c, hn9, h1, h2, h3, h4, -, h5, h6, -⟩ := Cond.codeWith_spec (atoms_spec (ws := wsW_ y bytes maxL hh) h _ List.mem_cons_self)
    cases hn.symm.trans hn9
    exact ⟨meth, c, h1, h2, h3, h4, h5, h6⟩
  · intro p e s m args below meth c s₁ B hml hv _
    have hh0 : s₁.heap = s.heap := by rw [B.state]; rfl
    have hT : c.exceptionTable.toList = tableOf hh := vx_table (x := y) B (atoms_spec (ws := wsW_ y bytes maxL hh) B.pre _ List.mem_cons_self)
    obtain ⟨rfl, ⟨hsz, hP, hK, hD0, hN⟩, hE0⟩ := hv
    subst hsz
    have hts := atoms_spec (ws := wsW_ y bytes maxL hh) B.pre
    have hown := findClass_of_methodNamed B.named
    have hD := hD0.self (sz := s.heap.size)
    have C0 : gC y.cls bytes maxL (some .int) p s m av.toArray meth c D tys (va_A wc s.heap.size) := ⟨⟨B.exec, B.bytes, hml, hown, fun w h => hts w (List.mem_cons_of_mem _ h)⟩, hK, fun q h => Or.inr h, B.returns, B.notSynchronized, hN⟩
    have hl := lv_entry av (n := maxL) hlen
    rw [hlv] at hl
    have K := body (e := e) (below := below) C0 hE0 hT s.heap [] _ hP hD va_S.rf hl
    rw [← lg_entry_eq] at K
    obtain ⟨t, a1, o, b1, b2, b3⟩ := K s₁ hh0 (Stand.of_body B)
    exact ⟨t, o, a1, b1, b2, ⟨b3.1, b3.2⟩⟩
