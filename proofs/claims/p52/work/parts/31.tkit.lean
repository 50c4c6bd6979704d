/-! calls of methods that want more of the machine than their world: a side condition E -/
def hEok (E : (Nat → Prop) → State → Prop) : Prop := (∀ (A : Nat → Prop) (U : State) (g : JFrame) (mk : MethodId) (a : Array Value), E A U → E A (U.calling g mk a)) ∧ ∀ (A A' : Nat → Prop) (s U : State), E A s → (∀ a : Nat, a < s.heap.size → ¬ A a → U.heap[a]? = s.heap[a]?) → s.WarmedH U.vm → (∀ q, A' q → A q) → E A' U
def hPreE (E : (Nat → Prop) → State → Prop) (D : va_G) (tys : List (ClassId × FieldType)) (wc : va_W) (sz : Nat) : State → Prop := fun U => hPre D tys wc sz U ∧ E (va_A wc sz) U
theorem hPreE_blind {E : (Nat → Prop) → State → Prop} (hE : hEok E) {D : va_G} {tys : List (ClassId × FieldType)} {wc : va_W} {sz : Nat} {av : List Value} : FrameBlind (va_Pc av (hPreE E D tys wc sz)) := fun a U g mk q => by
  obtain ⟨q0, q1, q2⟩ := q
  obtain ⟨z0, z1⟩ := (hPre_blind (av := av) (D := D) (tys := tys) (wc := wc) (sz := sz)) a U g mk ⟨q0, q1⟩
  exact ⟨z0, z1, hE.1 _ _ _ _ _ q2⟩
section GE
variable {p : Program} {l : Launch} {e : Env} {R : Room} {s : State} {m : MethodId} {args : Array Value} {below : List Frame} {meth : Method} {c : Code} {D : va_G} {tys : List (ClassId × FieldType)} {A : Nat → Prop} {own : String} {cc : ByteArray} {nL : Nat} {ret0 : Option FieldType} {Q : State → Prop} {pc : Nat} {lv lv' : List (Nat × Value)} {st : List Value} {ws ws' : va_W} {kk nn : Nat} {E : (Nat → Prop) → State → Prop}
theorem g_callEVi (C0 : gC own cc nL ret0 p s m args meth c D tys A) (hE : hEok E) (E0 : E A s) {y : MethodName} {bytes : ByteArray} {maxL n index : Nat} {ret : Option FieldType} {rm : Room} {wc w1 : va_W} {r0 : Int32} {As : List Value} {st0 : List Value} {b ci N : Nat} {T : u_T} {fs : List Value} (hM : ∀ sz, Met l y (ws_ y bytes maxL ret) rm (va_Pc (.ref b :: As) (hPreE E D tys wc sz)) (hQi D w1 r0 (va_A wc sz)) 0 0 (va_A wc sz)) (hm : hMV y bytes maxL ret n) (hlink : Cond.methodLink own index y ∈ hAll) (hR : rm.frames + 1 ≤ R.frames ∧ 8 + (maxL + 11) + rm.locals ≤ R.locals) (hRc : kk ≤ R.cells ∧ nn ≤ R.slots) (hrc : rm.cells = 0) (hrs : rm.slots = 0) (isC : List Nat) (hC : isC.map (fun i => ws[i]?) = wc.map some) (hnd : va_nd isC = true) (hf1 : w1.map Prod.fst = wc.map Prod.fst) (hws : hl_repl ws isC w1 = ws') (hn : As.length = n) (q0 : Nat) (hb0 : wc[q0]? = some (b, .inr (ci, fs))) (hci : vwCl[ci]? = some (y.cls, T, N)) (hst : st0 = As.reverse ++ .ref b :: st) (hW : (st.map fun v => v.category).sum ≤ 8) (hdg : decode cc pc = .ok (.invokevirtual index, 3)) (k : gG p l e R s m args below meth c D A nL Q kk nn (pc + 3) lv (.int r0 :: st) ws') : gG p l e R s m args below meth c D A nL Q kk nn pc lv st0 ws := by
  intro H locs ls hP hD hS hl
  have hPc := hl_Psub hP isC hC
  have hDc := hD.sub isC hnd hC
  have hFc := va_free hD hS (gC_A C0) isC hC
  refine va_calli (va_runV (As := As) (rest := st) C0.1 (hM H.size) ⟨callB_of n (gC_t C0) (ws_good hm.1) rfl hrc hrs (gC_t C0 _ hm.2.1) (gC_t C0 _ hlink) hm.2.2.2.2 hR, gC_t C0 _ hm.2.2.1, gC_t C0 _ hm.2.2.2.1⟩ ⟨hPreE_blind hE, va_recv (gC_K C0) hPc hci hb0, fun U hU hW => ⟨rfl, ⟨by rw [hU], by rw [hU]; exact hPc, va_K.moved hW.alike (gC_K C0), hDc.weaken (fun _ _ _ _ => trivial), hNw_warm hW (gC_n C0)⟩, hE.2 A _ s U E0 (by rw [hU]; exact hS.2.1) hW hFc⟩⟩ rfl hn hl.1 hst (lv_room hW) hdg hRc) hS (fun q _ h => hFc q h) hFc (fun r u t H1 locs1 ht hvm hw hB hz1 hk1 hS1 => ?_)
  rw [ht] at hB
  obtain ⟨hP1, hD1⟩ := hl_back hP hD isC hC hf1 hk1 hB
  rw [hws] at hP1 hD1
  subst hw
  exact k H1 locs1 ls hP1 hD1 hS1 hl
theorem g_callECi (C0 : gC own cc nL ret0 p s m args meth c D tys A) (hE : hEok E) (E0 : E A s) {y : MethodName} {bytes : ByteArray} {maxL n index : Nat} {ret : Option FieldType} {rm : Room} {wc w1 : va_W} {r0 : Int32} {As : List Value} {st0 : List Value} {b : Nat} (hM : ∀ sz, Met l y (ws_ y bytes maxL ret) rm (va_Pc (.ref b :: As) (hPreE E D tys wc sz)) (hQi D w1 r0 (va_A wc sz)) 0 0 (va_A wc sz)) (hm : hMV y bytes maxL ret n) (hlink : Cond.methodLink own index y ∈ hAll) (hR : rm.frames + 1 ≤ R.frames ∧ 8 + (maxL + 11) + rm.locals ≤ R.locals) (hRc : kk ≤ R.cells ∧ nn ≤ R.slots) (hrc : rm.cells = 0) (hrs : rm.slots = 0) (isC : List Nat) (hC : isC.map (fun i => ws[i]?) = wc.map some) (hnd : va_nd isC = true) (hf1 : w1.map Prod.fst = wc.map Prod.fst) (hws : hl_repl ws isC w1 = ws') (hn : As.length = n) (hrv : ∀ {H : Heap} {locs : List Loc}, va_S A s.heap H locs → ∃ cellB : Cell, H[b]? = some cellB ∧ cellB.vm.isStatics = false ∧ s.vm.findClass y.cls = some cellB.cls) (hst : st0 = As.reverse ++ .ref b :: st) (hW : (st.map fun v => v.category).sum ≤ 8) (hdg : decode cc pc = .ok (.invokevirtual index, 3)) (k : gG p l e R s m args below meth c D A nL Q kk nn (pc + 3) lv (.int r0 :: st) ws') : gG p l e R s m args below meth c D A nL Q kk nn pc lv st0 ws := by
  intro H locs ls hP hD hS hl
  have hPc := hl_Psub hP isC hC
  have hDc := hD.sub isC hnd hC
  have hFc := va_free hD hS (gC_A C0) isC hC
  refine va_calli (va_runV (As := As) (rest := st) C0.1 (hM H.size) ⟨callB_of n (gC_t C0) (ws_good hm.1) rfl hrc hrs (gC_t C0 _ hm.2.1) (gC_t C0 _ hlink) hm.2.2.2.2 hR, gC_t C0 _ hm.2.2.1, gC_t C0 _ hm.2.2.2.1⟩ ⟨hPreE_blind hE, hrv hS, fun U hU hW => ⟨rfl, ⟨by rw [hU], by rw [hU]; exact hPc, va_K.moved hW.alike (gC_K C0), hDc.weaken (fun _ _ _ _ => trivial), hNw_warm hW (gC_n C0)⟩, hE.2 A _ s U E0 (by rw [hU]; exact hS.2.1) hW hFc⟩⟩ rfl hn hl.1 hst (lv_room hW) hdg hRc) hS (fun q _ h => hFc q h) hFc (fun r u t H1 locs1 ht hvm hw hB hz1 hk1 hS1 => ?_)
  rw [ht] at hB
  obtain ⟨hP1, hD1⟩ := hl_back hP hD isC hC hf1 hk1 hB
  rw [hws] at hP1 hD1
  subst hw
  exact k H1 locs1 ls hP1 hD1 hS1 hl
theorem g_callEVv (C0 : gC own cc nL ret0 p s m args meth c D tys A) (hE : hEok E) (E0 : E A s) {y : MethodName} {bytes : ByteArray} {maxL n index : Nat} {ret : Option FieldType} {rm : Room} {wc w1 : va_W} {As : List Value} {st0 : List Value} {b ci N : Nat} {T : u_T} {fs : List Value} (hM : ∀ sz, Met l y (ws_ y bytes maxL ret) rm (va_Pc (.ref b :: As) (hPreE E D tys wc sz)) (hQv D w1 (va_A wc sz)) 0 0 (va_A wc sz)) (hm : hMV y bytes maxL ret n) (hlink : Cond.methodLink own index y ∈ hAll) (hR : rm.frames + 1 ≤ R.frames ∧ 8 + (maxL + 11) + rm.locals ≤ R.locals) (hRc : kk ≤ R.cells ∧ nn ≤ R.slots) (hrc : rm.cells = 0) (hrs : rm.slots = 0) (isC : List Nat) (hC : isC.map (fun i => ws[i]?) = wc.map some) (hnd : va_nd isC = true) (hf1 : w1.map Prod.fst = wc.map Prod.fst) (hws : hl_repl ws isC w1 = ws') (hn : As.length = n) (q0 : Nat) (hb0 : wc[q0]? = some (b, .inr (ci, fs))) (hci : vwCl[ci]? = some (y.cls, T, N)) (hst : st0 = As.reverse ++ .ref b :: st) (hW : (st.map fun v => v.category).sum ≤ 8) (hdg : decode cc pc = .ok (.invokevirtual index, 3)) (k : gG p l e R s m args below meth c D A nL Q kk nn (pc + 3) lv (st) ws') : gG p l e R s m args below meth c D A nL Q kk nn pc lv st0 ws := by
  intro H locs ls hP hD hS hl
  have hPc := hl_Psub hP isC hC
  have hDc := hD.sub isC hnd hC
  have hFc := va_free hD hS (gC_A C0) isC hC
  refine va_callv (va_runV (As := As) (rest := st) C0.1 (hM H.size) ⟨callB_of n (gC_t C0) (ws_good hm.1) rfl hrc hrs (gC_t C0 _ hm.2.1) (gC_t C0 _ hlink) hm.2.2.2.2 hR, gC_t C0 _ hm.2.2.1, gC_t C0 _ hm.2.2.2.1⟩ ⟨hPreE_blind hE, va_recv (gC_K C0) hPc hci hb0, fun U hU hW => ⟨rfl, ⟨by rw [hU], by rw [hU]; exact hPc, va_K.moved hW.alike (gC_K C0), hDc.weaken (fun _ _ _ _ => trivial), hNw_warm hW (gC_n C0)⟩, hE.2 A _ s U E0 (by rw [hU]; exact hS.2.1) hW hFc⟩⟩ rfl hn hl.1 hst (lv_room hW) hdg hRc) hS (fun q _ h => hFc q h) hFc (fun u t H1 locs1 ht hvm hw hB hz1 hk1 hS1 => ?_)
  rw [ht] at hB
  obtain ⟨hP1, hD1⟩ := hl_back hP hD isC hC hf1 hk1 hB
  rw [hws] at hP1 hD1
  exact k H1 locs1 ls hP1 hD1 hS1 hl
theorem g_callEVq (C0 : gC own cc nL ret0 p s m args meth c D tys A) (hE : hEok E) (E0 : E A s) {y : MethodName} {bytes : ByteArray} {maxL n index : Nat} {ret : Option FieldType} {rm : Room} {wc w1 : va_W} {r0 : Option Nat} {As : List Value} {st0 : List Value} {b ci N : Nat} {T : u_T} {fs : List Value} (hM : ∀ sz, Met l y (ws_ y bytes maxL ret) rm (va_Pc (.ref b :: As) (hPreE E D tys wc sz)) (hQq D w1 r0 (va_A wc sz)) 0 0 (va_A wc sz)) (hm : hMV y bytes maxL ret n) (hlink : Cond.methodLink own index y ∈ hAll) (hR : rm.frames + 1 ≤ R.frames ∧ 8 + (maxL + 11) + rm.locals ≤ R.locals) (hRc : kk ≤ R.cells ∧ nn ≤ R.slots) (hrc : rm.cells = 0) (hrs : rm.slots = 0) (isC : List Nat) (hC : isC.map (fun i => ws[i]?) = wc.map some) (hnd : va_nd isC = true) (hf1 : w1.map Prod.fst = wc.map Prod.fst) (hws : hl_repl ws isC w1 = ws') (hn : As.length = n) (q0 : Nat) (hb0 : wc[q0]? = some (b, .inr (ci, fs))) (hci : vwCl[ci]? = some (y.cls, T, N)) (hst : st0 = As.reverse ++ .ref b :: st) (hW : (st.map fun v => v.category).sum ≤ 8) (hdg : decode cc pc = .ok (.invokevirtual index, 3)) (k : gG p l e R s m args below meth c D A nL Q kk nn (pc + 3) lv (va_rf r0 :: st) ws') : gG p l e R s m args below meth c D A nL Q kk nn pc lv st0 ws := by
  intro H locs ls hP hD hS hl
  have hPc := hl_Psub hP isC hC
  have hDc := hD.sub isC hnd hC
  have hFc := va_free hD hS (gC_A C0) isC hC
  refine va_callq (va_runV (As := As) (rest := st) C0.1 (hM H.size) ⟨callB_of n (gC_t C0) (ws_good hm.1) rfl hrc hrs (gC_t C0 _ hm.2.1) (gC_t C0 _ hlink) hm.2.2.2.2 hR, gC_t C0 _ hm.2.2.1, gC_t C0 _ hm.2.2.2.1⟩ ⟨hPreE_blind hE, va_recv (gC_K C0) hPc hci hb0, fun U hU hW => ⟨rfl, ⟨by rw [hU], by rw [hU]; exact hPc, va_K.moved hW.alike (gC_K C0), hDc.weaken (fun _ _ _ _ => trivial), hNw_warm hW (gC_n C0)⟩, hE.2 A _ s U E0 (by rw [hU]; exact hS.2.1) hW hFc⟩⟩ rfl hn hl.1 hst (lv_room hW) hdg hRc) hS (fun q _ h => hFc q h) hFc (fun r u t H1 locs1 ht hvm hw hB hz1 hk1 hS1 => ?_)
  rw [ht] at hB
  obtain ⟨hP1, hD1⟩ := hl_back hP hD isC hC hf1 hk1 hB
  rw [hws] at hP1 hD1
  subst hw
  exact k H1 locs1 ls hP1 hD1 hS1 hl
theorem g_callESi (C0 : gC own cc nL ret0 p s m args meth c D tys A) (hE : hEok E) (E0 : E A s) {y : MethodName} {bytes : ByteArray} {maxL n index : Nat} {ret : Option FieldType} {rm : Room} {wc w1 : va_W} {r0 : Int32} {As : List Value} {st0 : List Value} (hM : ∀ sz, Met l y (ws_ y bytes maxL ret) rm (va_Pc As (hPreE E D tys wc sz)) (hQi D w1 r0 (va_A wc sz)) 0 0 (va_A wc sz)) (hm : hMS y bytes maxL ret n) (hlink : Cond.methodLink own index y ∈ hAll) (hR : rm.frames + 1 ≤ R.frames ∧ 8 + (maxL + 11) + rm.locals ≤ R.locals) (hRc : kk ≤ R.cells ∧ nn ≤ R.slots) (hrc : rm.cells = 0) (hrs : rm.slots = 0) (isC : List Nat) (hC : isC.map (fun i => ws[i]?) = wc.map some) (hnd : va_nd isC = true) (hf1 : w1.map Prod.fst = wc.map Prod.fst) (hws : hl_repl ws isC w1 = ws') (hn : As.length = n) (hst : st0 = As.reverse ++ st) (hW : (st.map fun v => v.category).sum ≤ 8) (hdg : decode cc pc = .ok (.invokestatic index, 3)) (k : gG p l e R s m args below meth c D A nL Q kk nn (pc + 3) lv (.int r0 :: st) ws') : gG p l e R s m args below meth c D A nL Q kk nn pc lv st0 ws := by
  intro H locs ls hP hD hS hl
  have hPc := hl_Psub hP isC hC
  have hDc := hD.sub isC hnd hC
  have hFc := va_free hD hS (gC_A C0) isC hC
  refine va_calli (va_runS (As := As) (rest := st) C0.1 (hM H.size) ⟨callB_of n (gC_t C0) (ws_good hm.1) rfl hrc hrs (gC_t C0 _ hm.2.1) (gC_t C0 _ hlink) hm.2.2.2 hR, gC_t C0 _ hm.2.2.1⟩ ⟨hPreE_blind hE, fun U hU hW => ⟨rfl, ⟨by rw [hU], by rw [hU]; exact hPc, va_K.moved hW.alike (gC_K C0), hDc.weaken (fun _ _ _ _ => trivial), hNw_warm hW (gC_n C0)⟩, hE.2 A _ s U E0 (by rw [hU]; exact hS.2.1) hW hFc⟩⟩ rfl hn hl.1 hst (lv_room hW) hdg hRc) hS (fun q _ h => hFc q h) hFc (fun r u t H1 locs1 ht hvm hw hB hz1 hk1 hS1 => ?_)
  rw [ht] at hB
  obtain ⟨hP1, hD1⟩ := hl_back hP hD isC hC hf1 hk1 hB
  rw [hws] at hP1 hD1
  subst hw
  exact k H1 locs1 ls hP1 hD1 hS1 hl
theorem g_callESv (C0 : gC own cc nL ret0 p s m args meth c D tys A) (hE : hEok E) (E0 : E A s) {y : MethodName} {bytes : ByteArray} {maxL n index : Nat} {ret : Option FieldType} {rm : Room} {wc w1 : va_W} {As : List Value} {st0 : List Value} (hM : ∀ sz, Met l y (ws_ y bytes maxL ret) rm (va_Pc As (hPreE E D tys wc sz)) (hQv D w1 (va_A wc sz)) 0 0 (va_A wc sz)) (hm : hMS y bytes maxL ret n) (hlink : Cond.methodLink own index y ∈ hAll) (hR : rm.frames + 1 ≤ R.frames ∧ 8 + (maxL + 11) + rm.locals ≤ R.locals) (hRc : kk ≤ R.cells ∧ nn ≤ R.slots) (hrc : rm.cells = 0) (hrs : rm.slots = 0) (isC : List Nat) (hC : isC.map (fun i => ws[i]?) = wc.map some) (hnd : va_nd isC = true) (hf1 : w1.map Prod.fst = wc.map Prod.fst) (hws : hl_repl ws isC w1 = ws') (hn : As.length = n) (hst : st0 = As.reverse ++ st) (hW : (st.map fun v => v.category).sum ≤ 8) (hdg : decode cc pc = .ok (.invokestatic index, 3)) (k : gG p l e R s m args below meth c D A nL Q kk nn (pc + 3) lv (st) ws') : gG p l e R s m args below meth c D A nL Q kk nn pc lv st0 ws := by
  intro H locs ls hP hD hS hl
  have hPc := hl_Psub hP isC hC
  have hDc := hD.sub isC hnd hC
  have hFc := va_free hD hS (gC_A C0) isC hC
  refine va_callv (va_runS (As := As) (rest := st) C0.1 (hM H.size) ⟨callB_of n (gC_t C0) (ws_good hm.1) rfl hrc hrs (gC_t C0 _ hm.2.1) (gC_t C0 _ hlink) hm.2.2.2 hR, gC_t C0 _ hm.2.2.1⟩ ⟨hPreE_blind hE, fun U hU hW => ⟨rfl, ⟨by rw [hU], by rw [hU]; exact hPc, va_K.moved hW.alike (gC_K C0), hDc.weaken (fun _ _ _ _ => trivial), hNw_warm hW (gC_n C0)⟩, hE.2 A _ s U E0 (by rw [hU]; exact hS.2.1) hW hFc⟩⟩ rfl hn hl.1 hst (lv_room hW) hdg hRc) hS (fun q _ h => hFc q h) hFc (fun u t H1 locs1 ht hvm hw hB hz1 hk1 hS1 => ?_)
  rw [ht] at hB
  obtain ⟨hP1, hD1⟩ := hl_back hP hD isC hC hf1 hk1 hB
  rw [hws] at hP1 hD1
  exact k H1 locs1 ls hP1 hD1 hS1 hl
theorem g_callESq (C0 : gC own cc nL ret0 p s m args meth c D tys A) (hE : hEok E) (E0 : E A s) {y : MethodName} {bytes : ByteArray} {maxL n index : Nat} {ret : Option FieldType} {rm : Room} {wc w1 : va_W} {r0 : Option Nat} {As : List Value} {st0 : List Value} (hM : ∀ sz, Met l y (ws_ y bytes maxL ret) rm (va_Pc As (hPreE E D tys wc sz)) (hQq D w1 r0 (va_A wc sz)) 0 0 (va_A wc sz)) (hm : hMS y bytes maxL ret n) (hlink : Cond.methodLink own index y ∈ hAll) (hR : rm.frames + 1 ≤ R.frames ∧ 8 + (maxL + 11) + rm.locals ≤ R.locals) (hRc : kk ≤ R.cells ∧ nn ≤ R.slots) (hrc : rm.cells = 0) (hrs : rm.slots = 0) (isC : List Nat) (hC : isC.map (fun i => ws[i]?) = wc.map some) (hnd : va_nd isC = true) (hf1 : w1.map Prod.fst = wc.map Prod.fst) (hws : hl_repl ws isC w1 = ws') (hn : As.length = n) (hst : st0 = As.reverse ++ st) (hW : (st.map fun v => v.category).sum ≤ 8) (hdg : decode cc pc = .ok (.invokestatic index, 3)) (k : gG p l e R s m args below meth c D A nL Q kk nn (pc + 3) lv (va_rf r0 :: st) ws') : gG p l e R s m args below meth c D A nL Q kk nn pc lv st0 ws := by
  intro H locs ls hP hD hS hl
  have hPc := hl_Psub hP isC hC
  have hDc := hD.sub isC hnd hC
  have hFc := va_free hD hS (gC_A C0) isC hC
  refine va_callq (va_runS (As := As) (rest := st) C0.1 (hM H.size) ⟨callB_of n (gC_t C0) (ws_good hm.1) rfl hrc hrs (gC_t C0 _ hm.2.1) (gC_t C0 _ hlink) hm.2.2.2 hR, gC_t C0 _ hm.2.2.1⟩ ⟨hPreE_blind hE, fun U hU hW => ⟨rfl, ⟨by rw [hU], by rw [hU]; exact hPc, va_K.moved hW.alike (gC_K C0), hDc.weaken (fun _ _ _ _ => trivial), hNw_warm hW (gC_n C0)⟩, hE.2 A _ s U E0 (by rw [hU]; exact hS.2.1) hW hFc⟩⟩ rfl hn hl.1 hst (lv_room hW) hdg hRc) hS (fun q _ h => hFc q h) hFc (fun r u t H1 locs1 ht hvm hw hB hz1 hk1 hS1 => ?_)
  rw [ht] at hB
  obtain ⟨hP1, hD1⟩ := hl_back hP hD isC hC hf1 hk1 hB
  rw [hws] at hP1 hD1
  subst hw
  exact k H1 locs1 ls hP1 hD1 hS1 hl
end GE
/-- what a method leaves that makes cells: an int, a reference -/
def hQni {α : Type} (D : va_G) (r0 : Int32) (w1 : α → va_W) (A : Nat → Prop) : Array Value → State → Outcome → State → Prop := va_Qi (fun r (_ : Unit) => r = r0) (fun _ t => ∃ u : α, va_P D vwCl (w1 u) t.heap ∧ va_D A (w1 u)) A
def hQnr {α : Type} (D : va_G) (rf : α → Nat) (w1 : α → va_W) (A : Nat → Prop) : Array Value → State → Outcome → State → Prop := va_Qr (fun (_ : Unit) => True) (fun _ ra t => ∃ u : α, ra = rf u ∧ va_P D vwCl (w1 u) t.heap ∧ va_D A (w1 u)) A
def hMC (C : String) (y : MethodName) (cc : ByteArray) (nL : Nat) (ret : Option FieldType) (n : Nat) : Prop := Cond.code y cc nL ret ∈ hAll ∧ Cond.initialized y.cls ∈ hAll ∧ Cond.instanceMethod y ∈ hAll ∧ Cond.selects C y y ∈ hAll ∧ (y.cls ≠ "java/lang/invoke/MethodHandle" ∧ y.cls ≠ "java/lang/invoke/VarHandle" ∧ (parseMethodDescriptor y.desc).map (fun d => d.parameters.length) = some n)
def hMU (own : String) (y : MethodName) (cc : ByteArray) (nL : Nat) (ret : Option FieldType) (n : Nat) : Prop := Cond.code y cc nL ret ∈ hAll ∧ Cond.initialized y.cls ∈ hAll ∧ Cond.instanceMethod y ∈ hAll ∧ Cond.sameMethod y.cls y.cls y.name y.desc ∈ hAll ∧ Cond.superclass own y.cls ∈ hAll ∧ (y.name ≠ "<init>" ∧ (parseMethodDescriptor y.desc).map (fun d => d.parameters.length) = some n)
theorem wsU_good {own : String} {index : Nat} {y : MethodName} {cc : ByteArray} {nL : Nat} {ret : Option FieldType} {n : Nat} (h : hMU own y cc nL ret n) (hlink : Cond.methodLink own index y ∈ hAll) : GoodIn hAll (va_wsSU own index y (ws_ y cc nL ret)) := by
  intro w hw
  rcases List.mem_append.mp hw with hw | hw
  · refine hAll_good w ?_
    simp only [List.mem_cons, List.not_mem_nil, or_false] at hw
    rcases hw with rfl | rfl | rfl | rfl | rfl
    · exact hlink
    · exact h.2.2.2.1
    · exact h.2.2.2.2.1
    · exact h.2.2.1
    · exact h.2.1
  · exact ws_good h.1 w hw
section TK
variable {p : Program} {l : Launch} {e : Env} {R : Room} {s : State} {m : MethodId} {args : Array Value} {below : List Frame} {meth : Method} {c : Code} {D : va_G} {tys : List (ClassId × FieldType)} {A : Nat → Prop} {own : String} {cc : ByteArray} {nL : Nat} {ret0 : Option FieldType} {Q : State → Prop} {pc : Nat} {lv lv' : List (Nat × Value)} {st : List Value} {ws ws' : va_W} {kk nn : Nat} {E : (Nat → Prop) → State → Prop}
/-- the side condition at the callee's entry, out of the caller's own -/
theorem xe_of {wc : va_W} (C0 : gC own cc nL ret0 p s m args meth c D tys A) (hE : hEok E) (E0 : E A s) : ∀ (H : Heap) (locs : List Loc), va_P D vwCl ws H → va_D A ws → va_S A s.heap H locs → (∀ q, va_A wc H.size q → A q) → ∀ U : State, U.heap = H → s.WarmedH U.vm → E (va_A wc H.size) U :=
  fun H locs hP hD hS hF U hU hW => hE.2 A _ s U E0 (by rw [hU]; exact hS.2.1) hW hF
/-- a receiver in the world -/
theorem xr_w {b ci N : Nat} {C : String} {T : u_T} {fs : List Value} (C0 : gC own cc nL ret0 p s m args meth c D tys A) (q0 : Nat) (hb0 : ws[q0]? = some (b, .inr (ci, fs))) (hci : vwCl[ci]? = some (C, T, N)) : ∀ (H : Heap) (locs : List Loc), va_P D vwCl ws H → va_S A s.heap H locs → ∃ cellB : Cell, H[b]? = some cellB ∧ cellB.vm.isStatics = false ∧ s.vm.findClass C = some cellB.cls :=
  fun H locs hP hS => va_recv (gC_K C0) hP hci hb0
theorem g_xVv {α : Type} {w1 : α → va_W} {C : String} {y : MethodName} {bytes : ByteArray} {maxL n index mc ms : Nat} {ret : Option FieldType} {rm : Room} {X pl wc wr : va_W} {As : List Value} {st0 : List Value} {b : Nat} (C0 : gC own cc nL ret0 p s m args meth c D tys A) (hE : hEok E) (hE0 : ∀ (H : Heap) (locs : List Loc), va_P D vwCl ws H → va_D A ws → va_S A s.heap H locs → (∀ q, va_A wc H.size q → A q) → ∀ U : State, U.heap = H → s.WarmedH U.vm → E (va_A wc H.size) U) (hrv : ∀ (H : Heap) (locs : List Loc), va_P D vwCl ws H → va_S A s.heap H locs → ∃ cellB : Cell, H[b]? = some cellB ∧ cellB.vm.isStatics = false ∧ s.vm.findClass C = some cellB.cls) (hM : ∀ sz, Met l y (ws_ y bytes maxL ret) rm (va_Pc (.ref b :: As) (hPreE E D tys wc sz)) (hQn D w1 (va_A wc sz)) mc ms (va_A wc sz)) (hm : hMC C y bytes maxL ret n) (hlink : Cond.methodLink own index y ∈ hAll) (hR : rm.frames + 1 ≤ R.frames ∧ 8 + (maxL + 11) + rm.locals ≤ R.locals) (hrc : rm.cells = mc) (hrs : rm.slots = ms) (hRc : kk + mc ≤ R.cells ∧ nn + ms ≤ R.slots) (e1 : ws = List.append X pl) (isC isR : List Nat) (hC : isC.map (fun i => X[i]?) = wc.map some) (hRr : isR.map (fun i => X[i]?) = wr.map some) (hndC : va_nd isC = true) (hndR : va_nd isR = true) (hdis : ∀ i ∈ isR, i ∉ isC) (hn : As.length = n) (hst : st0 = As.reverse ++ .ref b :: st) (hW : (st.map fun v => v.category).sum ≤ 8) (hdg : decode cc pc = .ok (.invokevirtual index, 3)) (k : ∀ u : α, gG p l e R s m args below meth c D A nL Q (kk + mc) (nn + ms) (pc + 3) lv (st) (List.append (List.append wr (w1 u)) pl)) : gG p l e R s m args below meth c D A nL Q kk nn pc lv st0 ws := by
  subst e1
  intro H locs ls hP hD hS hl
  have hPc := hl_Psub (hl_PL hP) isC hC
  have hDc := (hl_DL hD).sub isC hndC hC
  have hFc := va_free (hl_DL hD) hS (gC_A C0) isC hC
  have hE1 := hE0 H locs hP hD hS hFc
  refine va_callv (va_runV (As := As) (rest := st) C0.1 (hM H.size) ⟨callB_of n (gC_t C0) (ws_good hm.1) rfl hrc hrs (gC_t C0 _ hm.2.1) (gC_t C0 _ hlink) hm.2.2.2.2 hR, gC_t C0 _ hm.2.2.1, gC_t C0 _ hm.2.2.2.1⟩ ⟨hPreE_blind hE, hrv H locs hP hS, fun U hU hW => ⟨rfl, ⟨by rw [hU], by rw [hU]; exact hPc, va_K.moved hW.alike (gC_K C0), hDc.weaken (fun _ _ _ _ => trivial), hNw_warm hW (gC_n C0)⟩, hE1 U hU hW⟩⟩ rfl hn hl.1 hst (lv_room hW) hdg hRc) hS (fun q _ h => hFc q h) hFc (fun u t H1 locs1 ht hvm hw hB hz1 hk1 hS1 => ?_)
  obtain ⟨u, hB1, hB2⟩ := hB
  rw [ht] at hB1
  obtain ⟨hP1, hD1⟩ := va_joinQ (wr := wr) (w1 := w1 u) hP hD isC isR hC hRr hndR hdis hk1 hFc hB1 hB2
  exact k u H1 locs1 ls hP1 hD1 hS1 hl
theorem g_xSv {α : Type} {w1 : α → va_W} {y : MethodName} {bytes : ByteArray} {maxL n index mc ms : Nat} {ret : Option FieldType} {rm : Room} {X pl wc wr : va_W} {As : List Value} {st0 : List Value} (C0 : gC own cc nL ret0 p s m args meth c D tys A) (hE : hEok E) (hE0 : ∀ (H : Heap) (locs : List Loc), va_P D vwCl ws H → va_D A ws → va_S A s.heap H locs → (∀ q, va_A wc H.size q → A q) → ∀ U : State, U.heap = H → s.WarmedH U.vm → E (va_A wc H.size) U) (hM : ∀ sz, Met l y (ws_ y bytes maxL ret) rm (va_Pc As (hPreE E D tys wc sz)) (hQn D w1 (va_A wc sz)) mc ms (va_A wc sz)) (hm : hMS y bytes maxL ret n) (hlink : Cond.methodLink own index y ∈ hAll) (hR : rm.frames + 1 ≤ R.frames ∧ 8 + (maxL + 11) + rm.locals ≤ R.locals) (hrc : rm.cells = mc) (hrs : rm.slots = ms) (hRc : kk + mc ≤ R.cells ∧ nn + ms ≤ R.slots) (e1 : ws = List.append X pl) (isC isR : List Nat) (hC : isC.map (fun i => X[i]?) = wc.map some) (hRr : isR.map (fun i => X[i]?) = wr.map some) (hndC : va_nd isC = true) (hndR : va_nd isR = true) (hdis : ∀ i ∈ isR, i ∉ isC) (hn : As.length = n) (hst : st0 = As.reverse ++ st) (hW : (st.map fun v => v.category).sum ≤ 8) (hdg : decode cc pc = .ok (.invokestatic index, 3)) (k : ∀ u : α, gG p l e R s m args below meth c D A nL Q (kk + mc) (nn + ms) (pc + 3) lv (st) (List.append (List.append wr (w1 u)) pl)) : gG p l e R s m args below meth c D A nL Q kk nn pc lv st0 ws := by
  subst e1
  intro H locs ls hP hD hS hl
  have hPc := hl_Psub (hl_PL hP) isC hC
  have hDc := (hl_DL hD).sub isC hndC hC
  have hFc := va_free (hl_DL hD) hS (gC_A C0) isC hC
  have hE1 := hE0 H locs hP hD hS hFc
  refine va_callv (va_runS (As := As) (rest := st) C0.1 (hM H.size) ⟨callB_of n (gC_t C0) (ws_good hm.1) rfl hrc hrs (gC_t C0 _ hm.2.1) (gC_t C0 _ hlink) hm.2.2.2 hR, gC_t C0 _ hm.2.2.1⟩ ⟨hPreE_blind hE, fun U hU hW => ⟨rfl, ⟨by rw [hU], by rw [hU]; exact hPc, va_K.moved hW.alike (gC_K C0), hDc.weaken (fun _ _ _ _ => trivial), hNw_warm hW (gC_n C0)⟩, hE1 U hU hW⟩⟩ rfl hn hl.1 hst (lv_room hW) hdg hRc) hS (fun q _ h => hFc q h) hFc (fun u t H1 locs1 ht hvm hw hB hz1 hk1 hS1 => ?_)
  obtain ⟨u, hB1, hB2⟩ := hB
  rw [ht] at hB1
  obtain ⟨hP1, hD1⟩ := va_joinQ (wr := wr) (w1 := w1 u) hP hD isC isR hC hRr hndR hdis hk1 hFc hB1 hB2
  exact k u H1 locs1 ls hP1 hD1 hS1 hl
theorem g_xUv {α : Type} {w1 : α → va_W} {C : String} {y : MethodName} {bytes : ByteArray} {maxL n index mc ms : Nat} {ret : Option FieldType} {rm : Room} {X pl wc wr : va_W} {As : List Value} {st0 : List Value} {b : Nat} (C0 : gC own cc nL ret0 p s m args meth c D tys A) (hE : hEok E) (hE0 : ∀ (H : Heap) (locs : List Loc), va_P D vwCl ws H → va_D A ws → va_S A s.heap H locs → (∀ q, va_A wc H.size q → A q) → ∀ U : State, U.heap = H → s.WarmedH U.vm → E (va_A wc H.size) U) (hrv : ∀ (H : Heap) (locs : List Loc), va_P D vwCl ws H → va_S A s.heap H locs → ∃ cellB : Cell, H[b]? = some cellB ∧ cellB.vm.isStatics = false ∧ s.vm.findClass C = some cellB.cls) (hat : ∃ cid : ClassId, ClassAt s C cid) (hM : ∀ sz, Met l y (ws_ y bytes maxL ret) rm (va_Pc (.ref b :: As) (hPreE E D tys wc sz)) (hQn D w1 (va_A wc sz)) mc ms (va_A wc sz)) (hm : hMU own y bytes maxL ret n) (hlink : Cond.methodLink own index y ∈ hAll) (hR : rm.frames + 1 ≤ R.frames ∧ 8 + (maxL + 11) + rm.locals ≤ R.locals) (hrc : rm.cells = mc) (hrs : rm.slots = ms) (hRc : kk + mc ≤ R.cells ∧ nn + ms ≤ R.slots) (e1 : ws = List.append X pl) (isC isR : List Nat) (hC : isC.map (fun i => X[i]?) = wc.map some) (hRr : isR.map (fun i => X[i]?) = wr.map some) (hndC : va_nd isC = true) (hndR : va_nd isR = true) (hdis : ∀ i ∈ isR, i ∉ isC) (hn : As.length = n) (hst : st0 = As.reverse ++ .ref b :: st) (hW : (st.map fun v => v.category).sum ≤ 8) (hdg : decode cc pc = .ok (.invokespecial index, 3)) (k : ∀ u : α, gG p l e R s m args below meth c D A nL Q (kk + mc) (nn + ms) (pc + 3) lv (st) (List.append (List.append wr (w1 u)) pl)) : gG p l e R s m args below meth c D A nL Q kk nn pc lv st0 ws := by
  subst e1
  intro H locs ls hP hD hS hl
  have hPc := hl_Psub (hl_PL hP) isC hC
  have hDc := (hl_DL hD).sub isC hndC hC
  have hFc := va_free (hl_DL hD) hS (gC_A C0) isC hC
  have hE1 := hE0 H locs hP hD hS hFc
  obtain ⟨cid, hat0⟩ := hat
  refine va_callv (va_runSU (As := As) (rest := st) hat0 C0.1 (hM H.size) (va_cwSU n (gC_t C0) (wsU_good hm hlink) rfl hrc hrs hm.2.2.2.2.2 hR) ⟨hPreE_blind hE, hrv H locs hP hS, fun U hU hW => ⟨rfl, ⟨by rw [hU], by rw [hU]; exact hPc, va_K.moved hW.alike (gC_K C0), hDc.weaken (fun _ _ _ _ => trivial), hNw_warm hW (gC_n C0)⟩, hE1 U hU hW⟩⟩ rfl hn hl.1 hst (lv_room hW) hdg hRc) hS (fun q _ h => hFc q h) hFc (fun u t H1 locs1 ht hvm hw hB hz1 hk1 hS1 => ?_)
  obtain ⟨u, hB1, hB2⟩ := hB
  rw [ht] at hB1
  obtain ⟨hP1, hD1⟩ := va_joinQ (wr := wr) (w1 := w1 u) hP hD isC isR hC hRr hndR hdis hk1 hFc hB1 hB2
  exact k u H1 locs1 ls hP1 hD1 hS1 hl
theorem g_xIv {α : Type} {w1 : α → va_W} {y : MethodName} {bytes : ByteArray} {maxL n index mc ms : Nat} {ret : Option FieldType} {rm : Room} {X pl wc wr : va_W} {As : List Value} {st0 : List Value} {b : Nat} (C0 : gC own cc nL ret0 p s m args meth c D tys A) (hE : hEok E) (hE0 : ∀ (H : Heap) (locs : List Loc), va_P D vwCl ws H → va_D A ws → va_S A s.heap H locs → (∀ q, va_A wc H.size q → A q) → ∀ U : State, U.heap = H → s.WarmedH U.vm → E (va_A wc H.size) U) (hM : ∀ sz, Met l y (ws_ y bytes maxL none) rm (va_Pc (.ref b :: As) (hPreE E D tys wc sz)) (hQn D w1 (va_A wc sz)) mc ms (va_A wc sz)) (hm : hMI y bytes maxL n) (hlink : Cond.methodLink own index y ∈ hAll) (hR : rm.frames + 1 ≤ R.frames ∧ 8 + (maxL + 11) + rm.locals ≤ R.locals) (hrc : rm.cells = mc) (hrs : rm.slots = ms) (hRc : kk + mc ≤ R.cells ∧ nn + ms ≤ R.slots) (e1 : ws = List.append X pl) (isC isR : List Nat) (hC : isC.map (fun i => X[i]?) = wc.map some) (hRr : isR.map (fun i => X[i]?) = wr.map some) (hndC : va_nd isC = true) (hndR : va_nd isR = true) (hdis : ∀ i ∈ isR, i ∉ isC) (hn : As.length = n) (hst : st0 = As.reverse ++ .ref b :: st) (hW : (st.map fun v => v.category).sum ≤ 8) (hdg : decode cc pc = .ok (.invokespecial index, 3)) (k : ∀ u : α, gG p l e R s m args below meth c D A nL Q (kk + mc) (nn + ms) (pc + 3) lv (st) (List.append (List.append wr (w1 u)) pl)) : gG p l e R s m args below meth c D A nL Q kk nn pc lv st0 ws := by
  subst e1
  intro H locs ls hP hD hS hl
  have hPc := hl_Psub (hl_PL hP) isC hC
  have hDc := (hl_DL hD).sub isC hndC hC
  have hFc := va_free (hl_DL hD) hS (gC_A C0) isC hC
  have hE1 := hE0 H locs hP hD hS hFc
  refine va_callv (va_runI (As := As) (rest := st) C0.1 (hM H.size) ⟨callB_of n (gC_t C0) (ws_good hm.1) rfl hrc hrs (gC_t C0 _ hm.2.1) (gC_t C0 _ hlink) hm.2.2.2.2 hR, hm.2.2.2.1, gC_t C0 _ hm.2.2.1⟩ ⟨hPreE_blind hE, fun U hU hW => ⟨rfl, ⟨by rw [hU], by rw [hU]; exact hPc, va_K.moved hW.alike (gC_K C0), hDc.weaken (fun _ _ _ _ => trivial), hNw_warm hW (gC_n C0)⟩, hE1 U hU hW⟩⟩ rfl hn hl.1 hst (lv_room hW) hdg hRc) hS (fun q _ h => hFc q h) hFc (fun u t H1 locs1 ht hvm hw hB hz1 hk1 hS1 => ?_)
  obtain ⟨u, hB1, hB2⟩ := hB
  rw [ht] at hB1
  obtain ⟨hP1, hD1⟩ := va_joinQ (wr := wr) (w1 := w1 u) hP hD isC isR hC hRr hndR hdis hk1 hFc hB1 hB2
  exact k u H1 locs1 ls hP1 hD1 hS1 hl
theorem g_xVi {α : Type} {w1 : α → va_W} {r0 : Int32} {C : String} {y : MethodName} {bytes : ByteArray} {maxL n index mc ms : Nat} {ret : Option FieldType} {rm : Room} {X pl wc wr : va_W} {As : List Value} {st0 : List Value} {b : Nat} (C0 : gC own cc nL ret0 p s m args meth c D tys A) (hE : hEok E) (hE0 : ∀ (H : Heap) (locs : List Loc), va_P D vwCl ws H → va_D A ws → va_S A s.heap H locs → (∀ q, va_A wc H.size q → A q) → ∀ U : State, U.heap = H → s.WarmedH U.vm → E (va_A wc H.size) U) (hrv : ∀ (H : Heap) (locs : List Loc), va_P D vwCl ws H → va_S A s.heap H locs → ∃ cellB : Cell, H[b]? = some cellB ∧ cellB.vm.isStatics = false ∧ s.vm.findClass C = some cellB.cls) (hM : ∀ sz, Met l y (ws_ y bytes maxL ret) rm (va_Pc (.ref b :: As) (hPreE E D tys wc sz)) (hQni D r0 w1 (va_A wc sz)) mc ms (va_A wc sz)) (hm : hMC C y bytes maxL ret n) (hlink : Cond.methodLink own index y ∈ hAll) (hR : rm.frames + 1 ≤ R.frames ∧ 8 + (maxL + 11) + rm.locals ≤ R.locals) (hrc : rm.cells = mc) (hrs : rm.slots = ms) (hRc : kk + mc ≤ R.cells ∧ nn + ms ≤ R.slots) (e1 : ws = List.append X pl) (isC isR : List Nat) (hC : isC.map (fun i => X[i]?) = wc.map some) (hRr : isR.map (fun i => X[i]?) = wr.map some) (hndC : va_nd isC = true) (hndR : va_nd isR = true) (hdis : ∀ i ∈ isR, i ∉ isC) (hn : As.length = n) (hst : st0 = As.reverse ++ .ref b :: st) (hW : (st.map fun v => v.category).sum ≤ 8) (hdg : decode cc pc = .ok (.invokevirtual index, 3)) (k : ∀ u : α, gG p l e R s m args below meth c D A nL Q (kk + mc) (nn + ms) (pc + 3) lv (.int r0 :: st) (List.append (List.append wr (w1 u)) pl)) : gG p l e R s m args below meth c D A nL Q kk nn pc lv st0 ws := by
  subst e1
  intro H locs ls hP hD hS hl
  have hPc := hl_Psub (hl_PL hP) isC hC
  have hDc := (hl_DL hD).sub isC hndC hC
  have hFc := va_free (hl_DL hD) hS (gC_A C0) isC hC
  have hE1 := hE0 H locs hP hD hS hFc
  refine va_calli (va_runV (As := As) (rest := st) C0.1 (hM H.size) ⟨callB_of n (gC_t C0) (ws_good hm.1) rfl hrc hrs (gC_t C0 _ hm.2.1) (gC_t C0 _ hlink) hm.2.2.2.2 hR, gC_t C0 _ hm.2.2.1, gC_t C0 _ hm.2.2.2.1⟩ ⟨hPreE_blind hE, hrv H locs hP hS, fun U hU hW => ⟨rfl, ⟨by rw [hU], by rw [hU]; exact hPc, va_K.moved hW.alike (gC_K C0), hDc.weaken (fun _ _ _ _ => trivial), hNw_warm hW (gC_n C0)⟩, hE1 U hU hW⟩⟩ rfl hn hl.1 hst (lv_room hW) hdg hRc) hS (fun q _ h => hFc q h) hFc (fun r u t H1 locs1 ht hvm hw hB hz1 hk1 hS1 => ?_)
  obtain ⟨u, hB1, hB2⟩ := hB
  rw [ht] at hB1
  obtain ⟨hP1, hD1⟩ := va_joinQ (wr := wr) (w1 := w1 u) hP hD isC isR hC hRr hndR hdis hk1 hFc hB1 hB2
  subst hw
  exact k u H1 locs1 ls hP1 hD1 hS1 hl
theorem g_xSi {α : Type} {w1 : α → va_W} {r0 : Int32} {y : MethodName} {bytes : ByteArray} {maxL n index mc ms : Nat} {ret : Option FieldType} {rm : Room} {X pl wc wr : va_W} {As : List Value} {st0 : List Value} (C0 : gC own cc nL ret0 p s m args meth c D tys A) (hE : hEok E) (hE0 : ∀ (H : Heap) (locs : List Loc), va_P D vwCl ws H → va_D A ws → va_S A s.heap H locs → (∀ q, va_A wc H.size q → A q) → ∀ U : State, U.heap = H → s.WarmedH U.vm → E (va_A wc H.size) U) (hM : ∀ sz, Met l y (ws_ y bytes maxL ret) rm (va_Pc As (hPreE E D tys wc sz)) (hQni D r0 w1 (va_A wc sz)) mc ms (va_A wc sz)) (hm : hMS y bytes maxL ret n) (hlink : Cond.methodLink own index y ∈ hAll) (hR : rm.frames + 1 ≤ R.frames ∧ 8 + (maxL + 11) + rm.locals ≤ R.locals) (hrc : rm.cells = mc) (hrs : rm.slots = ms) (hRc : kk + mc ≤ R.cells ∧ nn + ms ≤ R.slots) (e1 : ws = List.append X pl) (isC isR : List Nat) (hC : isC.map (fun i => X[i]?) = wc.map some) (hRr : isR.map (fun i => X[i]?) = wr.map some) (hndC : va_nd isC = true) (hndR : va_nd isR = true) (hdis : ∀ i ∈ isR, i ∉ isC) (hn : As.length = n) (hst : st0 = As.reverse ++ st) (hW : (st.map fun v => v.category).sum ≤ 8) (hdg : decode cc pc = .ok (.invokestatic index, 3)) (k : ∀ u : α, gG p l e R s m args below meth c D A nL Q (kk + mc) (nn + ms) (pc + 3) lv (.int r0 :: st) (List.append (List.append wr (w1 u)) pl)) : gG p l e R s m args below meth c D A nL Q kk nn pc lv st0 ws := by
  subst e1
  intro H locs ls hP hD hS hl
  have hPc := hl_Psub (hl_PL hP) isC hC
  have hDc := (hl_DL hD).sub isC hndC hC
  have hFc := va_free (hl_DL hD) hS (gC_A C0) isC hC
  have hE1 := hE0 H locs hP hD hS hFc
  refine va_calli (va_runS (As := As) (rest := st) C0.1 (hM H.size) ⟨callB_of n (gC_t C0) (ws_good hm.1) rfl hrc hrs (gC_t C0 _ hm.2.1) (gC_t C0 _ hlink) hm.2.2.2 hR, gC_t C0 _ hm.2.2.1⟩ ⟨hPreE_blind hE, fun U hU hW => ⟨rfl, ⟨by rw [hU], by rw [hU]; exact hPc, va_K.moved hW.alike (gC_K C0), hDc.weaken (fun _ _ _ _ => trivial), hNw_warm hW (gC_n C0)⟩, hE1 U hU hW⟩⟩ rfl hn hl.1 hst (lv_room hW) hdg hRc) hS (fun q _ h => hFc q h) hFc (fun r u t H1 locs1 ht hvm hw hB hz1 hk1 hS1 => ?_)
  obtain ⟨u, hB1, hB2⟩ := hB
  rw [ht] at hB1
  obtain ⟨hP1, hD1⟩ := va_joinQ (wr := wr) (w1 := w1 u) hP hD isC isR hC hRr hndR hdis hk1 hFc hB1 hB2
  subst hw
  exact k u H1 locs1 ls hP1 hD1 hS1 hl
theorem g_xUi {α : Type} {w1 : α → va_W} {r0 : Int32} {C : String} {y : MethodName} {bytes : ByteArray} {maxL n index mc ms : Nat} {ret : Option FieldType} {rm : Room} {X pl wc wr : va_W} {As : List Value} {st0 : List Value} {b : Nat} (C0 : gC own cc nL ret0 p s m args meth c D tys A) (hE : hEok E) (hE0 : ∀ (H : Heap) (locs : List Loc), va_P D vwCl ws H → va_D A ws → va_S A s.heap H locs → (∀ q, va_A wc H.size q → A q) → ∀ U : State, U.heap = H → s.WarmedH U.vm → E (va_A wc H.size) U) (hrv : ∀ (H : Heap) (locs : List Loc), va_P D vwCl ws H → va_S A s.heap H locs → ∃ cellB : Cell, H[b]? = some cellB ∧ cellB.vm.isStatics = false ∧ s.vm.findClass C = some cellB.cls) (hat : ∃ cid : ClassId, ClassAt s C cid) (hM : ∀ sz, Met l y (ws_ y bytes maxL ret) rm (va_Pc (.ref b :: As) (hPreE E D tys wc sz)) (hQni D r0 w1 (va_A wc sz)) mc ms (va_A wc sz)) (hm : hMU own y bytes maxL ret n) (hlink : Cond.methodLink own index y ∈ hAll) (hR : rm.frames + 1 ≤ R.frames ∧ 8 + (maxL + 11) + rm.locals ≤ R.locals) (hrc : rm.cells = mc) (hrs : rm.slots = ms) (hRc : kk + mc ≤ R.cells ∧ nn + ms ≤ R.slots) (e1 : ws = List.append X pl) (isC isR : List Nat) (hC : isC.map (fun i => X[i]?) = wc.map some) (hRr : isR.map (fun i => X[i]?) = wr.map some) (hndC : va_nd isC = true) (hndR : va_nd isR = true) (hdis : ∀ i ∈ isR, i ∉ isC) (hn : As.length = n) (hst : st0 = As.reverse ++ .ref b :: st) (hW : (st.map fun v => v.category).sum ≤ 8) (hdg : decode cc pc = .ok (.invokespecial index, 3)) (k : ∀ u : α, gG p l e R s m args below meth c D A nL Q (kk + mc) (nn + ms) (pc + 3) lv (.int r0 :: st) (List.append (List.append wr (w1 u)) pl)) : gG p l e R s m args below meth c D A nL Q kk nn pc lv st0 ws := by
  subst e1
  intro H locs ls hP hD hS hl
  have hPc := hl_Psub (hl_PL hP) isC hC
  have hDc := (hl_DL hD).sub isC hndC hC
  have hFc := va_free (hl_DL hD) hS (gC_A C0) isC hC
  have hE1 := hE0 H locs hP hD hS hFc
  obtain ⟨cid, hat0⟩ := hat
  refine va_calli (va_runSU (As := As) (rest := st) hat0 C0.1 (hM H.size) (va_cwSU n (gC_t C0) (wsU_good hm hlink) rfl hrc hrs hm.2.2.2.2.2 hR) ⟨hPreE_blind hE, hrv H locs hP hS, fun U hU hW => ⟨rfl, ⟨by rw [hU], by rw [hU]; exact hPc, va_K.moved hW.alike (gC_K C0), hDc.weaken (fun _ _ _ _ => trivial), hNw_warm hW (gC_n C0)⟩, hE1 U hU hW⟩⟩ rfl hn hl.1 hst (lv_room hW) hdg hRc) hS (fun q _ h => hFc q h) hFc (fun r u t H1 locs1 ht hvm hw hB hz1 hk1 hS1 => ?_)
  obtain ⟨u, hB1, hB2⟩ := hB
  rw [ht] at hB1
  obtain ⟨hP1, hD1⟩ := va_joinQ (wr := wr) (w1 := w1 u) hP hD isC isR hC hRr hndR hdis hk1 hFc hB1 hB2
  subst hw
  exact k u H1 locs1 ls hP1 hD1 hS1 hl
theorem g_xVr {α : Type} {w1 : α → va_W} {rf : α → Nat} {C : String} {y : MethodName} {bytes : ByteArray} {maxL n index mc ms : Nat} {ret : Option FieldType} {rm : Room} {X pl wc wr : va_W} {As : List Value} {st0 : List Value} {b : Nat} (C0 : gC own cc nL ret0 p s m args meth c D tys A) (hE : hEok E) (hE0 : ∀ (H : Heap) (locs : List Loc), va_P D vwCl ws H → va_D A ws → va_S A s.heap H locs → (∀ q, va_A wc H.size q → A q) → ∀ U : State, U.heap = H → s.WarmedH U.vm → E (va_A wc H.size) U) (hrv : ∀ (H : Heap) (locs : List Loc), va_P D vwCl ws H → va_S A s.heap H locs → ∃ cellB : Cell, H[b]? = some cellB ∧ cellB.vm.isStatics = false ∧ s.vm.findClass C = some cellB.cls) (hM : ∀ sz, Met l y (ws_ y bytes maxL ret) rm (va_Pc (.ref b :: As) (hPreE E D tys wc sz)) (hQnr D rf w1 (va_A wc sz)) mc ms (va_A wc sz)) (hm : hMC C y bytes maxL ret n) (hlink : Cond.methodLink own index y ∈ hAll) (hR : rm.frames + 1 ≤ R.frames ∧ 8 + (maxL + 11) + rm.locals ≤ R.locals) (hrc : rm.cells = mc) (hrs : rm.slots = ms) (hRc : kk + mc ≤ R.cells ∧ nn + ms ≤ R.slots) (e1 : ws = List.append X pl) (isC isR : List Nat) (hC : isC.map (fun i => X[i]?) = wc.map some) (hRr : isR.map (fun i => X[i]?) = wr.map some) (hndC : va_nd isC = true) (hndR : va_nd isR = true) (hdis : ∀ i ∈ isR, i ∉ isC) (hn : As.length = n) (hst : st0 = As.reverse ++ .ref b :: st) (hW : (st.map fun v => v.category).sum ≤ 8) (hdg : decode cc pc = .ok (.invokevirtual index, 3)) (k : ∀ u : α, gG p l e R s m args below meth c D A nL Q (kk + mc) (nn + ms) (pc + 3) lv (.ref (rf u) :: st) (List.append (List.append wr (w1 u)) pl)) : gG p l e R s m args below meth c D A nL Q kk nn pc lv st0 ws := by
  subst e1
  intro H locs ls hP hD hS hl
  have hPc := hl_Psub (hl_PL hP) isC hC
  have hDc := (hl_DL hD).sub isC hndC hC
  have hFc := va_free (hl_DL hD) hS (gC_A C0) isC hC
  have hE1 := hE0 H locs hP hD hS hFc
  refine va_callr (va_runV (As := As) (rest := st) C0.1 (hM H.size) ⟨callB_of n (gC_t C0) (ws_good hm.1) rfl hrc hrs (gC_t C0 _ hm.2.1) (gC_t C0 _ hlink) hm.2.2.2.2 hR, gC_t C0 _ hm.2.2.1, gC_t C0 _ hm.2.2.2.1⟩ ⟨hPreE_blind hE, hrv H locs hP hS, fun U hU hW => ⟨rfl, ⟨by rw [hU], by rw [hU]; exact hPc, va_K.moved hW.alike (gC_K C0), hDc.weaken (fun _ _ _ _ => trivial), hNw_warm hW (gC_n C0)⟩, hE1 U hU hW⟩⟩ rfl hn hl.1 hst (lv_room hW) hdg hRc) hS (fun q _ h => hFc q h) hFc (fun u ra t H1 locs1 ht hvm hw hB hz1 hk1 hS1 => ?_)
  obtain ⟨u, hra, hB1, hB2⟩ := hB
  rw [ht] at hB1
  obtain ⟨hP1, hD1⟩ := va_joinQ (wr := wr) (w1 := w1 u) hP hD isC isR hC hRr hndR hdis hk1 hFc hB1 hB2
  subst hra
  exact k u H1 locs1 ls hP1 hD1 hS1 hl
theorem g_xSr {α : Type} {w1 : α → va_W} {rf : α → Nat} {y : MethodName} {bytes : ByteArray} {maxL n index mc ms : Nat} {ret : Option FieldType} {rm : Room} {X pl wc wr : va_W} {As : List Value} {st0 : List Value} (C0 : gC own cc nL ret0 p s m args meth c D tys A) (hE : hEok E) (hE0 : ∀ (H : Heap) (locs : List Loc), va_P D vwCl ws H → va_D A ws → va_S A s.heap H locs → (∀ q, va_A wc H.size q → A q) → ∀ U : State, U.heap = H → s.WarmedH U.vm → E (va_A wc H.size) U) (hM : ∀ sz, Met l y (ws_ y bytes maxL ret) rm (va_Pc As (hPreE E D tys wc sz)) (hQnr D rf w1 (va_A wc sz)) mc ms (va_A wc sz)) (hm : hMS y bytes maxL ret n) (hlink : Cond.methodLink own index y ∈ hAll) (hR : rm.frames + 1 ≤ R.frames ∧ 8 + (maxL + 11) + rm.locals ≤ R.locals) (hrc : rm.cells = mc) (hrs : rm.slots = ms) (hRc : kk + mc ≤ R.cells ∧ nn + ms ≤ R.slots) (e1 : ws = List.append X pl) (isC isR : List Nat) (hC : isC.map (fun i => X[i]?) = wc.map some) (hRr : isR.map (fun i => X[i]?) = wr.map some) (hndC : va_nd isC = true) (hndR : va_nd isR = true) (hdis : ∀ i ∈ isR, i ∉ isC) (hn : As.length = n) (hst : st0 = As.reverse ++ st) (hW : (st.map fun v => v.category).sum ≤ 8) (hdg : decode cc pc = .ok (.invokestatic index, 3)) (k : ∀ u : α, gG p l e R s m args below meth c D A nL Q (kk + mc) (nn + ms) (pc + 3) lv (.ref (rf u) :: st) (List.append (List.append wr (w1 u)) pl)) : gG p l e R s m args below meth c D A nL Q kk nn pc lv st0 ws := by
  subst e1
  intro H locs ls hP hD hS hl
  have hPc := hl_Psub (hl_PL hP) isC hC
  have hDc := (hl_DL hD).sub isC hndC hC
  have hFc := va_free (hl_DL hD) hS (gC_A C0) isC hC
  have hE1 := hE0 H locs hP hD hS hFc
  refine va_callr (va_runS (As := As) (rest := st) C0.1 (hM H.size) ⟨callB_of n (gC_t C0) (ws_good hm.1) rfl hrc hrs (gC_t C0 _ hm.2.1) (gC_t C0 _ hlink) hm.2.2.2 hR, gC_t C0 _ hm.2.2.1⟩ ⟨hPreE_blind hE, fun U hU hW => ⟨rfl, ⟨by rw [hU], by rw [hU]; exact hPc, va_K.moved hW.alike (gC_K C0), hDc.weaken (fun _ _ _ _ => trivial), hNw_warm hW (gC_n C0)⟩, hE1 U hU hW⟩⟩ rfl hn hl.1 hst (lv_room hW) hdg hRc) hS (fun q _ h => hFc q h) hFc (fun u ra t H1 locs1 ht hvm hw hB hz1 hk1 hS1 => ?_)
  obtain ⟨u, hra, hB1, hB2⟩ := hB
  rw [ht] at hB1
  obtain ⟨hP1, hD1⟩ := va_joinQ (wr := wr) (w1 := w1 u) hP hD isC isR hC hRr hndR hdis hk1 hFc hB1 hB2
  subst hra
  exact k u H1 locs1 ls hP1 hD1 hS1 hl
theorem g_xUr {α : Type} {w1 : α → va_W} {rf : α → Nat} {C : String} {y : MethodName} {bytes : ByteArray} {maxL n index mc ms : Nat} {ret : Option FieldType} {rm : Room} {X pl wc wr : va_W} {As : List Value} {st0 : List Value} {b : Nat} (C0 : gC own cc nL ret0 p s m args meth c D tys A) (hE : hEok E) (hE0 : ∀ (H : Heap) (locs : List Loc), va_P D vwCl ws H → va_D A ws → va_S A s.heap H locs → (∀ q, va_A wc H.size q → A q) → ∀ U : State, U.heap = H → s.WarmedH U.vm → E (va_A wc H.size) U) (hrv : ∀ (H : Heap) (locs : List Loc), va_P D vwCl ws H → va_S A s.heap H locs → ∃ cellB : Cell, H[b]? = some cellB ∧ cellB.vm.isStatics = false ∧ s.vm.findClass C = some cellB.cls) (hat : ∃ cid : ClassId, ClassAt s C cid) (hM : ∀ sz, Met l y (ws_ y bytes maxL ret) rm (va_Pc (.ref b :: As) (hPreE E D tys wc sz)) (hQnr D rf w1 (va_A wc sz)) mc ms (va_A wc sz)) (hm : hMU own y bytes maxL ret n) (hlink : Cond.methodLink own index y ∈ hAll) (hR : rm.frames + 1 ≤ R.frames ∧ 8 + (maxL + 11) + rm.locals ≤ R.locals) (hrc : rm.cells = mc) (hrs : rm.slots = ms) (hRc : kk + mc ≤ R.cells ∧ nn + ms ≤ R.slots) (e1 : ws = List.append X pl) (isC isR : List Nat) (hC : isC.map (fun i => X[i]?) = wc.map some) (hRr : isR.map (fun i => X[i]?) = wr.map some) (hndC : va_nd isC = true) (hndR : va_nd isR = true) (hdis : ∀ i ∈ isR, i ∉ isC) (hn : As.length = n) (hst : st0 = As.reverse ++ .ref b :: st) (hW : (st.map fun v => v.category).sum ≤ 8) (hdg : decode cc pc = .ok (.invokespecial index, 3)) (k : ∀ u : α, gG p l e R s m args below meth c D A nL Q (kk + mc) (nn + ms) (pc + 3) lv (.ref (rf u) :: st) (List.append (List.append wr (w1 u)) pl)) : gG p l e R s m args below meth c D A nL Q kk nn pc lv st0 ws := by
  subst e1
  intro H locs ls hP hD hS hl
  have hPc := hl_Psub (hl_PL hP) isC hC
  have hDc := (hl_DL hD).sub isC hndC hC
  have hFc := va_free (hl_DL hD) hS (gC_A C0) isC hC
  have hE1 := hE0 H locs hP hD hS hFc
  obtain ⟨cid, hat0⟩ := hat
  refine va_callr (va_runSU (As := As) (rest := st) hat0 C0.1 (hM H.size) (va_cwSU n (gC_t C0) (wsU_good hm hlink) rfl hrc hrs hm.2.2.2.2.2 hR) ⟨hPreE_blind hE, hrv H locs hP hS, fun U hU hW => ⟨rfl, ⟨by rw [hU], by rw [hU]; exact hPc, va_K.moved hW.alike (gC_K C0), hDc.weaken (fun _ _ _ _ => trivial), hNw_warm hW (gC_n C0)⟩, hE1 U hU hW⟩⟩ rfl hn hl.1 hst (lv_room hW) hdg hRc) hS (fun q _ h => hFc q h) hFc (fun u ra t H1 locs1 ht hvm hw hB hz1 hk1 hS1 => ?_)
  obtain ⟨u, hra, hB1, hB2⟩ := hB
  rw [ht] at hB1
  obtain ⟨hP1, hD1⟩ := va_joinQ (wr := wr) (w1 := w1 u) hP hD isC isR hC hRr hndR hdis hk1 hFc hB1 hB2
  subst hra
  exact k u H1 locs1 ls hP1 hD1 hS1 hl
theorem g_nreti {α : Type} {w1 : α → va_W} {r0 v : Int32} {ty : FieldType} (C0 : gC own cc nL (some ty) p s m args meth c D tys A) (hn : narrow ty (.int v) = .int v) (hdg : decode cc pc = .ok (.ireturn, 1)) (u : α) (hv : v = r0) (hw : ws = w1 u) : gG p l e R s m args below meth c D A nL (MQ below (hQni D r0 w1 A) args s kk nn A) kk nn pc lv [.int v] ws := by
  subst hv
  subst hw
  exact fun H locs ls hP hD hS hl => W.zret (gC_x C0) (gC_b C0) (gC_r C0) hn (fun t ht hW => ⟨⟨v, (), rfl, rfl, u, show va_P D vwCl _ t.heap by rw [ht]; exact hP, hD⟩, hS.F ht⟩) hS.2.2 hdg (gC_l C0)
theorem g_nretr {α : Type} {w1 : α → va_W} {rf : α → Nat} {a : Nat} {rt : FieldType} (C0 : gC own cc nL (some rt) p s m args meth c D tys A) (hrt : (∃ n, rt = .object n) ∨ ∃ el, rt = .array el) (hdg : decode cc pc = .ok (.areturn, 1)) (u : α) (hv : a = rf u) (hw : ws = w1 u) : gG p l e R s m args below meth c D A nL (MQ below (hQnr D rf w1 A) args s kk nn A) kk nn pc lv [.ref a] ws := by
  subst hv
  subst hw
  exact fun H locs ls hP hD hS hl => W.aret (gC_x C0) (gC_b C0) (gC_r C0) hrt (Or.inr ⟨_, rfl⟩) (fun t ht hW => ⟨⟨(), rf u, rfl, trivial, u, rfl, show va_P D vwCl _ t.heap by rw [ht]; exact hP, hD⟩, hS.F ht⟩) hS.2.2 hdg (gC_l C0)
theorem g_widen {kk1 nn1 : Nat} (h1 : kk ≤ kk1) (h2 : nn ≤ nn1) (k : gG p l e R s m args below meth c D A nL Q kk1 nn1 pc lv st ws) : gG p l e R s m args below meth c D A nL Q kk nn pc lv st ws := fun H locs ls hP hD hS hl => W.widen h1 h2 (k H locs ls hP hD hS hl)
theorem g_bald {cB : ClassId} {a n : Nat} {f : Nat → Int32} {i : Int32} (C0 : gC own cc nL ret0 p s m args meth c D tys A) (q0 t0 : Nat) (ha : ws[q0]? = some (a, .inl (cB, n, .inl f))) (ht : tys[t0]? = some (cB, .byte)) (hin : hl_in i n = true) (hdg : decode cc pc = .ok (.baload, 1)) (k : gG p l e R s m args below meth c D A nL Q kk nn (pc + 1) lv (.int (f i.toNatClampNeg) :: st) ws) : gG p l e R s m args below meth c D A nL Q kk nn pc lv (.int i :: .ref a :: st) ws := fun H locs ls hP hD hS hl => va_bald (gC_x C0) (gC_b C0) (gC_K C0) hP q0 t0 ha ht (hl_inP hin) hdg (k H locs ls hP hD hS hl)
theorem g_bast {cB : ClassId} {a n : Nat} {f : Nat → Int32} {i x : Int32} (C0 : gC own cc nL ret0 p s m args meth c D tys A) (q0 t0 : Nat) (ha : ws[q0]? = some (a, .inl (cB, n, .inl f))) (ht : tys[t0]? = some (cB, .byte)) (hin : hl_in i n = true) (hdg : decode cc pc = .ok (.bastore, 1)) (hws : ws.set q0 (a, .inl (cB, n, .inl (upd f i.toNatClampNeg (vp_nar .byte x)))) = ws') (k : gG p l e R s m args below meth c D A nL Q kk nn (pc + 1) lv st ws') : gG p l e R s m args below meth c D A nL Q kk nn pc lv (.int x :: .int i :: .ref a :: st) ws := fun H locs ls hP hD hS hl => va_bast (gC_x C0) (gC_b C0) (gC_K C0) hP hD hS q0 t0 ha ht (hl_inP hin) hdg (fun H1 locs1 hP1 hD1 hS1 => by rw [hws] at hP1 hD1; exact k H1 locs1 ls hP1 hD1 hS1 hl)
theorem g_newB {cB : ClassId} {n : Int32} {N : Nat} (C0 : gC own cc nL ret0 p s m args meth c D tys A) (harr : Cond.arrayClass .byte ∈ hAll) (t0 : Nat) (ht : tys[t0]? = some (cB, .byte)) (hn : hl_in n (N + 1) = true) (hN : n.toNatClampNeg = N) (hby : N * componentBytes .byte ≤ 536870912) (hc : kk + 1 ≤ R.cells) (hs : nn + N ≤ R.slots) (hdg : decode cc pc = .ok (.newarray .byte, 2)) (k : ∀ q : Nat, gG p l e R s m args below meth c D A nL Q (kk + 1) (nn + N) (pc + 2) lv (.ref q :: st) (List.append ws [(q, .inl (cB, N, .inl (fun _ => 0)))])) : gG p l e R s m args below meth c D A nL Q kk nn pc lv (.int n :: st) ws := by
  intro H locs ls hP hD hS hl
  refine va_newa (atype := .byte) (ty := .byte) (a0 := (N, .inl (fun _ => 0))) (gC_x C0) (gC_b C0) (gC_t C0 _ harr) rfl (gC_K C0) hP hD hS (gC_A C0) (fun cA => rfl) (fun h => hl_inP hn (Or.inl h)) hN hby hc hs hdg (fun q cA H1 hK1 hP1 hD1 hS1 => ?_)
  have h1 := (hK1.2 tys.length (cA, .byte) (by simp)).2
  have h2 := ((gC_K C0).2 t0 (cB, .byte) ht).2
  have e1 : cA = cB := Option.some.inj (h1.symm.trans h2)
  subst e1
  exact k q H1 locs ls hP1 hD1 hS1 hl
end TK
theorem g_metE {l : Launch} {D : va_G} {tys : List (ClassId × FieldType)} {y : MethodName} {bytes : ByteArray} {maxL : Nat} {ret : Option FieldType} {rm : Room} {av : List Value} {wc : va_W} {lv0 : List (Nat × Value)} {Qf : (Nat → Prop) → Array Value → State → Outcome → State → Prop} {mc ms : Nat} {E : (Nat → Prop) → State → Prop}
    (hy : plainFor y = true) (hlen : (lg_sl av).length ≤ maxL) (hlv : lv_args 0 av = lv0)
    (body : ∀ {p : Program} {e : Env} {s : State} {m : MethodId} {args : Array Value} {below : List Frame} {meth : Method} {c : Code} {A : Nat → Prop}, gC y.cls bytes maxL ret p s m args meth c D tys A → E A s → gG p l e rm s m args below meth c D A maxL (MQ below (Qf A) args s mc ms A) 0 0 0 lv0 [] wc) :
    ∀ sz, Met l y (ws_ y bytes maxL ret) rm (va_Pc av (hPreE E D tys wc sz)) (Qf (va_A wc sz)) mc ms (va_A wc sz) := by
  intro sz
  refine hl_ofW (cc := bytes) (maxL := maxL) (ret := ret) hy rfl ?_
  intro p e s m args below meth c s₁ B hml hv
  obtain ⟨rfl, ⟨hsz, hP, hK, hD0, hN⟩, hE0⟩ := hv
  subst hsz
  have hts := atoms_spec (ws := ws_ y bytes maxL ret) B.pre
  have hown := findClass_of_methodNamed B.named
  have hD := hD0.self (sz := s.heap.size)
  have C0 : gC y.cls bytes maxL ret p s m av.toArray meth c D tys (va_A wc s.heap.size) := ⟨⟨B.exec, B.bytes, hml, hown, fun w h => hts w (List.mem_cons_of_mem _ h)⟩, hK, fun q h => Or.inr h, B.returns, B.notSynchronized, hN⟩
  have hl := lv_entry av (n := maxL) hlen
  rw [hlv] at hl
  rw [lg_entry_eq]
  exact body C0 hE0 s.heap [] _ hP hD va_S.rf hl
