/-! calls of methods that want more of the machine than their world: a side condition E -/
def hEok (E : (Nat → Prop) → State → Prop) : Prop := (∀ (A : Nat → Prop) (U : State) (g : JFrame) (mk : MethodId) (a : Array Value), E A U → E A (U.calling g mk a)) ∧ ∀ (A A' : Nat → Prop) (s U : State), E A s → (∀ a : Nat, a < s.heap.size → ¬ A a → U.heap[a]? = s.heap[a]?) → s.WarmedH U.vm → (∀ q, A' q → A q) → E A' U
def hPreE (E : (Nat → Prop) → State → Prop) (D : va_G) (tys : List (ClassId × FieldType)) (wc : va_W) (sz : Nat) : State → Prop := fun U => hPre D tys wc sz U ∧ E (va_A wc sz) U
theorem hPreE_blind {E : (Nat → Prop) → State → Prop} (hE : hEok E) {D : va_G} {tys : List (ClassId × FieldType)} {wc : va_W} {sz : Nat} {av : List Value} : FrameBlind (va_Pc av (hPreE E D tys wc sz)) := fun a U g mk q => by
  obtain ⟨q0, q1, q2⟩ := q
  obtain ⟨z0, z1⟩ := (hPre_blind (av := av) (D := D) (tys := tys) (wc := wc) (sz := sz)) a U g mk ⟨q0, q1⟩
  exact ⟨z0, z1, hE.1 _ _ _ _ _ q2⟩
section GE
variable {p : Program} {l : Launch} {e : Env} {R : Room} {s : State} {m : MethodId} {args : Array Value} {below : List Frame} {meth : Method} {c : Code} {D : va_G} {tys : List (ClassId × FieldType)} {A : Nat → Prop} {own : String} {cc : ByteArray} {nL : Nat} {ret0 : Option FieldType} {Q : State → Prop} {pc : Nat} {lv lv' : List (Nat × Value)} {st : List Value} {ws ws' : va_W} {kk nn : Nat} {E : (Nat → Prop) → State → Prop}
theorem g_callEVi (C0 : gC own cc nL ret0 p s m args meth c D tys A) (hE : hEok E) (E0 : E A s) {y : MethodName} {bytes : ByteArray} {maxL n index : Nat} {ret : Option FieldType} {rm : Room} {wc w1 : va_W} {r0 : Int32} {As : List Value} {st0 : List Value} {b ci N : Nat} {T : u_T} {fs : List Value} (hM : ∀ sz, Met l y (ws_ y bytes maxL ret) rm (va_Pc (.ref b :: As) (hPreE E D tys wc sz)) (hQi D w1 r0 (va_A wc sz)) 0 0 (va_A wc sz)) (hm : hMV y bytes maxL ret n) (hlink : Cond.methodLink own index y ∈ hAll) (hR : rm.frames + 1 ≤ R.frames ∧ 8 + (maxL + 11) + rm.locals ≤ R.locals) (hRc : kk ≤ R.cells ∧ nn ≤ R.slots) (hrc : rm.cells = 0) (hrs : rm.slots = 0) (isC : List Nat) (hC : isC.map (fun i => ws[i]?) = wc.map some) (hnd : va_nd isC = true) (hf1 : w1.map Prod.fst = wc.map Prod.fst) (hws : hl_repl ws isC w1 = ws') (hn : As.length = n) (q0 : Nat) (hb0 : wc[q0]? = some (b, .inr (ci, fs))) (hci : vwCl[ci]? = some (y.cls, T, N)) (hst : st0 = As.reverse ++ .ref b :: st) (hW : (st.map fun v => v.category).sum ≤ 8) (hdg : decode cc pc = .ok (.invokevirtual index, 3)) (k : gG p l e R s m args below meth c D A nL Q kk nn (pc + 3) lv (.int r0 :: st) ws') : gG p l e R s m args below meth c D A nL Q kk nn pc lv st0 ws := by
  intro H locs ls hP hD hS hl
  have hPc := hl_Psub hP isC hC
  have hDc := hD.sub isC hnd hC
  have hFc := va_free hD hS (gC_A C0) isC hC
  refine va_calli (va_runV (As := As) (rest := st) C0.1 (hM H.size) ⟨callB_of n (gC_t C0) (ws_good hm.1) rfl hrc hrs (gC_t C0 _ hm.2.1) (gC_t C0 _ hlink) hm.2.2.2.2 hR, gC_t C0 _ hm.2.2.1, gC_t C0 _ hm.2.2.2.1⟩ ⟨hPreE_blind hE, va_recv (gC_K C0) hPc hci hb0, fun U hU hW => ⟨rfl, ⟨by rw [hU], by rw [hU]; exact hPc, va_K.moved hW.alike (gC_K C0), hDc.weaken (fun _ _ _ _ => trivial), hNw_warm hW (gC_n C0)⟩, hE.2 A _ s U E0 (by rw [hU]; exact hS.2.1) hW hFc⟩⟩ rfl hn hl.1 hst (lv_room hW) hdg hRc) hS (fun q _ h => hFc q h) hFc (fun r u t H1 locs1 ht hvm hw hB hz1 hk1 hS1 => ?_)
  rw [ht] at hB
  obtain ⟨hP1, hD1⟩ := hl_back hP hD isC hC hf1 hk1 hB
  rw [hws] at hP1 hD1
  subst hw
  exact k H1 locs1 ls hP1 hD1 hS1 hl
theorem g_callECi (C0 : gC own cc nL ret0 p s m args meth c D tys A) (hE : hEok E) (E0 : E A s) {y : MethodName} {bytes : ByteArray} {maxL n index : Nat} {ret : Option FieldType} {rm : Room} {wc w1 : va_W} {r0 : Int32} {As : List Value} {st0 : List Value} {b : Nat} (hM : ∀ sz, Met l y (ws_ y bytes maxL ret) rm (va_Pc (.ref b :: As) (hPreE E D tys wc sz)) (hQi D w1 r0 (va_A wc sz)) 0 0 (va_A wc sz)) (hm : hMV y bytes maxL ret n) (hlink : Cond.methodLink own index y ∈ hAll) (hR : rm.frames + 1 ≤ R.frames ∧ 8 + (maxL + 11) + rm.locals ≤ R.locals) (hRc : kk ≤ R.cells ∧ nn ≤ R.slots) (hrc : rm.cells = 0) (hrs : rm.slots = 0) (isC : List Nat) (hC : isC.map (fun i => ws[i]?) = wc.map some) (hnd : va_nd isC = true) (hf1 : w1.map Prod.fst = wc.map Prod.fst) (hws : hl_repl ws isC w1 = ws') (hn : As.length = n) (hrv : ∀ {H : Heap} {locs : List Loc}, va_S A s.heap H locs → ∃ cellB : Cell, H[b]? = some cellB ∧ cellB.vm.isStatics = false ∧ s.vm.findClass y.cls = some cellB.cls) (hst : st0 = As.reverse ++ .ref b :: st) (hW : (st.map fun v => v.category).sum ≤ 8) (hdg : decode cc pc = .ok (.invokevirtual index, 3)) (k : gG p l e R s m args below meth c D A nL Q kk nn (pc + 3) lv (.int r0 :: st) ws') : gG p l e R s m args below meth c D A nL Q kk nn pc lv st0 ws := by
  intro H locs ls hP hD hS hl
  have hPc := hl_Psub hP isC hC
  have hDc := hD.sub isC hnd hC
  have hFc := va_free hD hS (gC_A C0) isC hC
  refine va_calli (va_runV (As := As) (rest := st) C0.1 (hM H.size) ⟨callB_of n (gC_t C0) (ws_good hm.1) rfl hrc hrs (gC_t C0 _ hm.2.1) (gC_t C0 _ hlink) hm.2.2.2.2 hR, gC_t C0 _ hm.2.2.1, gC_t C0 _ hm.2.2.2.1⟩ ⟨hPreE_blind hE, hrv hS, fun U hU hW => ⟨rfl, ⟨by rw [hU], by rw [hU]; exact hPc, va_K.moved hW.alike (gC_K C0), hDc.weaken (fun _ _ _ _ => trivial), hNw_warm hW (gC_n C0)⟩, hE.2 A _ s U E0 (by rw [hU]; exact hS.2.1) hW hFc⟩⟩ rfl hn hl.1 hst (lv_room hW) hdg hRc) hS (fun q _ h => hFc q h) hFc (fun r u t H1 locs1 ht hvm hw hB hz1 hk1 hS1 => ?_)
  rw [ht] at hB
  obtain ⟨hP1, hD1⟩ := hl_back hP hD isC hC hf1 hk1 hB
  rw [hws] at hP1 hD1
  subst hw
  exact k H1 locs1 ls hP1 hD1 hS1 hl
theorem g_callEVv (C0 : gC own cc nL ret0 p s m args meth c D tys A) (hE : hEok E) (E0 : E A s) {y : MethodName} {bytes : ByteArray} {maxL n index : Nat} {ret : Option FieldType} {rm : Room} {wc w1 : va_W} {As : List Value} {st0 : List Value} {b ci N : Nat} {T : u_T} {fs : List Value} (hM : ∀ sz, Met l y (ws_ y bytes maxL ret) rm (va_Pc (.ref b :: As) (hPreE E D tys wc sz)) (hQv D w1 (va_A wc sz)) 0 0 (va_A wc sz)) (hm : hMV y bytes maxL ret n) (hlink : Cond.methodLink own index y ∈ hAll) (hR : rm.frames + 1 ≤ R.frames ∧ 8 + (maxL + 11) + rm.locals ≤ R.locals) (hRc : kk ≤ R.cells ∧ nn ≤ R.slots) (hrc : rm.cells = 0) (hrs : rm.slots = 0) (isC : List Nat) (hC : isC.map (fun i => ws[i]?) = wc.map some) (hnd : va_nd isC = true) (hf1 : w1.map Prod.fst = wc.map Prod.fst) (hws : hl_repl ws isC w1 = ws') (hn : As.length = n) (q0 : Nat) (hb0 : wc[q0]? = some (b, .inr (ci, fs))) (hci : vwCl[ci]? = some (y.cls, T, N)) (hst : st0 = As.reverse ++ .ref b :: st) (hW : (st.map fun v => v.category).sum ≤ 8) (hdg : decode cc pc = .ok (.invokevirtual index, 3)) (k : gG p l e R s m args below meth c D A nL Q kk nn (pc + 3) lv (st) ws') : gG p l e R s m args below meth c D A nL Q kk nn pc lv st0 ws := by
  intro H locs ls hP hD hS hl
  have hPc := hl_Psub hP isC hC
  have hDc := hD.sub isC hnd hC
  have hFc := va_free hD hS (gC_A C0) isC hC
  refine va_callv (va_runV (As := As) (rest := st) C0.1 (hM H.size) ⟨callB_of n (gC_t C0) (ws_good hm.1) rfl hrc hrs (gC_t C0 _ hm.2.1) (gC_t C0 _ hlink) hm.2.2.2.2 hR, gC_t C0 _ hm.2.2.1, gC_t C0 _ hm.2.2.2.1⟩ ⟨hPreE_blind hE, va_recv (gC_K C0) hPc hci hb0, fun U hU hW => ⟨rfl, ⟨by rw [hU], by rw [hU]; exact hPc, va_K.moved hW.alike (gC_K C0), hDc.weaken (fun _ _ _ _ => trivial), hNw_warm hW (gC_n C0)⟩, hE.2 A _ s U E0 (by rw [hU]; exact hS.2.1) hW hFc⟩⟩ rfl hn hl.1 hst (lv_room hW) hdg hRc) hS (fun q _ h => hFc q h) hFc (fun u t H1 locs1 ht hvm hw hB hz1 hk1 hS1 => ?_)
  rw [ht] at hB
  obtain ⟨hP1, hD1⟩ := hl_back hP hD isC hC hf1 hk1 hB
  rw [hws] at hP1 hD1
  exact k H1 locs1 ls hP1 hD1 hS1 hl
theorem g_callEVq (C0 : gC own cc nL ret0 p s m args meth c D tys A) (hE : hEok E) (E0 : E A s) {y : MethodName} {bytes : ByteArray} {maxL n index : Nat} {ret : Option FieldType} {rm : Room} {wc w1 : va_W} {r0 : Option Nat} {As : List Value} {st0 : List Value} {b ci N : Nat} {T : u_T} {fs : List Value} (hM : ∀ sz, Met l y (ws_ y bytes maxL ret) rm (va_Pc (.ref b :: As) (hPreE E D tys wc sz)) (hQq D w1 r0 (va_A wc sz)) 0 0 (va_A wc sz)) (hm : hMV y bytes maxL ret n) (hlink : Cond.methodLink own index y ∈ hAll) (hR : rm.frames + 1 ≤ R.frames ∧ 8 + (maxL + 11) + rm.locals ≤ R.locals) (hRc : kk ≤ R.cells ∧ nn ≤ R.slots) (hrc : rm.cells = 0) (hrs : rm.slots = 0) (isC : List Nat) (hC : isC.map (fun i => ws[i]?) = wc.map some) (hnd : va_nd isC = true) (hf1 : w1.map Prod.fst = wc.map Prod.fst) (hws : hl_repl ws isC w1 = ws') (hn : As.length = n) (q0 : Nat) (hb0 : wc[q0]? = some (b, .inr (ci, fs))) (hci : vwCl[ci]? = some (y.cls, T, N)) (hst : st0 = As.reverse ++ .ref b :: st) (hW : (st.map fun v => v.category).sum ≤ 8) (hdg : decode cc pc = .ok (.invokevirtual index, 3)) (k : gG p l e R s m args below meth c D A nL Q kk nn (pc + 3) lv (va_rf r0 :: st) ws') : gG p l e R s m args below meth c D A nL Q kk nn pc lv st0 ws := by
  intro H locs ls hP hD hS hl
  have hPc := hl_Psub hP isC hC
  have hDc := hD.sub isC hnd hC
  have hFc := va_free hD hS (gC_A C0) isC hC
  refine va_callq (va_runV (As := As) (rest := st) C0.1 (hM H.size) ⟨callB_of n (gC_t C0) (ws_good hm.1) rfl hrc hrs (gC_t C0 _ hm.2.1) (gC_t C0 _ hlink) hm.2.2.2.2 hR, gC_t C0 _ hm.2.2.1, gC_t C0 _ hm.2.2.2.1⟩ ⟨hPreE_blind hE, va_recv (gC_K C0) hPc hci hb0, fun U hU hW => ⟨rfl, ⟨by rw [hU], by rw [hU]; exact hPc, va_K.moved hW.alike (gC_K C0), hDc.weaken (fun _ _ _ _ => trivial), hNw_warm hW (gC_n C0)⟩, hE.2 A _ s U E0 (by rw [hU]; exact hS.2.1) hW hFc⟩⟩ rfl hn hl.1 hst (lv_room hW) hdg hRc) hS (fun q _ h => hFc q h) hFc (fun r u t H1 locs1 ht hvm hw hB hz1 hk1 hS1 => ?_)
  rw [ht] at hB
  obtain ⟨hP1, hD1⟩ := hl_back hP hD isC hC hf1 hk1 hB
  rw [hws] at hP1 hD1
  subst hw
  exact k H1 locs1 ls hP1 hD1 hS1 hl
theorem g_callESi (C0 : gC own cc nL ret0 p s m args meth c D tys A) (hE : hEok E) (E0 : E A s) {y : MethodName} {bytes : ByteArray} {maxL n index : Nat} {ret : Option FieldType} {rm : Room} {wc w1 : va_W} {r0 : Int32} {As : List Value} {st0 : List Value} (hM : ∀ sz, Met l y (ws_ y bytes maxL ret) rm (va_Pc As (hPreE E D tys wc sz)) (hQi D w1 r0 (va_A wc sz)) 0 0 (va_A wc sz)) (hm : hMS y bytes maxL ret n) (hlink : Cond.methodLink own index y ∈ hAll) (hR : rm.frames + 1 ≤ R.frames ∧ 8 + (maxL + 11) + rm.locals ≤ R.locals) (hRc : kk ≤ R.cells ∧ nn ≤ R.slots) (hrc : rm.cells = 0) (hrs : rm.slots = 0) (isC : List Nat) (hC : isC.map (fun i => ws[i]?) = wc.map some) (hnd : va_nd isC = true) (hf1 : w1.map Prod.fst = wc.map Prod.fst) (hws : hl_repl ws isC w1 = ws') (hn : As.length = n) (hst : st0 = As.reverse ++ st) (hW : (st.map fun v => v.category).sum ≤ 8) (hdg : decode cc pc = .ok (.invokestatic index, 3)) (k : gG p l e R s m args below meth c D A nL Q kk nn (pc + 3) lv (.int r0 :: st) ws') : gG p l e R s m args below meth c D A nL Q kk nn pc lv st0 ws := by
  intro H locs ls hP hD hS hl
  have hPc := hl_Psub hP isC hC
  have hDc := hD.sub isC hnd hC
  have hFc := va_free hD hS (gC_A C0) isC hC
  refine va_calli (va_runS (As := As) (rest := st) C0.1 (hM H.size) ⟨callB_of n (gC_t C0) (ws_good hm.1) rfl hrc hrs (gC_t C0 _ hm.2.1) (gC_t C0 _ hlink) hm.2.2.2 hR, gC_t C0 _ hm.2.2.1⟩ ⟨hPreE_blind hE, fun U hU hW => ⟨rfl, ⟨by rw [hU], by rw [hU]; exact hPc, va_K.moved hW.alike (gC_K C0), hDc.weaken (fun _ _ _ _ => trivial), hNw_warm hW (gC_n C0)⟩, hE.2 A _ s U E0 (by rw [hU]; exact hS.2.1) hW hFc⟩⟩ rfl hn hl.1 hst (lv_room hW) hdg hRc) hS (fun q _ h => hFc q h) hFc (fun r u t H1 locs1 ht hvm hw hB hz1 hk1 hS1 => ?_)
  rw [ht] at hB
  obtain ⟨hP1, hD1⟩ := hl_back hP hD isC hC hf1 hk1 hB
  rw [hws] at hP1 hD1
  subst hw
  exact k H1 locs1 ls hP1 hD1 hS1 hl
theorem g_callESv (C0 : gC own cc nL ret0 p s m args meth c D tys A) (hE : hEok E) (E0 : E A s) {y : MethodName} {bytes : ByteArray} {maxL n index : Nat} {ret : Option FieldType} {rm : Room} {wc w1 : va_W} {As : List Value} {st0 : List Value} (hM : ∀ sz, Met l y (ws_ y bytes maxL ret) rm (va_Pc As (hPreE E D tys wc sz)) (hQv D w1 (va_A wc sz)) 0 0 (va_A wc sz)) (hm : hMS y bytes maxL ret n) (hlink : Cond.methodLink own index y ∈ hAll) (hR : rm.frames + 1 ≤ R.frames ∧ 8 + (maxL + 11) + rm.locals ≤ R.locals) (hRc : kk ≤ R.cells ∧ nn ≤ R.slots) (hrc : rm.cells = 0) (hrs : rm.slots = 0) (isC : List Nat) (hC : isC.map (fun i => ws[i]?) = wc.map some) (hnd : va_nd isC = true) (hf1 : w1.map Prod.fst = wc.map Prod.fst) (hws : hl_repl ws isC w1 = ws') (hn : As.length = n) (hst : st0 = As.reverse ++ st) (hW : (st.map fun v => v.category).sum ≤ 8) (hdg : decode cc pc = .ok (.invokestatic index, 3)) (k : gG p l e R s m args below meth c D A nL Q kk nn (pc + 3) lv (st) ws') : gG p l e R s m args below meth c D A nL Q kk nn pc lv st0 ws := by
  intro H locs ls hP hD hS hl
  have hPc := hl_Psub hP isC hC
  have hDc := hD.sub isC hnd hC
  have hFc := va_free hD hS (gC_A C0) isC hC
  refine va_callv (va_runS (As := As) (rest := st) C0.1 (hM H.size) ⟨callB_of n (gC_t C0) (ws_good hm.1) rfl hrc hrs (gC_t C0 _ hm.2.1) (gC_t C0 _ hlink) hm.2.2.2 hR, gC_t C0 _ hm.2.2.1⟩ ⟨hPreE_blind hE, fun U hU hW => ⟨rfl, ⟨by rw [hU], by rw [hU]; exact hPc, va_K.moved hW.alike (gC_K C0), hDc.weaken (fun _ _ _ _ => trivial), hNw_warm hW (gC_n C0)⟩, hE.2 A _ s U E0 (by rw [hU]; exact hS.2.1) hW hFc⟩⟩ rfl hn hl.1 hst (lv_room hW) hdg hRc) hS (fun q _ h => hFc q h) hFc (fun u t H1 locs1 ht hvm hw hB hz1 hk1 hS1 => ?_)
  rw [ht] at hB
  obtain ⟨hP1, hD1⟩ := hl_back hP hD isC hC hf1 hk1 hB
  rw [hws] at hP1 hD1
  exact k H1 locs1 ls hP1 hD1 hS1 hl
theorem g_callESq (C0 : gC own cc nL ret0 p s m args meth c D tys A) (hE : hEok E) (E0 : E A s) {y : MethodName} {bytes : ByteArray} {maxL n index : Nat} {ret : Option FieldType} {rm : Room} {wc w1 : va_W} {r0 : Option Nat} {As : List Value} {st0 : List Value} (hM : ∀ sz, Met l y (ws_ y bytes maxL ret) rm (va_Pc As (hPreE E D tys wc sz)) (hQq D w1 r0 (va_A wc sz)) 0 0 (va_A wc sz)) (hm : hMS y bytes maxL ret n) (hlink : Cond.methodLink own index y ∈ hAll) (hR : rm.frames + 1 ≤ R.frames ∧ 8 + (maxL + 11) + rm.locals ≤ R.locals) (hRc : kk ≤ R.cells ∧ nn ≤ R.slots) (hrc : rm.cells = 0) (hrs : rm.slots = 0) (isC : List Nat) (hC : isC.map (fun i => ws[i]?) = wc.map some) (hnd : va_nd isC = true) (hf1 : w1.map Prod.fst = wc.map Prod.fst) (hws : hl_repl ws isC w1 = ws') (hn : As.length = n) (hst : st0 = As.reverse ++ st) (hW : (st.map fun v => v.category).sum ≤ 8) (hdg : decode cc pc = .ok (.invokestatic index, 3)) (k : gG p l e R s m args below meth c D A nL Q kk nn (pc + 3) lv (va_rf r0 :: st) ws') : gG p l e R s m args below meth c D A nL Q kk nn pc lv st0 ws := by
  intro H locs ls hP hD hS hl
  have hPc := hl_Psub hP isC hC
  have hDc := hD.sub isC hnd hC
  have hFc := va_free hD hS (gC_A C0) isC hC
  refine va_callq (va_runS (As := As) (rest := st) C0.1 (hM H.size) ⟨callB_of n (gC_t C0) (ws_good hm.1) rfl hrc hrs (gC_t C0 _ hm.2.1) (gC_t C0 _ hlink) hm.2.2.2 hR, gC_t C0 _ hm.2.2.1⟩ ⟨hPreE_blind hE, fun U hU hW => ⟨rfl, ⟨by rw [hU], by rw [hU]; exact hPc, va_K.moved hW.alike (gC_K C0), hDc.weaken (fun _ _ _ _ => trivial), hNw_warm hW (gC_n C0)⟩, hE.2 A _ s U E0 (by rw [hU]; exact hS.2.1) hW hFc⟩⟩ rfl hn hl.1 hst (lv_room hW) hdg hRc) hS (fun q _ h => hFc q h) hFc (fun r u t H1 locs1 ht hvm hw hB hz1 hk1 hS1 => ?_)
  rw [ht] at hB
  obtain ⟨hP1, hD1⟩ := hl_back hP hD isC hC hf1 hk1 hB
  rw [hws] at hP1 hD1
  subst hw
  exact k H1 locs1 ls hP1 hD1 hS1 hl
end GE
theorem g_metE {l : Launch} {D : va_G} {tys : List (ClassId × FieldType)} {y : MethodName} {bytes : ByteArray} {maxL : Nat} {ret : Option FieldType} {rm : Room} {av : List Value} {wc : va_W} {lv0 : List (Nat × Value)} {Qf : (Nat → Prop) → Array Value → State → Outcome → State → Prop} {mc ms : Nat} {E : (Nat → Prop) → State → Prop}
    (hy : plainFor y = true) (hlen : (lg_sl av).length ≤ maxL) (hlv : lv_args 0 av = lv0)
    (body : ∀ {p : Program} {e : Env} {s : State} {m : MethodId} {args : Array Value} {below : List Frame} {meth : Method} {c : Code} {A : Nat → Prop}, gC y.cls bytes maxL ret p s m args meth c D tys A → E A s → gG p l e rm s m args below meth c D A maxL (MQ below (Qf A) args s mc ms A) 0 0 0 lv0 [] wc) :
    ∀ sz, Met l y (ws_ y bytes maxL ret) rm (va_Pc av (hPreE E D tys wc sz)) (Qf (va_A wc sz)) mc ms (va_A wc sz) := by
  intro sz
  refine hl_ofW (cc := bytes) (maxL := maxL) (ret := ret) hy rfl ?_
  intro p e s m args below meth c s₁ B hml hv
  obtain ⟨rfl, ⟨hsz, hP, hK, hD0, hN⟩, hE0⟩ := hv
  subst hsz
  have hts := atoms_spec (ws := ws_ y bytes maxL ret) B.pre
  have hown := findClass_of_methodNamed B.named
  have hD := hD0.self (sz := s.heap.size)
  have C0 : gC y.cls bytes maxL ret p s m av.toArray meth c D tys (va_A wc s.heap.size) := ⟨⟨B.exec, B.bytes, hml, hown, fun w h => hts w (List.mem_cons_of_mem _ h)⟩, hK, fun q h => Or.inr h, B.returns, B.notSynchronized, hN⟩
  have hl := lv_entry av (n := maxL) hlen
  rw [hlv] at hl
  rw [lg_entry_eq]
  exact body C0 hE0 s.heap [] _ hP hD va_S.rf hl
/-- the verbs' texts -/
def hVL : List Nat := [4, 7, 5, 6, 5, 7, 5]
def hVB : List (List Int32) := [[112, 117, 116, 32], [114, 101, 109, 111, 118, 101, 32], [107, 105, 110, 100, 32], [108, 105, 109, 105, 116, 32], [115, 101, 101, 100, 32], [114, 101, 98, 117, 105, 108, 100], [99, 108, 101, 97, 114]]
def hVT : List (Nat × String) := [(99, "put "), (101, "remove "), (103, "kind "), (105, "limit "), (107, "seed "), (109, "rebuild"), (111, "clear")]
def hSt (adK adV : Nat → Nat) (A : Nat → Prop) (U : State) : Prop := va_Z "java/lang/String" "COMPACT_STRINGS" "Z" (.int 1) A U U.heap ∧ vk_S 7 hVL hVB adK adV A U U.heap ∧ va_Zq "jdk/internal/util/Preconditions" "SIOOBE_FORMATTER" "Ljava/util/function/BiFunction;" A U U.heap ∧ ∀ (i : Nat) (q : Nat × String), hVT[i]? = some q → vk_R RX4 q.1 q.2 (adK i) U
theorem hSt_ok (adK adV : Nat → Nat) : hEok (hSt adK adV) := by
  refine ⟨fun A U g mk a h => ?_, fun A A' s U h hq hW hAA => ?_⟩
  · exact ⟨va_Z.moved (u := U) (U := U.calling g mk a) (Vm.Alike.refl U.vm) h.1, vk_S.moved (u := U) (U := U.calling g mk a) (Vm.Alike.refl U.vm) h.2.1, va_Zq.moved (u := U) (U := U.calling g mk a) (Vm.Alike.refl U.vm) h.2.2.1, fun i q hi => vk_R.same (u := U) (U := U.calling g mk a) rfl (h.2.2.2 i q hi)⟩
  · exact ⟨((h.1.kept hq).moved hW.alike).narrow hAA, ((h.2.1.kept hq).moved hW.alike).narrow hAA, ((h.2.2.1.kept hq).moved hW.alike).narrow hAA, fun i q hi => vk_R.warm hW (h.2.2.2 i q hi)⟩
