/-! the law's kit: what its methods want of the machine, calls inside a longer world -/
def hNc (U : State) : Prop := va_Nc (hExn 2) (hExn 1) U ∧ va_Nc (hExn 3) (hExn 4) U
theorem hNc_moved {u U : State} (hvm : u.vm.Alike U.vm) (h : hNc u) : hNc U := ⟨h.1.moved hvm, h.2.moved hvm⟩
/-- the law's texts: "", "x", ".", "+", ",", "=" -/
def kVL : List Nat := [0, 1, 1, 1, 1, 1]
def kVB : List (List Int32) := [[], [120], [46], [43], [44], [61]]
def kVT : List (Nat × String) := [(123, ""), (141, "x"), (143, "."), (152, "+"), (166, ","), (168, "=")]
def kLen (i : Nat) : Nat := kVL.getD i 0
def kByt (i : Nat) : Nat → Int32 := fun j => (kVB.getD i []).getD j 0
/-- adK, adV: the texts' objects and bytes; b, L, xs: the script -/
abbrev LG : Type := (Nat → Nat) × (Nat → Nat) × Nat × Nat × (Nat → Int32)
def hKt (g : LG) (A : Nat → Prop) (U : State) : Prop := vk_S 6 kVL kVB g.1 g.2.1 A U U.heap ∧ ∀ (i : Nat) (q : Nat × String), kVT[i]? = some q → vk_R RL q.1 q.2 (g.1 i) U
def hSc (g : LG) (A : Nat → Prop) (U : State) : Prop := va_X g.2.2.1 g.2.2.2.1 g.2.2.2.2 U U.heap ∧ g.2.2.1 < U.heap.size ∧ ¬ A g.2.2.1
def hLw (g : LG) (A : Nat → Prop) (U : State) : Prop := (hZ A U ∧ jE A U) ∧ hKt g A U ∧ hNc U ∧ va_AO "HashLab$Table" U ∧ hSc g A U
theorem hKt_ok (g : LG) : hEok (hKt g) :=
  ⟨fun A U g9 mk a h => ⟨vk_S.moved (u := U) (U := U.calling g9 mk a) (Vm.Alike.refl U.vm) h.1, fun i q hi => vk_R.same (u := U) (U := U.calling g9 mk a) rfl (h.2 i q hi)⟩,
   fun A A' s U h hq hW hAA => ⟨((h.1.kept hq).moved hW.alike).narrow hAA, fun i q hi => vk_R.warm hW (h.2 i q hi)⟩⟩
theorem hX_moved {b L : Nat} {xs : Nat → Int32} {u U : State} {H : Heap} (hvm : u.vm.Alike U.vm) (h : va_X b L xs u H) : va_X b L xs U H := by
  obtain ⟨scr, h1, h2, h3, h4, h5⟩ := h
  exact ⟨scr, h1, State.isArrayOf_alike hvm h2, h3, h4, h5⟩
theorem hSc_ok (g : LG) : hEok (hSc g) := by
  refine ⟨fun A U g9 mk a h => ⟨hX_moved (u := U) (U := U.calling g9 mk a) (Vm.Alike.refl U.vm) h.1, h.2.1, h.2.2⟩, fun A A' s U h hq hW hAA => ?_⟩
  obtain ⟨⟨scr, h1, h2, h3, h4, h5⟩, hb, hn⟩ := h
  have e1 : U.heap[g.2.2.1]? = some scr := (hq _ hb hn).trans h1
  exact ⟨⟨scr, e1, State.isArrayOf_alike hW.alike h2, h3, h4, h5⟩, (Array.getElem?_eq_some_iff.mp e1).1, fun z => hn (hAA _ z)⟩
theorem hLw_ok (g : LG) : hEok (hLw g) :=
  ⟨fun A U g9 mk a h => ⟨⟨hZ_call h.1.1, jE_ok.1 A U g9 mk a h.1.2⟩, (hKt_ok g).1 A U g9 mk a h.2.1, hNc_moved (u := U) (U := U.calling g9 mk a) (Vm.Alike.refl U.vm) h.2.2.1, va_AO.moved (u := U) (U := U.calling g9 mk a) (Vm.Alike.refl U.vm) h.2.2.2.1, (hSc_ok g).1 A U g9 mk a h.2.2.2.2⟩,
   fun A A' s U h hq hW hAA => ⟨⟨hZ_at h.1.1 hq hW hAA, jE_ok.2 A A' s U h.1.2 hq hW hAA⟩, (hKt_ok g).2 A A' s U h.2.1 hq hW hAA, hNc_moved hW.alike h.2.2.1, va_AO.moved hW.alike h.2.2.2.1, (hSc_ok g).2 A A' s U h.2.2.2.2 hq hW hAA⟩⟩
/-- a constant of the law's as a text -/
theorem hKt_tx {g : LG} {A : Nat → Prop} {U : State} (h : hKt g A U) {i : Nat} (hi : i < 6) : tx_S (g.1 i) (g.2.1 i) (kLen i) (kByt i) A U := ⟨(h.1.1 i hi).1, (h.1.1 i hi).2.1, (h.1.1 i hi).2.2.1, (h.1.1 i hi).2.2.2⟩
theorem kAsc : ∀ i, i < 6 → asc (kLen i) (kByt i) := by
  intro i hi j hj
  have h : ∀ i, i < 6 → ∀ j, j < kLen i → (kByt i j).toNatClampNeg < 128 ∧ kByt i j = Int32.ofNat (kByt i j).toNatClampNeg := by decide +kernel
  exact ⟨_, (h i hi j hj).1, (h i hi j hj).2⟩
/-- what a mirror takes of a call that throws: its answer, or none -/
def inlD {α β γ : Type} (r : α ⊕ β) (g : α → Option γ) : Option γ := match r with
  | .inl v => g v
  | .inr _ => none
theorem hl_inl {α β γ : Type} {r : α ⊕ β} {g : α → Option γ} {o : γ} (h : inlD r g = some o) : ∃ z, r = .inl z ∧ g z = some o := by
  cases r with
  | inl v => exact ⟨v, rfl, h⟩
  | inr k => cases h
theorem ll_backS {A0 : Nat → Prop} {D : va_G} {cl : List vw_C} {P X X1 : va_W} {H H1 : Heap} (hP : va_P D cl (List.append P X) H) (hD : va_D A0 (List.append P X)) (hf1 : X1.map Prod.fst = X.map Prod.fst) (hk : ∀ q : Nat, q < H.size → ¬ va_A X H.size q → H1[q]? = H[q]?) (hP1 : va_P D cl X1 H1) : va_P D cl (List.append P X1) H1 ∧ va_D A0 (List.append P X1) := by
  refine ⟨va_P.app (fun k q hkq => ?_) hP1, hl_Dfst (ws := List.append P X) ?_ hD⟩
  · have hl := (hl_PL hP k q hkq).lt
    refine (hl_PL hP k q hkq).kept (hk q.1 hl (fun h => ?_))
    rcases h with ⟨k2, e, h⟩ | h
    · exact hl_DX hD k k2 q (q.1, e) hkq h rfl
    · omega
  · show (P ++ X1).map Prod.fst = (P ++ X).map Prod.fst
    rw [List.map_append, List.map_append, hf1]
theorem ll_backP {A0 : Nat → Prop} {D : va_G} {cl : List vw_C} {X X1 S : va_W} {H H1 : Heap} (hP : va_P D cl (List.append X S) H) (hD : va_D A0 (List.append X S)) (hf1 : X1.map Prod.fst = X.map Prod.fst) (hk : ∀ q : Nat, q < H.size → ¬ va_A X H.size q → H1[q]? = H[q]?) (hP1 : va_P D cl X1 H1) : va_P D cl (List.append X1 S) H1 ∧ va_D A0 (List.append X1 S) := by
  refine ⟨va_P.app hP1 (fun k q hkq => ?_), hl_Dfst (ws := List.append X S) ?_ hD⟩
  · have hl := (hl_PR hP k q hkq).lt
    refine (hl_PR hP k q hkq).kept (hk q.1 hl (fun h => ?_))
    rcases h with ⟨k2, e, h⟩ | h
    · exact hl_DX hD k2 k (q.1, e) q h hkq rfl
    · omega
  · show (X1 ++ S).map Prod.fst = (X ++ S).map Prod.fst
    rw [List.map_append, List.map_append, hf1]
/-- the handler that takes an exception -/
def hHd (c : Code) (args : Array Value) (s : State) (own : String) (pc : Nat) (E : String) (h : Nat) : Prop := ∃ (pre : List ExceptionTableEntry) (x : ExceptionTableEntry) (suf : List ExceptionTableEntry) (name : String), c.exceptionTable.toList = pre ++ x :: suf ∧ (∀ z ∈ pre, covers z pc = false ∨ (z.catchType ≠ 0 ∧ ∃ nm : String, (Cond.classLink own z.catchType nm).before args s = true ∧ va_Nc E nm s)) ∧ covers x pc = true ∧ x.catchType ≠ 0 ∧ (Cond.classLink own x.catchType name).before args s = true ∧ (Cond.castable E name).before args s = true ∧ x.handlerPc = h
theorem hHd1 {c : Code} {args : Array Value} {s : State} {own : String} {pc : Nat} {E : String} {a b h t : Nat} {suf : List (Nat × Nat × Nat × Nat)} (hT : c.exceptionTable.toList = tableOf ((a, b, h, t) :: suf)) (hc : covers ⟨a, b, h, t⟩ pc = true) (h0 : t ≠ 0) {name : String} (hl : (Cond.classLink own t name).before args s = true) (hk : (Cond.castable E name).before args s = true) : hHd c args s own pc E h := ⟨[], ⟨a, b, h, t⟩, tableOf suf, name, hT, (fun _ z => absurd z List.not_mem_nil), hc, h0, hl, hk, rfl⟩
theorem hHd2 {c : Code} {args : Array Value} {s : State} {own : String} {pc : Nat} {E : String} {a b h t a1 b1 h1 t1 : Nat} {suf : List (Nat × Nat × Nat × Nat)} (hT : c.exceptionTable.toList = tableOf ((a1, b1, h1, t1) :: (a, b, h, t) :: suf)) (h10 : t1 ≠ 0) {nm : String} (hl1 : (Cond.classLink own t1 nm).before args s = true) (hn : va_Nc E nm s) (hc : covers ⟨a, b, h, t⟩ pc = true) (h0 : t ≠ 0) {name : String} (hl : (Cond.classLink own t name).before args s = true) (hk : (Cond.castable E name).before args s = true) : hHd c args s own pc E h := ⟨[⟨a1, b1, h1, t1⟩], ⟨a, b, h, t⟩, tableOf suf, name, hT, (fun z hz => by
  cases List.mem_singleton.mp hz
  exact Or.inr ⟨h10, nm, hl1, hn⟩), hc, h0, hl, hk, rfl⟩
abbrev wsW_ (y : MethodName) (cc : ByteArray) (nL : Nat) (hh : List (Nat × Nat × Nat × Nat)) : List Cond := Cond.codeWith y cc nL (some .int) hh :: hAll
def hMW (y : MethodName) (cc : ByteArray) (nL : Nat) (hh : List (Nat × Nat × Nat × Nat)) (n : Nat) : Prop := Cond.codeWith y cc nL (some .int) hh ∈ hAll ∧ Cond.initialized y.cls ∈ hAll ∧ Cond.static y ∈ hAll ∧ (y.cls ≠ "java/lang/invoke/MethodHandle" ∧ y.cls ≠ "java/lang/invoke/VarHandle" ∧ (parseMethodDescriptor y.desc).map (fun d => d.parameters.length) = some n)
theorem wsW_good {own : String} {index : Nat} {y : MethodName} {cc : ByteArray} {nL : Nat} {hh : List (Nat × Nat × Nat × Nat)} {n : Nat} (h : hMW y cc nL hh n) (hlink : Cond.methodLink own index y ∈ hAll) : GoodIn hAll (va_wsS own index y (wsW_ y cc nL hh)) := by
  intro w hw
  refine hAll_good w ?_
  rcases List.mem_append.mp hw with hw | hw
  · simp only [List.mem_cons, List.not_mem_nil, or_false] at hw
    rcases hw with rfl | rfl | rfl
    · exact hlink
    · exact h.2.2.1
    · exact h.2.1
  · rcases List.mem_cons.mp hw with rfl | hw
    · exact h.1
    · exact hw
section LK
variable {p : Program} {l : Launch} {e : Env} {R : Room} {s : State} {m : MethodId} {args : Array Value} {below : List Frame} {meth : Method} {c : Code} {D : va_G} {tys : List (ClassId × FieldType)} {A : Nat → Prop} {own : String} {cc : ByteArray} {nL : Nat} {ret0 : Option FieldType} {Q : State → Prop} {pc : Nat} {lv lv' : List (Nat × Value)} {st : List Value} {ws ws' : va_W} {kk nn : Nat}
theorem g_sufi (C0 : gC own cc nL ret0 p s m args meth c D tys A) {y : MethodName} {bytes : ByteArray} {maxL n index : Nat} {ret : Option FieldType} {rm : Room} {P X X1 : va_W} {r0 : Int32} {As : List Value} {st0 : List Value} {b ci N : Nat} {T : u_T} {fs : List Value} (hM : ∀ sz, Met l y (ws_ y bytes maxL ret) rm (va_Pc (.ref b :: As) (hPre D tys X sz)) (hQi D X1 r0 (va_A X sz)) 0 0 (va_A X sz)) (hm : hMV y bytes maxL ret n) (hlink : Cond.methodLink own index y ∈ hAll) (hR : rm.frames + 1 ≤ R.frames ∧ 8 + (maxL + 11) + rm.locals ≤ R.locals) (hRc : kk ≤ R.cells ∧ nn ≤ R.slots) (hrc : rm.cells = 0) (hrs : rm.slots = 0) (e1 : ws = List.append P X) (hf1 : X1.map Prod.fst = X.map Prod.fst) (hn : As.length = n) (q0 : Nat) (hb0 : X[q0]? = some (b, .inr (ci, fs))) (hci : vwCl[ci]? = some (y.cls, T, N)) (hst : st0 = As.reverse ++ .ref b :: st) (hW : (st.map fun v => v.category).sum ≤ 8) (hdg : decode cc pc = .ok (.invokevirtual index, 3)) (k : gG p l e R s m args below meth c D A nL Q kk nn (pc + 3) lv (.int r0 :: st) (List.append P X1)) : gG p l e R s m args below meth c D A nL Q kk nn pc lv st0 ws := by
  subst e1
  intro H locs ls hP hD hS hl
  have hPc := hl_PR hP
  have hDc := hl_DR hD
  have hFc : ∀ q, va_A X H.size q → A q := fun q h => by
    rcases h with ⟨k, e, h⟩ | h
    · exact hDc.2 k (q, e) h
    · exact gC_A C0 q (Nat.le_trans hS.1 h)
  refine va_calli (va_runV (As := As) (rest := st) C0.1 (hM H.size) ⟨callB_of n (gC_t C0) (ws_good hm.1) rfl hrc hrs (gC_t C0 _ hm.2.1) (gC_t C0 _ hlink) hm.2.2.2.2 hR, gC_t C0 _ hm.2.2.1, gC_t C0 _ hm.2.2.2.1⟩ ⟨hPre_blind, va_recv (gC_K C0) hPc hci hb0, fun U hU hW => ⟨rfl, by rw [hU], by rw [hU]; exact hPc, va_K.moved hW.alike (gC_K C0), hDc.weaken (fun _ _ _ _ => trivial), hNw_warm hW (gC_n C0)⟩⟩ rfl hn hl.1 hst (lv_room hW) hdg hRc) hS (fun q _ h => hFc q h) hFc (fun r u t H1 locs1 ht hvm hw hB hz1 hk1 hS1 => ?_)
  rw [ht] at hB
  obtain ⟨hP1, hD1⟩ := ll_backS hP hD hf1 hk1 hB
  subst hw
  exact k H1 locs1 ls hP1 hD1 hS1 hl
theorem g_sufl (C0 : gC own cc nL ret0 p s m args meth c D tys A) {y : MethodName} {bytes : ByteArray} {maxL n index : Nat} {ret : Option FieldType} {rm : Room} {P X X1 : va_W} {r0 : Int64} {As : List Value} {st0 : List Value} {b ci N : Nat} {T : u_T} {fs : List Value} (hM : ∀ sz, Met l y (ws_ y bytes maxL ret) rm (va_Pc (.ref b :: As) (hPre D tys X sz)) (hQl D X1 r0 (va_A X sz)) 0 0 (va_A X sz)) (hm : hMV y bytes maxL ret n) (hlink : Cond.methodLink own index y ∈ hAll) (hR : rm.frames + 1 ≤ R.frames ∧ 8 + (maxL + 11) + rm.locals ≤ R.locals) (hRc : kk ≤ R.cells ∧ nn ≤ R.slots) (hrc : rm.cells = 0) (hrs : rm.slots = 0) (e1 : ws = List.append P X) (hf1 : X1.map Prod.fst = X.map Prod.fst) (hn : As.length = n) (q0 : Nat) (hb0 : X[q0]? = some (b, .inr (ci, fs))) (hci : vwCl[ci]? = some (y.cls, T, N)) (hst : st0 = As.reverse ++ .ref b :: st) (hW : (st.map fun v => v.category).sum ≤ 8) (hdg : decode cc pc = .ok (.invokevirtual index, 3)) (k : gG p l e R s m args below meth c D A nL Q kk nn (pc + 3) lv (.long r0 :: st) (List.append P X1)) : gG p l e R s m args below meth c D A nL Q kk nn pc lv st0 ws := by
  subst e1
  intro H locs ls hP hD hS hl
  have hPc := hl_PR hP
  have hDc := hl_DR hD
  have hFc : ∀ q, va_A X H.size q → A q := fun q h => by
    rcases h with ⟨k, e, h⟩ | h
    · exact hDc.2 k (q, e) h
    · exact gC_A C0 q (Nat.le_trans hS.1 h)
  refine va_calll (va_runV (As := As) (rest := st) C0.1 (hM H.size) ⟨callB_of n (gC_t C0) (ws_good hm.1) rfl hrc hrs (gC_t C0 _ hm.2.1) (gC_t C0 _ hlink) hm.2.2.2.2 hR, gC_t C0 _ hm.2.2.1, gC_t C0 _ hm.2.2.2.1⟩ ⟨hPre_blind, va_recv (gC_K C0) hPc hci hb0, fun U hU hW => ⟨rfl, by rw [hU], by rw [hU]; exact hPc, va_K.moved hW.alike (gC_K C0), hDc.weaken (fun _ _ _ _ => trivial), hNw_warm hW (gC_n C0)⟩⟩ rfl hn hl.1 hst (lv_room hW) hdg hRc) hS (fun q _ h => hFc q h) hFc (fun r u t H1 locs1 ht hvm hw hB hz1 hk1 hS1 => ?_)
  rw [ht] at hB
  obtain ⟨hP1, hD1⟩ := ll_backS hP hD hf1 hk1 hB
  subst hw
  exact k H1 locs1 ls hP1 hD1 hS1 hl
theorem g_suff (C0 : gC own cc nL ret0 p s m args meth c D tys A) {y : MethodName} {bytes : ByteArray} {maxL n index : Nat} {ret : Option FieldType} {rm : Room} {P X X1 : va_W} {r0 : UInt32} {As : List Value} {st0 : List Value} {b ci N : Nat} {T : u_T} {fs : List Value} (hM : ∀ sz, Met l y (ws_ y bytes maxL ret) rm (va_Pc (.ref b :: As) (hPre D tys X sz)) (hQf D X1 r0 (va_A X sz)) 0 0 (va_A X sz)) (hm : hMV y bytes maxL ret n) (hlink : Cond.methodLink own index y ∈ hAll) (hR : rm.frames + 1 ≤ R.frames ∧ 8 + (maxL + 11) + rm.locals ≤ R.locals) (hRc : kk ≤ R.cells ∧ nn ≤ R.slots) (hrc : rm.cells = 0) (hrs : rm.slots = 0) (e1 : ws = List.append P X) (hf1 : X1.map Prod.fst = X.map Prod.fst) (hn : As.length = n) (q0 : Nat) (hb0 : X[q0]? = some (b, .inr (ci, fs))) (hci : vwCl[ci]? = some (y.cls, T, N)) (hst : st0 = As.reverse ++ .ref b :: st) (hW : (st.map fun v => v.category).sum ≤ 8) (hdg : decode cc pc = .ok (.invokevirtual index, 3)) (k : gG p l e R s m args below meth c D A nL Q kk nn (pc + 3) lv (.float r0 :: st) (List.append P X1)) : gG p l e R s m args below meth c D A nL Q kk nn pc lv st0 ws := by
  subst e1
  intro H locs ls hP hD hS hl
  have hPc := hl_PR hP
  have hDc := hl_DR hD
  have hFc : ∀ q, va_A X H.size q → A q := fun q h => by
    rcases h with ⟨k, e, h⟩ | h
    · exact hDc.2 k (q, e) h
    · exact gC_A C0 q (Nat.le_trans hS.1 h)
  refine va_callf (va_runV (As := As) (rest := st) C0.1 (hM H.size) ⟨callB_of n (gC_t C0) (ws_good hm.1) rfl hrc hrs (gC_t C0 _ hm.2.1) (gC_t C0 _ hlink) hm.2.2.2.2 hR, gC_t C0 _ hm.2.2.1, gC_t C0 _ hm.2.2.2.1⟩ ⟨hPre_blind, va_recv (gC_K C0) hPc hci hb0, fun U hU hW => ⟨rfl, by rw [hU], by rw [hU]; exact hPc, va_K.moved hW.alike (gC_K C0), hDc.weaken (fun _ _ _ _ => trivial), hNw_warm hW (gC_n C0)⟩⟩ rfl hn hl.1 hst (lv_room hW) hdg hRc) hS (fun q _ h => hFc q h) hFc (fun r u t H1 locs1 ht hvm hw hB hz1 hk1 hS1 => ?_)
  rw [ht] at hB
  obtain ⟨hP1, hD1⟩ := ll_backS hP hD hf1 hk1 hB
  subst hw
  exact k H1 locs1 ls hP1 hD1 hS1 hl
theorem g_sufd (C0 : gC own cc nL ret0 p s m args meth c D tys A) {y : MethodName} {bytes : ByteArray} {maxL n index : Nat} {ret : Option FieldType} {rm : Room} {P X X1 : va_W} {r0 : UInt64} {As : List Value} {st0 : List Value} {b ci N : Nat} {T : u_T} {fs : List Value} (hM : ∀ sz, Met l y (ws_ y bytes maxL ret) rm (va_Pc (.ref b :: As) (hPre D tys X sz)) (hQd D X1 r0 (va_A X sz)) 0 0 (va_A X sz)) (hm : hMV y bytes maxL ret n) (hlink : Cond.methodLink own index y ∈ hAll) (hR : rm.frames + 1 ≤ R.frames ∧ 8 + (maxL + 11) + rm.locals ≤ R.locals) (hRc : kk ≤ R.cells ∧ nn ≤ R.slots) (hrc : rm.cells = 0) (hrs : rm.slots = 0) (e1 : ws = List.append P X) (hf1 : X1.map Prod.fst = X.map Prod.fst) (hn : As.length = n) (q0 : Nat) (hb0 : X[q0]? = some (b, .inr (ci, fs))) (hci : vwCl[ci]? = some (y.cls, T, N)) (hst : st0 = As.reverse ++ .ref b :: st) (hW : (st.map fun v => v.category).sum ≤ 8) (hdg : decode cc pc = .ok (.invokevirtual index, 3)) (k : gG p l e R s m args below meth c D A nL Q kk nn (pc + 3) lv (.double r0 :: st) (List.append P X1)) : gG p l e R s m args below meth c D A nL Q kk nn pc lv st0 ws := by
  subst e1
  intro H locs ls hP hD hS hl
  have hPc := hl_PR hP
  have hDc := hl_DR hD
  have hFc : ∀ q, va_A X H.size q → A q := fun q h => by
    rcases h with ⟨k, e, h⟩ | h
    · exact hDc.2 k (q, e) h
    · exact gC_A C0 q (Nat.le_trans hS.1 h)
  refine va_calld (va_runV (As := As) (rest := st) C0.1 (hM H.size) ⟨callB_of n (gC_t C0) (ws_good hm.1) rfl hrc hrs (gC_t C0 _ hm.2.1) (gC_t C0 _ hlink) hm.2.2.2.2 hR, gC_t C0 _ hm.2.2.1, gC_t C0 _ hm.2.2.2.1⟩ ⟨hPre_blind, va_recv (gC_K C0) hPc hci hb0, fun U hU hW => ⟨rfl, by rw [hU], by rw [hU]; exact hPc, va_K.moved hW.alike (gC_K C0), hDc.weaken (fun _ _ _ _ => trivial), hNw_warm hW (gC_n C0)⟩⟩ rfl hn hl.1 hst (lv_room hW) hdg hRc) hS (fun q _ h => hFc q h) hFc (fun r u t H1 locs1 ht hvm hw hB hz1 hk1 hS1 => ?_)
  rw [ht] at hB
  obtain ⟨hP1, hD1⟩ := ll_backS hP hD hf1 hk1 hB
  subst hw
  exact k H1 locs1 ls hP1 hD1 hS1 hl
theorem g_prei (C0 : gC own cc nL ret0 p s m args meth c D tys A) {y : MethodName} {bytes : ByteArray} {maxL n index : Nat} {ret : Option FieldType} {rm : Room} {P X X1 : va_W} {r0 : Int32} {As : List Value} {st0 : List Value} {b ci N : Nat} {T : u_T} {fs : List Value} (hM : ∀ sz, Met l y (ws_ y bytes maxL ret) rm (va_Pc (.ref b :: As) (hPre D tys X sz)) (hQi D X1 r0 (va_A X sz)) 0 0 (va_A X sz)) (hm : hMV y bytes maxL ret n) (hlink : Cond.methodLink own index y ∈ hAll) (hR : rm.frames + 1 ≤ R.frames ∧ 8 + (maxL + 11) + rm.locals ≤ R.locals) (hRc : kk ≤ R.cells ∧ nn ≤ R.slots) (hrc : rm.cells = 0) (hrs : rm.slots = 0) (e1 : ws = List.append X P) (hf1 : X1.map Prod.fst = X.map Prod.fst) (hn : As.length = n) (q0 : Nat) (hb0 : X[q0]? = some (b, .inr (ci, fs))) (hci : vwCl[ci]? = some (y.cls, T, N)) (hst : st0 = As.reverse ++ .ref b :: st) (hW : (st.map fun v => v.category).sum ≤ 8) (hdg : decode cc pc = .ok (.invokevirtual index, 3)) (k : gG p l e R s m args below meth c D A nL Q kk nn (pc + 3) lv (.int r0 :: st) (List.append X1 P)) : gG p l e R s m args below meth c D A nL Q kk nn pc lv st0 ws := by
  subst e1
  intro H locs ls hP hD hS hl
  have hPc := hl_PL hP
  have hDc := hl_DL hD
  have hFc : ∀ q, va_A X H.size q → A q := fun q h => by
    rcases h with ⟨k, e, h⟩ | h
    · exact hDc.2 k (q, e) h
    · exact gC_A C0 q (Nat.le_trans hS.1 h)
  refine va_calli (va_runV (As := As) (rest := st) C0.1 (hM H.size) ⟨callB_of n (gC_t C0) (ws_good hm.1) rfl hrc hrs (gC_t C0 _ hm.2.1) (gC_t C0 _ hlink) hm.2.2.2.2 hR, gC_t C0 _ hm.2.2.1, gC_t C0 _ hm.2.2.2.1⟩ ⟨hPre_blind, va_recv (gC_K C0) hPc hci hb0, fun U hU hW => ⟨rfl, by rw [hU], by rw [hU]; exact hPc, va_K.moved hW.alike (gC_K C0), hDc.weaken (fun _ _ _ _ => trivial), hNw_warm hW (gC_n C0)⟩⟩ rfl hn hl.1 hst (lv_room hW) hdg hRc) hS (fun q _ h => hFc q h) hFc (fun r u t H1 locs1 ht hvm hw hB hz1 hk1 hS1 => ?_)
  rw [ht] at hB
  obtain ⟨hP1, hD1⟩ := ll_backP hP hD hf1 hk1 hB
  subst hw
  exact k H1 locs1 ls hP1 hD1 hS1 hl
theorem g_prel (C0 : gC own cc nL ret0 p s m args meth c D tys A) {y : MethodName} {bytes : ByteArray} {maxL n index : Nat} {ret : Option FieldType} {rm : Room} {P X X1 : va_W} {r0 : Int64} {As : List Value} {st0 : List Value} {b ci N : Nat} {T : u_T} {fs : List Value} (hM : ∀ sz, Met l y (ws_ y bytes maxL ret) rm (va_Pc (.ref b :: As) (hPre D tys X sz)) (hQl D X1 r0 (va_A X sz)) 0 0 (va_A X sz)) (hm : hMV y bytes maxL ret n) (hlink : Cond.methodLink own index y ∈ hAll) (hR : rm.frames + 1 ≤ R.frames ∧ 8 + (maxL + 11) + rm.locals ≤ R.locals) (hRc : kk ≤ R.cells ∧ nn ≤ R.slots) (hrc : rm.cells = 0) (hrs : rm.slots = 0) (e1 : ws = List.append X P) (hf1 : X1.map Prod.fst = X.map Prod.fst) (hn : As.length = n) (q0 : Nat) (hb0 : X[q0]? = some (b, .inr (ci, fs))) (hci : vwCl[ci]? = some (y.cls, T, N)) (hst : st0 = As.reverse ++ .ref b :: st) (hW : (st.map fun v => v.category).sum ≤ 8) (hdg : decode cc pc = .ok (.invokevirtual index, 3)) (k : gG p l e R s m args below meth c D A nL Q kk nn (pc + 3) lv (.long r0 :: st) (List.append X1 P)) : gG p l e R s m args below meth c D A nL Q kk nn pc lv st0 ws := by
  subst e1
  intro H locs ls hP hD hS hl
  have hPc := hl_PL hP
  have hDc := hl_DL hD
  have hFc : ∀ q, va_A X H.size q → A q := fun q h => by
    rcases h with ⟨k, e, h⟩ | h
    · exact hDc.2 k (q, e) h
    · exact gC_A C0 q (Nat.le_trans hS.1 h)
  refine va_calll (va_runV (As := As) (rest := st) C0.1 (hM H.size) ⟨callB_of n (gC_t C0) (ws_good hm.1) rfl hrc hrs (gC_t C0 _ hm.2.1) (gC_t C0 _ hlink) hm.2.2.2.2 hR, gC_t C0 _ hm.2.2.1, gC_t C0 _ hm.2.2.2.1⟩ ⟨hPre_blind, va_recv (gC_K C0) hPc hci hb0, fun U hU hW => ⟨rfl, by rw [hU], by rw [hU]; exact hPc, va_K.moved hW.alike (gC_K C0), hDc.weaken (fun _ _ _ _ => trivial), hNw_warm hW (gC_n C0)⟩⟩ rfl hn hl.1 hst (lv_room hW) hdg hRc) hS (fun q _ h => hFc q h) hFc (fun r u t H1 locs1 ht hvm hw hB hz1 hk1 hS1 => ?_)
  rw [ht] at hB
  obtain ⟨hP1, hD1⟩ := ll_backP hP hD hf1 hk1 hB
  subst hw
  exact k H1 locs1 ls hP1 hD1 hS1 hl
theorem g_pref (C0 : gC own cc nL ret0 p s m args meth c D tys A) {y : MethodName} {bytes : ByteArray} {maxL n index : Nat} {ret : Option FieldType} {rm : Room} {P X X1 : va_W} {r0 : UInt32} {As : List Value} {st0 : List Value} {b ci N : Nat} {T : u_T} {fs : List Value} (hM : ∀ sz, Met l y (ws_ y bytes maxL ret) rm (va_Pc (.ref b :: As) (hPre D tys X sz)) (hQf D X1 r0 (va_A X sz)) 0 0 (va_A X sz)) (hm : hMV y bytes maxL ret n) (hlink : Cond.methodLink own index y ∈ hAll) (hR : rm.frames + 1 ≤ R.frames ∧ 8 + (maxL + 11) + rm.locals ≤ R.locals) (hRc : kk ≤ R.cells ∧ nn ≤ R.slots) (hrc : rm.cells = 0) (hrs : rm.slots = 0) (e1 : ws = List.append X P) (hf1 : X1.map Prod.fst = X.map Prod.fst) (hn : As.length = n) (q0 : Nat) (hb0 : X[q0]? = some (b, .inr (ci, fs))) (hci : vwCl[ci]? = some (y.cls, T, N)) (hst : st0 = As.reverse ++ .ref b :: st) (hW : (st.map fun v => v.category).sum ≤ 8) (hdg : decode cc pc = .ok (.invokevirtual index, 3)) (k : gG p l e R s m args below meth c D A nL Q kk nn (pc + 3) lv (.float r0 :: st) (List.append X1 P)) : gG p l e R s m args below meth c D A nL Q kk nn pc lv st0 ws := by
  subst e1
  intro H locs ls hP hD hS hl
  have hPc := hl_PL hP
  have hDc := hl_DL hD
  have hFc : ∀ q, va_A X H.size q → A q := fun q h => by
    rcases h with ⟨k, e, h⟩ | h
    · exact hDc.2 k (q, e) h
    · exact gC_A C0 q (Nat.le_trans hS.1 h)
  refine va_callf (va_runV (As := As) (rest := st) C0.1 (hM H.size) ⟨callB_of n (gC_t C0) (ws_good hm.1) rfl hrc hrs (gC_t C0 _ hm.2.1) (gC_t C0 _ hlink) hm.2.2.2.2 hR, gC_t C0 _ hm.2.2.1, gC_t C0 _ hm.2.2.2.1⟩ ⟨hPre_blind, va_recv (gC_K C0) hPc hci hb0, fun U hU hW => ⟨rfl, by rw [hU], by rw [hU]; exact hPc, va_K.moved hW.alike (gC_K C0), hDc.weaken (fun _ _ _ _ => trivial), hNw_warm hW (gC_n C0)⟩⟩ rfl hn hl.1 hst (lv_room hW) hdg hRc) hS (fun q _ h => hFc q h) hFc (fun r u t H1 locs1 ht hvm hw hB hz1 hk1 hS1 => ?_)
  rw [ht] at hB
  obtain ⟨hP1, hD1⟩ := ll_backP hP hD hf1 hk1 hB
  subst hw
  exact k H1 locs1 ls hP1 hD1 hS1 hl
theorem g_pred (C0 : gC own cc nL ret0 p s m args meth c D tys A) {y : MethodName} {bytes : ByteArray} {maxL n index : Nat} {ret : Option FieldType} {rm : Room} {P X X1 : va_W} {r0 : UInt64} {As : List Value} {st0 : List Value} {b ci N : Nat} {T : u_T} {fs : List Value} (hM : ∀ sz, Met l y (ws_ y bytes maxL ret) rm (va_Pc (.ref b :: As) (hPre D tys X sz)) (hQd D X1 r0 (va_A X sz)) 0 0 (va_A X sz)) (hm : hMV y bytes maxL ret n) (hlink : Cond.methodLink own index y ∈ hAll) (hR : rm.frames + 1 ≤ R.frames ∧ 8 + (maxL + 11) + rm.locals ≤ R.locals) (hRc : kk ≤ R.cells ∧ nn ≤ R.slots) (hrc : rm.cells = 0) (hrs : rm.slots = 0) (e1 : ws = List.append X P) (hf1 : X1.map Prod.fst = X.map Prod.fst) (hn : As.length = n) (q0 : Nat) (hb0 : X[q0]? = some (b, .inr (ci, fs))) (hci : vwCl[ci]? = some (y.cls, T, N)) (hst : st0 = As.reverse ++ .ref b :: st) (hW : (st.map fun v => v.category).sum ≤ 8) (hdg : decode cc pc = .ok (.invokevirtual index, 3)) (k : gG p l e R s m args below meth c D A nL Q kk nn (pc + 3) lv (.double r0 :: st) (List.append X1 P)) : gG p l e R s m args below meth c D A nL Q kk nn pc lv st0 ws := by
  subst e1
  intro H locs ls hP hD hS hl
  have hPc := hl_PL hP
  have hDc := hl_DL hD
  have hFc : ∀ q, va_A X H.size q → A q := fun q h => by
    rcases h with ⟨k, e, h⟩ | h
    · exact hDc.2 k (q, e) h
    · exact gC_A C0 q (Nat.le_trans hS.1 h)
  refine va_calld (va_runV (As := As) (rest := st) C0.1 (hM H.size) ⟨callB_of n (gC_t C0) (ws_good hm.1) rfl hrc hrs (gC_t C0 _ hm.2.1) (gC_t C0 _ hlink) hm.2.2.2.2 hR, gC_t C0 _ hm.2.2.1, gC_t C0 _ hm.2.2.2.1⟩ ⟨hPre_blind, va_recv (gC_K C0) hPc hci hb0, fun U hU hW => ⟨rfl, by rw [hU], by rw [hU]; exact hPc, va_K.moved hW.alike (gC_K C0), hDc.weaken (fun _ _ _ _ => trivial), hNw_warm hW (gC_n C0)⟩⟩ rfl hn hl.1 hst (lv_room hW) hdg hRc) hS (fun q _ h => hFc q h) hFc (fun r u t H1 locs1 ht hvm hw hB hz1 hk1 hS1 => ?_)
  rw [ht] at hB
  obtain ⟨hP1, hD1⟩ := ll_backP hP hD hf1 hk1 hB
  subst hw
  exact k H1 locs1 ls hP1 hD1 hS1 hl
theorem g_sXi (C0 : gC own cc nL ret0 p s m args meth c D tys A) (Z0 : hZ A s) {y : MethodName} {bytes : ByteArray} {maxL n index : Nat} {ret : Option FieldType} {rm : Room} {P X X1 : va_W} {o : Int32 ⊕ Nat} {As : List Value} {st0 : List Value} {b ci N : Nat} {T : u_T} {fs : List Value} (hM : ∀ sz, vx_Met l y (ws_ y bytes maxL ret) rm (va_Pc (.ref b :: As) (hPreX D tys X sz)) (hXi D X1 o (va_A X sz)) (hXX D X1 o (va_A X sz)) 1 6 (va_A X sz)) (hm : hMV y bytes maxL ret n) (hlink : Cond.methodLink own index y ∈ hAll) (hR : rm.frames + 1 ≤ R.frames ∧ 8 + (maxL + 11) + rm.locals ≤ R.locals) (hRc : kk + 1 ≤ R.cells ∧ nn + 6 ≤ R.slots) (hrc : rm.cells = 1) (hrs : rm.slots = 6) (e1 : ws = List.append P X) (hf1 : X1.map Prod.fst = X.map Prod.fst) (hn : As.length = n) (q0 : Nat) (hb0 : X[q0]? = some (b, .inr (ci, fs))) (hci : vwCl[ci]? = some (y.cls, T, N)) (hst : st0 = As.reverse ++ .ref b :: st) (hW : (st.map fun v => v.category).sum ≤ 8) (hdg : decode cc pc = .ok (.invokevirtual index, 3)) (kx : ∀ k', o = .inr k' → ∃ h, hHd c args s own pc (hExn k') h ∧ ∀ q9, gG p l e R s m args below meth c D A nL Q (kk + 1) (nn + 6) h lv [.ref q9] (List.append P X1)) (k : ∀ r, o = .inl r → gG p l e R s m args below meth c D A nL Q (kk + 1) (nn + 6) (pc + 3) lv (.int r :: st) (List.append P X1)) : gG p l e R s m args below meth c D A nL Q kk nn pc lv st0 ws := by
  subst e1
  intro H locs ls hP hD hS hl
  have hPc := hl_PR hP
  have hDc := hl_DR hD
  have hFc : ∀ q, va_A X H.size q → A q := fun q h => by
    rcases h with ⟨k, e, h⟩ | h
    · exact hDc.2 k (q, e) h
    · exact gC_A C0 q (Nat.le_trans hS.1 h)
  refine vx_calli (vx_runV (As := As) (rest := st) C0.1 (hM H.size) ⟨callB_of n (gC_t C0) (ws_good hm.1) rfl hrc hrs (gC_t C0 _ hm.2.1) (gC_t C0 _ hlink) hm.2.2.2.2 hR, gC_t C0 _ hm.2.2.1, gC_t C0 _ hm.2.2.2.1⟩ ⟨hPreX_blind, va_recv (gC_K C0) hPc hci hb0, fun U hU hW => ⟨rfl, ⟨⟨by rw [hU], by rw [hU]; exact hPc, va_K.moved hW.alike (gC_K C0), hDc.weaken (fun _ _ _ _ => trivial), hNw_warm hW (gC_n C0)⟩, hZ_at Z0 (by rw [hU]; exact hS.2.1) hW hFc⟩⟩⟩ rfl hn hl.1 hst (lv_room hW) hdg hRc) hS (fun q _ h => hFc q h) hFc (fun q _ h => hFc q h) (fun E ce q9 u t H1 locs1 ht hvm hw hB hz1 hk1 hS1 hc9 hv9 hcl9 => ?_) (fun r u t H1 locs1 ht hvm hw hB hz1 hk1 hS1 => ?_)
  · obtain ⟨k', ho, hE, hB⟩ := hB
    subst hE
    rw [ht] at hB
    obtain ⟨hP1, hD1⟩ := ll_backS hP hD hf1 hk1 hB
    obtain ⟨h, ⟨pre, x, suf, name, g1, g2, g3, g4, g5, g6, g7⟩, kh⟩ := kx k' ho
    refine vx_catch (gC_o C0) pre x suf g1 g2 g3 g4 g5 g6 hc9 hv9 hcl9 ?_
    rw [g7]
    exact kh q9 H1 locs1 ls hP1 hD1 hS1 hl
  · rw [ht] at hB
    obtain ⟨hP1, hD1⟩ := ll_backS hP hD hf1 hk1 hB
    exact k r hw H1 locs1 ls hP1 hD1 hS1 hl
theorem g_sufNi (C0 : gC own cc nL ret0 p s m args meth c D tys A) (Z0 : hZ A s) {y : MethodName} {bytes : ByteArray} {maxL n index : Nat} {ret : Option FieldType} {rm : Room} {P X X1 : va_W} {r0 : Int32} {As : List Value} {st0 : List Value} {b ci N : Nat} {T : u_T} {fs : List Value} (hM : ∀ sz, vx_Met l y (ws_ y bytes maxL ret) rm (va_Pc (.ref b :: As) (hPreX D tys X sz)) (hXi D X1 (.inl r0) (va_A X sz)) (hXX D X1 (.inl r0 : Int32 ⊕ Nat) (va_A X sz)) 1 6 (va_A X sz)) (hm : hMV y bytes maxL ret n) (hlink : Cond.methodLink own index y ∈ hAll) (hR : rm.frames + 1 ≤ R.frames ∧ 8 + (maxL + 11) + rm.locals ≤ R.locals) (hRc : kk + 1 ≤ R.cells ∧ nn + 6 ≤ R.slots) (hrc : rm.cells = 1) (hrs : rm.slots = 6) (e1 : ws = List.append P X) (hf1 : X1.map Prod.fst = X.map Prod.fst) (hn : As.length = n) (q0 : Nat) (hb0 : X[q0]? = some (b, .inr (ci, fs))) (hci : vwCl[ci]? = some (y.cls, T, N)) (hst : st0 = As.reverse ++ .ref b :: st) (hW : (st.map fun v => v.category).sum ≤ 8) (hdg : decode cc pc = .ok (.invokevirtual index, 3)) (k : gG p l e R s m args below meth c D A nL Q (kk + 1) (nn + 6) (pc + 3) lv (.int r0 :: st) (List.append P X1)) : gG p l e R s m args below meth c D A nL Q kk nn pc lv st0 ws := by
  subst e1
  intro H locs ls hP hD hS hl
  have hPc := hl_PR hP
  have hDc := hl_DR hD
  have hFc : ∀ q, va_A X H.size q → A q := fun q h => by
    rcases h with ⟨k, e, h⟩ | h
    · exact hDc.2 k (q, e) h
    · exact gC_A C0 q (Nat.le_trans hS.1 h)
  refine vx_calli (vx_runV (As := As) (rest := st) C0.1 (hM H.size) ⟨callB_of n (gC_t C0) (ws_good hm.1) rfl hrc hrs (gC_t C0 _ hm.2.1) (gC_t C0 _ hlink) hm.2.2.2.2 hR, gC_t C0 _ hm.2.2.1, gC_t C0 _ hm.2.2.2.1⟩ ⟨hPreX_blind, va_recv (gC_K C0) hPc hci hb0, fun U hU hW => ⟨rfl, ⟨⟨by rw [hU], by rw [hU]; exact hPc, va_K.moved hW.alike (gC_K C0), hDc.weaken (fun _ _ _ _ => trivial), hNw_warm hW (gC_n C0)⟩, hZ_at Z0 (by rw [hU]; exact hS.2.1) hW hFc⟩⟩⟩ rfl hn hl.1 hst (lv_room hW) hdg hRc) hS (fun q _ h => hFc q h) hFc (fun q _ h => hFc q h) (fun E ce q9 u t H1 locs1 ht hvm hw hB hz1 hk1 hS1 hc9 hv9 hcl9 => ?_) (fun r u t H1 locs1 ht hvm hw hB hz1 hk1 hS1 => ?_)
  · obtain ⟨k', ho, -⟩ := hB
    cases ho
  · rw [ht] at hB
    obtain ⟨hP1, hD1⟩ := ll_backS hP hD hf1 hk1 hB
    cases hw
    exact k H1 locs1 ls hP1 hD1 hS1 hl
theorem g_sufNl (C0 : gC own cc nL ret0 p s m args meth c D tys A) (Z0 : hZ A s) {y : MethodName} {bytes : ByteArray} {maxL n index : Nat} {ret : Option FieldType} {rm : Room} {P X X1 : va_W} {r0 : Int64} {As : List Value} {st0 : List Value} {b ci N : Nat} {T : u_T} {fs : List Value} (hM : ∀ sz, vx_Met l y (ws_ y bytes maxL ret) rm (va_Pc (.ref b :: As) (hPreX D tys X sz)) (hXl D X1 (.inl r0) (va_A X sz)) (hXX D X1 (.inl r0 : Int64 ⊕ Nat) (va_A X sz)) 1 6 (va_A X sz)) (hm : hMV y bytes maxL ret n) (hlink : Cond.methodLink own index y ∈ hAll) (hR : rm.frames + 1 ≤ R.frames ∧ 8 + (maxL + 11) + rm.locals ≤ R.locals) (hRc : kk + 1 ≤ R.cells ∧ nn + 6 ≤ R.slots) (hrc : rm.cells = 1) (hrs : rm.slots = 6) (e1 : ws = List.append P X) (hf1 : X1.map Prod.fst = X.map Prod.fst) (hn : As.length = n) (q0 : Nat) (hb0 : X[q0]? = some (b, .inr (ci, fs))) (hci : vwCl[ci]? = some (y.cls, T, N)) (hst : st0 = As.reverse ++ .ref b :: st) (hW : (st.map fun v => v.category).sum ≤ 8) (hdg : decode cc pc = .ok (.invokevirtual index, 3)) (k : gG p l e R s m args below meth c D A nL Q (kk + 1) (nn + 6) (pc + 3) lv (.long r0 :: st) (List.append P X1)) : gG p l e R s m args below meth c D A nL Q kk nn pc lv st0 ws := by
  subst e1
  intro H locs ls hP hD hS hl
  have hPc := hl_PR hP
  have hDc := hl_DR hD
  have hFc : ∀ q, va_A X H.size q → A q := fun q h => by
    rcases h with ⟨k, e, h⟩ | h
    · exact hDc.2 k (q, e) h
    · exact gC_A C0 q (Nat.le_trans hS.1 h)
  refine vx_calll (vx_runV (As := As) (rest := st) C0.1 (hM H.size) ⟨callB_of n (gC_t C0) (ws_good hm.1) rfl hrc hrs (gC_t C0 _ hm.2.1) (gC_t C0 _ hlink) hm.2.2.2.2 hR, gC_t C0 _ hm.2.2.1, gC_t C0 _ hm.2.2.2.1⟩ ⟨hPreX_blind, va_recv (gC_K C0) hPc hci hb0, fun U hU hW => ⟨rfl, ⟨⟨by rw [hU], by rw [hU]; exact hPc, va_K.moved hW.alike (gC_K C0), hDc.weaken (fun _ _ _ _ => trivial), hNw_warm hW (gC_n C0)⟩, hZ_at Z0 (by rw [hU]; exact hS.2.1) hW hFc⟩⟩⟩ rfl hn hl.1 hst (lv_room hW) hdg hRc) hS (fun q _ h => hFc q h) hFc (fun q _ h => hFc q h) (fun E ce q9 u t H1 locs1 ht hvm hw hB hz1 hk1 hS1 hc9 hv9 hcl9 => ?_) (fun r u t H1 locs1 ht hvm hw hB hz1 hk1 hS1 => ?_)
  · obtain ⟨k', ho, -⟩ := hB
    cases ho
  · rw [ht] at hB
    obtain ⟨hP1, hD1⟩ := ll_backS hP hD hf1 hk1 hB
    cases hw
    exact k H1 locs1 ls hP1 hD1 hS1 hl
theorem g_sufNd (C0 : gC own cc nL ret0 p s m args meth c D tys A) (Z0 : hZ A s) {y : MethodName} {bytes : ByteArray} {maxL n index : Nat} {ret : Option FieldType} {rm : Room} {P X X1 : va_W} {r0 : UInt64} {As : List Value} {st0 : List Value} {b ci N : Nat} {T : u_T} {fs : List Value} (hM : ∀ sz, vx_Met l y (ws_ y bytes maxL ret) rm (va_Pc (.ref b :: As) (hPreX D tys X sz)) (hXd D X1 (.inl r0) (va_A X sz)) (hXX D X1 (.inl r0 : UInt64 ⊕ Nat) (va_A X sz)) 1 6 (va_A X sz)) (hm : hMV y bytes maxL ret n) (hlink : Cond.methodLink own index y ∈ hAll) (hR : rm.frames + 1 ≤ R.frames ∧ 8 + (maxL + 11) + rm.locals ≤ R.locals) (hRc : kk + 1 ≤ R.cells ∧ nn + 6 ≤ R.slots) (hrc : rm.cells = 1) (hrs : rm.slots = 6) (e1 : ws = List.append P X) (hf1 : X1.map Prod.fst = X.map Prod.fst) (hn : As.length = n) (q0 : Nat) (hb0 : X[q0]? = some (b, .inr (ci, fs))) (hci : vwCl[ci]? = some (y.cls, T, N)) (hst : st0 = As.reverse ++ .ref b :: st) (hW : (st.map fun v => v.category).sum ≤ 8) (hdg : decode cc pc = .ok (.invokevirtual index, 3)) (k : gG p l e R s m args below meth c D A nL Q (kk + 1) (nn + 6) (pc + 3) lv (.double r0 :: st) (List.append P X1)) : gG p l e R s m args below meth c D A nL Q kk nn pc lv st0 ws := by
  subst e1
  intro H locs ls hP hD hS hl
  have hPc := hl_PR hP
  have hDc := hl_DR hD
  have hFc : ∀ q, va_A X H.size q → A q := fun q h => by
    rcases h with ⟨k, e, h⟩ | h
    · exact hDc.2 k (q, e) h
    · exact gC_A C0 q (Nat.le_trans hS.1 h)
  refine vx_calld (vx_runV (As := As) (rest := st) C0.1 (hM H.size) ⟨callB_of n (gC_t C0) (ws_good hm.1) rfl hrc hrs (gC_t C0 _ hm.2.1) (gC_t C0 _ hlink) hm.2.2.2.2 hR, gC_t C0 _ hm.2.2.1, gC_t C0 _ hm.2.2.2.1⟩ ⟨hPreX_blind, va_recv (gC_K C0) hPc hci hb0, fun U hU hW => ⟨rfl, ⟨⟨by rw [hU], by rw [hU]; exact hPc, va_K.moved hW.alike (gC_K C0), hDc.weaken (fun _ _ _ _ => trivial), hNw_warm hW (gC_n C0)⟩, hZ_at Z0 (by rw [hU]; exact hS.2.1) hW hFc⟩⟩⟩ rfl hn hl.1 hst (lv_room hW) hdg hRc) hS (fun q _ h => hFc q h) hFc (fun q _ h => hFc q h) (fun E ce q9 u t H1 locs1 ht hvm hw hB hz1 hk1 hS1 hc9 hv9 hcl9 => ?_) (fun r u t H1 locs1 ht hvm hw hB hz1 hk1 hS1 => ?_)
  · obtain ⟨k', ho, -⟩ := hB
    cases ho
  · rw [ht] at hB
    obtain ⟨hP1, hD1⟩ := ll_backS hP hD hf1 hk1 hB
    cases hw
    exact k H1 locs1 ls hP1 hD1 hS1 hl
theorem g_preNi (C0 : gC own cc nL ret0 p s m args meth c D tys A) (Z0 : hZ A s) {y : MethodName} {bytes : ByteArray} {maxL n index : Nat} {ret : Option FieldType} {rm : Room} {P X X1 : va_W} {r0 : Int32} {As : List Value} {st0 : List Value} {b ci N : Nat} {T : u_T} {fs : List Value} (hM : ∀ sz, vx_Met l y (ws_ y bytes maxL ret) rm (va_Pc (.ref b :: As) (hPreX D tys X sz)) (hXi D X1 (.inl r0) (va_A X sz)) (hXX D X1 (.inl r0 : Int32 ⊕ Nat) (va_A X sz)) 1 6 (va_A X sz)) (hm : hMV y bytes maxL ret n) (hlink : Cond.methodLink own index y ∈ hAll) (hR : rm.frames + 1 ≤ R.frames ∧ 8 + (maxL + 11) + rm.locals ≤ R.locals) (hRc : kk + 1 ≤ R.cells ∧ nn + 6 ≤ R.slots) (hrc : rm.cells = 1) (hrs : rm.slots = 6) (e1 : ws = List.append X P) (hf1 : X1.map Prod.fst = X.map Prod.fst) (hn : As.length = n) (q0 : Nat) (hb0 : X[q0]? = some (b, .inr (ci, fs))) (hci : vwCl[ci]? = some (y.cls, T, N)) (hst : st0 = As.reverse ++ .ref b :: st) (hW : (st.map fun v => v.category).sum ≤ 8) (hdg : decode cc pc = .ok (.invokevirtual index, 3)) (k : gG p l e R s m args below meth c D A nL Q (kk + 1) (nn + 6) (pc + 3) lv (.int r0 :: st) (List.append X1 P)) : gG p l e R s m args below meth c D A nL Q kk nn pc lv st0 ws := by
  subst e1
  intro H locs ls hP hD hS hl
  have hPc := hl_PL hP
  have hDc := hl_DL hD
  have hFc : ∀ q, va_A X H.size q → A q := fun q h => by
    rcases h with ⟨k, e, h⟩ | h
    · exact hDc.2 k (q, e) h
    · exact gC_A C0 q (Nat.le_trans hS.1 h)
  refine vx_calli (vx_runV (As := As) (rest := st) C0.1 (hM H.size) ⟨callB_of n (gC_t C0) (ws_good hm.1) rfl hrc hrs (gC_t C0 _ hm.2.1) (gC_t C0 _ hlink) hm.2.2.2.2 hR, gC_t C0 _ hm.2.2.1, gC_t C0 _ hm.2.2.2.1⟩ ⟨hPreX_blind, va_recv (gC_K C0) hPc hci hb0, fun U hU hW => ⟨rfl, ⟨⟨by rw [hU], by rw [hU]; exact hPc, va_K.moved hW.alike (gC_K C0), hDc.weaken (fun _ _ _ _ => trivial), hNw_warm hW (gC_n C0)⟩, hZ_at Z0 (by rw [hU]; exact hS.2.1) hW hFc⟩⟩⟩ rfl hn hl.1 hst (lv_room hW) hdg hRc) hS (fun q _ h => hFc q h) hFc (fun q _ h => hFc q h) (fun E ce q9 u t H1 locs1 ht hvm hw hB hz1 hk1 hS1 hc9 hv9 hcl9 => ?_) (fun r u t H1 locs1 ht hvm hw hB hz1 hk1 hS1 => ?_)
  · obtain ⟨k', ho, -⟩ := hB
    cases ho
  · rw [ht] at hB
    obtain ⟨hP1, hD1⟩ := ll_backP hP hD hf1 hk1 hB
    cases hw
    exact k H1 locs1 ls hP1 hD1 hS1 hl
theorem g_preNl (C0 : gC own cc nL ret0 p s m args meth c D tys A) (Z0 : hZ A s) {y : MethodName} {bytes : ByteArray} {maxL n index : Nat} {ret : Option FieldType} {rm : Room} {P X X1 : va_W} {r0 : Int64} {As : List Value} {st0 : List Value} {b ci N : Nat} {T : u_T} {fs : List Value} (hM : ∀ sz, vx_Met l y (ws_ y bytes maxL ret) rm (va_Pc (.ref b :: As) (hPreX D tys X sz)) (hXl D X1 (.inl r0) (va_A X sz)) (hXX D X1 (.inl r0 : Int64 ⊕ Nat) (va_A X sz)) 1 6 (va_A X sz)) (hm : hMV y bytes maxL ret n) (hlink : Cond.methodLink own index y ∈ hAll) (hR : rm.frames + 1 ≤ R.frames ∧ 8 + (maxL + 11) + rm.locals ≤ R.locals) (hRc : kk + 1 ≤ R.cells ∧ nn + 6 ≤ R.slots) (hrc : rm.cells = 1) (hrs : rm.slots = 6) (e1 : ws = List.append X P) (hf1 : X1.map Prod.fst = X.map Prod.fst) (hn : As.length = n) (q0 : Nat) (hb0 : X[q0]? = some (b, .inr (ci, fs))) (hci : vwCl[ci]? = some (y.cls, T, N)) (hst : st0 = As.reverse ++ .ref b :: st) (hW : (st.map fun v => v.category).sum ≤ 8) (hdg : decode cc pc = .ok (.invokevirtual index, 3)) (k : gG p l e R s m args below meth c D A nL Q (kk + 1) (nn + 6) (pc + 3) lv (.long r0 :: st) (List.append X1 P)) : gG p l e R s m args below meth c D A nL Q kk nn pc lv st0 ws := by
  subst e1
  intro H locs ls hP hD hS hl
  have hPc := hl_PL hP
  have hDc := hl_DL hD
  have hFc : ∀ q, va_A X H.size q → A q := fun q h => by
    rcases h with ⟨k, e, h⟩ | h
    · exact hDc.2 k (q, e) h
    · exact gC_A C0 q (Nat.le_trans hS.1 h)
  refine vx_calll (vx_runV (As := As) (rest := st) C0.1 (hM H.size) ⟨callB_of n (gC_t C0) (ws_good hm.1) rfl hrc hrs (gC_t C0 _ hm.2.1) (gC_t C0 _ hlink) hm.2.2.2.2 hR, gC_t C0 _ hm.2.2.1, gC_t C0 _ hm.2.2.2.1⟩ ⟨hPreX_blind, va_recv (gC_K C0) hPc hci hb0, fun U hU hW => ⟨rfl, ⟨⟨by rw [hU], by rw [hU]; exact hPc, va_K.moved hW.alike (gC_K C0), hDc.weaken (fun _ _ _ _ => trivial), hNw_warm hW (gC_n C0)⟩, hZ_at Z0 (by rw [hU]; exact hS.2.1) hW hFc⟩⟩⟩ rfl hn hl.1 hst (lv_room hW) hdg hRc) hS (fun q _ h => hFc q h) hFc (fun q _ h => hFc q h) (fun E ce q9 u t H1 locs1 ht hvm hw hB hz1 hk1 hS1 hc9 hv9 hcl9 => ?_) (fun r u t H1 locs1 ht hvm hw hB hz1 hk1 hS1 => ?_)
  · obtain ⟨k', ho, -⟩ := hB
    cases ho
  · rw [ht] at hB
    obtain ⟨hP1, hD1⟩ := ll_backP hP hD hf1 hk1 hB
    cases hw
    exact k H1 locs1 ls hP1 hD1 hS1 hl
theorem g_preNd (C0 : gC own cc nL ret0 p s m args meth c D tys A) (Z0 : hZ A s) {y : MethodName} {bytes : ByteArray} {maxL n index : Nat} {ret : Option FieldType} {rm : Room} {P X X1 : va_W} {r0 : UInt64} {As : List Value} {st0 : List Value} {b ci N : Nat} {T : u_T} {fs : List Value} (hM : ∀ sz, vx_Met l y (ws_ y bytes maxL ret) rm (va_Pc (.ref b :: As) (hPreX D tys X sz)) (hXd D X1 (.inl r0) (va_A X sz)) (hXX D X1 (.inl r0 : UInt64 ⊕ Nat) (va_A X sz)) 1 6 (va_A X sz)) (hm : hMV y bytes maxL ret n) (hlink : Cond.methodLink own index y ∈ hAll) (hR : rm.frames + 1 ≤ R.frames ∧ 8 + (maxL + 11) + rm.locals ≤ R.locals) (hRc : kk + 1 ≤ R.cells ∧ nn + 6 ≤ R.slots) (hrc : rm.cells = 1) (hrs : rm.slots = 6) (e1 : ws = List.append X P) (hf1 : X1.map Prod.fst = X.map Prod.fst) (hn : As.length = n) (q0 : Nat) (hb0 : X[q0]? = some (b, .inr (ci, fs))) (hci : vwCl[ci]? = some (y.cls, T, N)) (hst : st0 = As.reverse ++ .ref b :: st) (hW : (st.map fun v => v.category).sum ≤ 8) (hdg : decode cc pc = .ok (.invokevirtual index, 3)) (k : gG p l e R s m args below meth c D A nL Q (kk + 1) (nn + 6) (pc + 3) lv (.double r0 :: st) (List.append X1 P)) : gG p l e R s m args below meth c D A nL Q kk nn pc lv st0 ws := by
  subst e1
  intro H locs ls hP hD hS hl
  have hPc := hl_PL hP
  have hDc := hl_DL hD
  have hFc : ∀ q, va_A X H.size q → A q := fun q h => by
    rcases h with ⟨k, e, h⟩ | h
    · exact hDc.2 k (q, e) h
    · exact gC_A C0 q (Nat.le_trans hS.1 h)
  refine vx_calld (vx_runV (As := As) (rest := st) C0.1 (hM H.size) ⟨callB_of n (gC_t C0) (ws_good hm.1) rfl hrc hrs (gC_t C0 _ hm.2.1) (gC_t C0 _ hlink) hm.2.2.2.2 hR, gC_t C0 _ hm.2.2.1, gC_t C0 _ hm.2.2.2.1⟩ ⟨hPreX_blind, va_recv (gC_K C0) hPc hci hb0, fun U hU hW => ⟨rfl, ⟨⟨by rw [hU], by rw [hU]; exact hPc, va_K.moved hW.alike (gC_K C0), hDc.weaken (fun _ _ _ _ => trivial), hNw_warm hW (gC_n C0)⟩, hZ_at Z0 (by rw [hU]; exact hS.2.1) hW hFc⟩⟩⟩ rfl hn hl.1 hst (lv_room hW) hdg hRc) hS (fun q _ h => hFc q h) hFc (fun q _ h => hFc q h) (fun E ce q9 u t H1 locs1 ht hvm hw hB hz1 hk1 hS1 hc9 hv9 hcl9 => ?_) (fun r u t H1 locs1 ht hvm hw hB hz1 hk1 hS1 => ?_)
  · obtain ⟨k', ho, -⟩ := hB
    cases ho
  · rw [ht] at hB
    obtain ⟨hP1, hD1⟩ := ll_backP hP hD hf1 hk1 hB
    cases hw
    exact k H1 locs1 ls hP1 hD1 hS1 hl
theorem g_l0i {g : LG} (C0 : gC own cc nL ret0 p s m args meth c D tys A) (E0 : hLw g A s) {y : MethodName} {bytes : ByteArray} {maxL n index mc ms : Nat} {rm : Room} {ret : Option FieldType} {X1 : va_W} {r0 : Int32} {As : List Value} {st0 : List Value} (hM : ∀ sz, Met l y (ws_ y bytes maxL ret) rm (va_Pc As (hPreE (hLw g) D tys [] sz)) (hQi D X1 r0 (va_A [] sz)) mc ms (va_A [] sz)) (hm : hMS y bytes maxL ret n) (hlink : Cond.methodLink own index y ∈ hAll) (hR : rm.frames + 1 ≤ R.frames ∧ 8 + (maxL + 11) + rm.locals ≤ R.locals) (hrc : rm.cells = mc) (hrs : rm.slots = ms) (hRc : kk + mc ≤ R.cells ∧ nn + ms ≤ R.slots) (hn : As.length = n) (hst : st0 = As.reverse ++ st) (hW : (st.map fun v => v.category).sum ≤ 8) (hdg : decode cc pc = .ok (.invokestatic index, 3)) (k : gG p l e R s m args below meth c D A nL Q (kk + mc) (nn + ms) (pc + 3) lv (.int r0 :: st) ws) : gG p l e R s m args below meth c D A nL Q kk nn pc lv st0 ws := by
  intro H locs ls hP hD hS hl
  have hFc : ∀ q, va_A [] H.size q → A q := fun q h => by
    rcases h with ⟨k, e, h⟩ | h
    · cases h
    · exact gC_A C0 q (Nat.le_trans hS.1 h)
  refine va_calli (va_runS (As := As) (rest := st) C0.1 (hM H.size) ⟨callB_of n (gC_t C0) (ws_good hm.1) rfl hrc hrs (gC_t C0 _ hm.2.1) (gC_t C0 _ hlink) hm.2.2.2 hR, gC_t C0 _ hm.2.2.1⟩ ⟨hPreE_blind (hLw_ok g), fun U hU hW => ⟨rfl, ⟨by rw [hU], (fun k q hq => by cases hq), va_K.moved hW.alike (gC_K C0), ⟨(fun i j p q hi => by cases hi), (fun k q hq => by cases hq)⟩, hNw_warm hW (gC_n C0)⟩, (hLw_ok g).2 A _ s U E0 (by rw [hU]; exact hS.2.1) hW hFc⟩⟩ rfl hn hl.1 hst (lv_room hW) hdg hRc) hS (fun q _ h => hFc q h) hFc (fun r u t H1 locs1 ht hvm hw hB hz1 hk1 hS1 => ?_)
  have hP1 : va_P D vwCl ws H1 := hP.kept (fun j q hj => hk1 q.1 (hP j q hj).lt (fun h => by
    rcases h with ⟨k, e, h⟩ | h
    · cases h
    · have := (hP j q hj).lt
      omega))
  subst hw
  exact k H1 locs1 ls hP1 hD hS1 hl
theorem g_lSi {g : LG} (C0 : gC own cc nL ret0 p s m args meth c D tys A) (E0 : hLw g A s) {y : MethodName} {bytes : ByteArray} {maxL n index mc ms : Nat} {rm : Room} {ret : Option FieldType} {P X X1 : va_W} {r0 : Int32} {As : List Value} {st0 : List Value} (hM : ∀ sz, Met l y (ws_ y bytes maxL ret) rm (va_Pc As (hPreE (hLw g) D tys X sz)) (hQi D X1 r0 (va_A X sz)) mc ms (va_A X sz)) (hm : hMS y bytes maxL ret n) (hlink : Cond.methodLink own index y ∈ hAll) (hR : rm.frames + 1 ≤ R.frames ∧ 8 + (maxL + 11) + rm.locals ≤ R.locals) (hrc : rm.cells = mc) (hrs : rm.slots = ms) (hRc : kk + mc ≤ R.cells ∧ nn + ms ≤ R.slots) (e1 : ws = List.append P X) (hf1 : X1.map Prod.fst = X.map Prod.fst) (hn : As.length = n) (hst : st0 = As.reverse ++ st) (hW : (st.map fun v => v.category).sum ≤ 8) (hdg : decode cc pc = .ok (.invokestatic index, 3)) (k : gG p l e R s m args below meth c D A nL Q (kk + mc) (nn + ms) (pc + 3) lv (.int r0 :: st) (List.append P X1)) : gG p l e R s m args below meth c D A nL Q kk nn pc lv st0 ws := by
  subst e1
  intro H locs ls hP hD hS hl
  have hPc := hl_PR hP
  have hDc := hl_DR hD
  have hFc : ∀ q, va_A X H.size q → A q := fun q h => by
    rcases h with ⟨k, e, h⟩ | h
    · exact hDc.2 k (q, e) h
    · exact gC_A C0 q (Nat.le_trans hS.1 h)
  refine va_calli (va_runS (As := As) (rest := st) C0.1 (hM H.size) ⟨callB_of n (gC_t C0) (ws_good hm.1) rfl hrc hrs (gC_t C0 _ hm.2.1) (gC_t C0 _ hlink) hm.2.2.2 hR, gC_t C0 _ hm.2.2.1⟩ ⟨hPreE_blind (hLw_ok g), fun U hU hW => ⟨rfl, ⟨by rw [hU], by rw [hU]; exact hPc, va_K.moved hW.alike (gC_K C0), hDc.weaken (fun _ _ _ _ => trivial), hNw_warm hW (gC_n C0)⟩, (hLw_ok g).2 A _ s U E0 (by rw [hU]; exact hS.2.1) hW hFc⟩⟩ rfl hn hl.1 hst (lv_room hW) hdg hRc) hS (fun q _ h => hFc q h) hFc (fun r u t H1 locs1 ht hvm hw hB hz1 hk1 hS1 => ?_)
  rw [ht] at hB
  obtain ⟨hP1, hD1⟩ := ll_backS hP hD hf1 hk1 hB
  subst hw
  exact k H1 locs1 ls hP1 hD1 hS1 hl
theorem g_lSv {g : LG} (C0 : gC own cc nL ret0 p s m args meth c D tys A) (E0 : hLw g A s) {y : MethodName} {bytes : ByteArray} {maxL n index mc ms : Nat} {rm : Room} {ret : Option FieldType} {P X X1 : va_W} {As : List Value} {st0 : List Value} (hM : ∀ sz, Met l y (ws_ y bytes maxL ret) rm (va_Pc As (hPreE (hLw g) D tys X sz)) (hQv D X1 (va_A X sz)) mc ms (va_A X sz)) (hm : hMS y bytes maxL ret n) (hlink : Cond.methodLink own index y ∈ hAll) (hR : rm.frames + 1 ≤ R.frames ∧ 8 + (maxL + 11) + rm.locals ≤ R.locals) (hrc : rm.cells = mc) (hrs : rm.slots = ms) (hRc : kk + mc ≤ R.cells ∧ nn + ms ≤ R.slots) (e1 : ws = List.append P X) (hf1 : X1.map Prod.fst = X.map Prod.fst) (hn : As.length = n) (hst : st0 = As.reverse ++ st) (hW : (st.map fun v => v.category).sum ≤ 8) (hdg : decode cc pc = .ok (.invokestatic index, 3)) (k : gG p l e R s m args below meth c D A nL Q (kk + mc) (nn + ms) (pc + 3) lv (st) (List.append P X1)) : gG p l e R s m args below meth c D A nL Q kk nn pc lv st0 ws := by
  subst e1
  intro H locs ls hP hD hS hl
  have hPc := hl_PR hP
  have hDc := hl_DR hD
  have hFc : ∀ q, va_A X H.size q → A q := fun q h => by
    rcases h with ⟨k, e, h⟩ | h
    · exact hDc.2 k (q, e) h
    · exact gC_A C0 q (Nat.le_trans hS.1 h)
  refine va_callv (va_runS (As := As) (rest := st) C0.1 (hM H.size) ⟨callB_of n (gC_t C0) (ws_good hm.1) rfl hrc hrs (gC_t C0 _ hm.2.1) (gC_t C0 _ hlink) hm.2.2.2 hR, gC_t C0 _ hm.2.2.1⟩ ⟨hPreE_blind (hLw_ok g), fun U hU hW => ⟨rfl, ⟨by rw [hU], by rw [hU]; exact hPc, va_K.moved hW.alike (gC_K C0), hDc.weaken (fun _ _ _ _ => trivial), hNw_warm hW (gC_n C0)⟩, (hLw_ok g).2 A _ s U E0 (by rw [hU]; exact hS.2.1) hW hFc⟩⟩ rfl hn hl.1 hst (lv_room hW) hdg hRc) hS (fun q _ h => hFc q h) hFc (fun u t H1 locs1 ht hvm hw hB hz1 hk1 hS1 => ?_)
  rw [ht] at hB
  obtain ⟨hP1, hD1⟩ := ll_backS hP hD hf1 hk1 hB
  exact k H1 locs1 ls hP1 hD1 hS1 hl
theorem g_lPi {g : LG} (C0 : gC own cc nL ret0 p s m args meth c D tys A) (E0 : hLw g A s) {y : MethodName} {bytes : ByteArray} {maxL n index mc ms : Nat} {rm : Room} {ret : Option FieldType} {P X X1 : va_W} {r0 : Int32} {As : List Value} {st0 : List Value} (hM : ∀ sz, Met l y (ws_ y bytes maxL ret) rm (va_Pc As (hPreE (hLw g) D tys X sz)) (hQi D X1 r0 (va_A X sz)) mc ms (va_A X sz)) (hm : hMS y bytes maxL ret n) (hlink : Cond.methodLink own index y ∈ hAll) (hR : rm.frames + 1 ≤ R.frames ∧ 8 + (maxL + 11) + rm.locals ≤ R.locals) (hrc : rm.cells = mc) (hrs : rm.slots = ms) (hRc : kk + mc ≤ R.cells ∧ nn + ms ≤ R.slots) (e1 : ws = List.append X P) (hf1 : X1.map Prod.fst = X.map Prod.fst) (hn : As.length = n) (hst : st0 = As.reverse ++ st) (hW : (st.map fun v => v.category).sum ≤ 8) (hdg : decode cc pc = .ok (.invokestatic index, 3)) (k : gG p l e R s m args below meth c D A nL Q (kk + mc) (nn + ms) (pc + 3) lv (.int r0 :: st) (List.append X1 P)) : gG p l e R s m args below meth c D A nL Q kk nn pc lv st0 ws := by
  subst e1
  intro H locs ls hP hD hS hl
  have hPc := hl_PL hP
  have hDc := hl_DL hD
  have hFc : ∀ q, va_A X H.size q → A q := fun q h => by
    rcases h with ⟨k, e, h⟩ | h
    · exact hDc.2 k (q, e) h
    · exact gC_A C0 q (Nat.le_trans hS.1 h)
  refine va_calli (va_runS (As := As) (rest := st) C0.1 (hM H.size) ⟨callB_of n (gC_t C0) (ws_good hm.1) rfl hrc hrs (gC_t C0 _ hm.2.1) (gC_t C0 _ hlink) hm.2.2.2 hR, gC_t C0 _ hm.2.2.1⟩ ⟨hPreE_blind (hLw_ok g), fun U hU hW => ⟨rfl, ⟨by rw [hU], by rw [hU]; exact hPc, va_K.moved hW.alike (gC_K C0), hDc.weaken (fun _ _ _ _ => trivial), hNw_warm hW (gC_n C0)⟩, (hLw_ok g).2 A _ s U E0 (by rw [hU]; exact hS.2.1) hW hFc⟩⟩ rfl hn hl.1 hst (lv_room hW) hdg hRc) hS (fun q _ h => hFc q h) hFc (fun r u t H1 locs1 ht hvm hw hB hz1 hk1 hS1 => ?_)
  rw [ht] at hB
  obtain ⟨hP1, hD1⟩ := ll_backP hP hD hf1 hk1 hB
  subst hw
  exact k H1 locs1 ls hP1 hD1 hS1 hl
theorem g_hSi {g : LG} (C0 : gC own cc nL ret0 p s m args meth c D tys A) (E0 : hLw g A s) {y : MethodName} {bytes : ByteArray} {maxL n index mc ms : Nat} {rm : Room} {hh : List (Nat × Nat × Nat × Nat)} {P X X1 : va_W} {r0 : Int32} {As : List Value} {st0 : List Value} (hM : ∀ sz, Met l y (wsW_ y bytes maxL hh) rm (va_Pc As (hPreE (hLw g) D tys X sz)) (hQi D X1 r0 (va_A X sz)) mc ms (va_A X sz)) (hm : hMW y bytes maxL hh n) (hlink : Cond.methodLink own index y ∈ hAll) (hR : rm.frames + 1 ≤ R.frames ∧ 8 + (maxL + 11) + rm.locals ≤ R.locals) (hrc : rm.cells = mc) (hrs : rm.slots = ms) (hRc : kk + mc ≤ R.cells ∧ nn + ms ≤ R.slots) (e1 : ws = List.append P X) (hf1 : X1.map Prod.fst = X.map Prod.fst) (hn : As.length = n) (hst : st0 = As.reverse ++ st) (hW : (st.map fun v => v.category).sum ≤ 8) (hdg : decode cc pc = .ok (.invokestatic index, 3)) (k : gG p l e R s m args below meth c D A nL Q (kk + mc) (nn + ms) (pc + 3) lv (.int r0 :: st) (List.append P X1)) : gG p l e R s m args below meth c D A nL Q kk nn pc lv st0 ws := by
  subst e1
  intro H locs ls hP hD hS hl
  have hPc := hl_PR hP
  have hDc := hl_DR hD
  have hFc : ∀ q, va_A X H.size q → A q := fun q h => by
    rcases h with ⟨k, e, h⟩ | h
    · exact hDc.2 k (q, e) h
    · exact gC_A C0 q (Nat.le_trans hS.1 h)
  refine va_calli (vx_runSW (As := As) (rest := st) C0.1 (hM H.size) (vx_cwSW n (gC_t C0) (wsW_good hm hlink) rfl hrc hrs hm.2.2.2 hR) ⟨hPreE_blind (hLw_ok g), fun U hU hW => ⟨rfl, ⟨by rw [hU], by rw [hU]; exact hPc, va_K.moved hW.alike (gC_K C0), hDc.weaken (fun _ _ _ _ => trivial), hNw_warm hW (gC_n C0)⟩, (hLw_ok g).2 A _ s U E0 (by rw [hU]; exact hS.2.1) hW hFc⟩⟩ rfl hn hl.1 hst (lv_room hW) hdg hRc) hS (fun q _ h => hFc q h) hFc (fun r u t H1 locs1 ht hvm hw hB hz1 hk1 hS1 => ?_)
  rw [ht] at hB
  obtain ⟨hP1, hD1⟩ := ll_backS hP hD hf1 hk1 hB
  subst hw
  exact k H1 locs1 ls hP1 hD1 hS1 hl
theorem g_hPi {g : LG} (C0 : gC own cc nL ret0 p s m args meth c D tys A) (E0 : hLw g A s) {y : MethodName} {bytes : ByteArray} {maxL n index mc ms : Nat} {rm : Room} {hh : List (Nat × Nat × Nat × Nat)} {P X X1 : va_W} {r0 : Int32} {As : List Value} {st0 : List Value} (hM : ∀ sz, Met l y (wsW_ y bytes maxL hh) rm (va_Pc As (hPreE (hLw g) D tys X sz)) (hQi D X1 r0 (va_A X sz)) mc ms (va_A X sz)) (hm : hMW y bytes maxL hh n) (hlink : Cond.methodLink own index y ∈ hAll) (hR : rm.frames + 1 ≤ R.frames ∧ 8 + (maxL + 11) + rm.locals ≤ R.locals) (hrc : rm.cells = mc) (hrs : rm.slots = ms) (hRc : kk + mc ≤ R.cells ∧ nn + ms ≤ R.slots) (e1 : ws = List.append X P) (hf1 : X1.map Prod.fst = X.map Prod.fst) (hn : As.length = n) (hst : st0 = As.reverse ++ st) (hW : (st.map fun v => v.category).sum ≤ 8) (hdg : decode cc pc = .ok (.invokestatic index, 3)) (k : gG p l e R s m args below meth c D A nL Q (kk + mc) (nn + ms) (pc + 3) lv (.int r0 :: st) (List.append X1 P)) : gG p l e R s m args below meth c D A nL Q kk nn pc lv st0 ws := by
  subst e1
  intro H locs ls hP hD hS hl
  have hPc := hl_PL hP
  have hDc := hl_DL hD
  have hFc : ∀ q, va_A X H.size q → A q := fun q h => by
    rcases h with ⟨k, e, h⟩ | h
    · exact hDc.2 k (q, e) h
    · exact gC_A C0 q (Nat.le_trans hS.1 h)
  refine va_calli (vx_runSW (As := As) (rest := st) C0.1 (hM H.size) (vx_cwSW n (gC_t C0) (wsW_good hm hlink) rfl hrc hrs hm.2.2.2 hR) ⟨hPreE_blind (hLw_ok g), fun U hU hW => ⟨rfl, ⟨by rw [hU], by rw [hU]; exact hPc, va_K.moved hW.alike (gC_K C0), hDc.weaken (fun _ _ _ _ => trivial), hNw_warm hW (gC_n C0)⟩, (hLw_ok g).2 A _ s U E0 (by rw [hU]; exact hS.2.1) hW hFc⟩⟩ rfl hn hl.1 hst (lv_room hW) hdg hRc) hS (fun q _ h => hFc q h) hFc (fun r u t H1 locs1 ht hvm hw hB hz1 hk1 hS1 => ?_)
  rw [ht] at hB
  obtain ⟨hP1, hD1⟩ := ll_backP hP hD hf1 hk1 hB
  subst hw
  exact k H1 locs1 ls hP1 hD1 hS1 hl
theorem g_ctorO {α : Type} {w1 : α → va_W} {y : MethodName} {bytes : ByteArray} {maxL n index mc ms : Nat} {rm : Room} {P X : va_W} {As : List Value} {st0 : List Value} {b : Nat} (C0 : gC own cc nL ret0 p s m args meth c D tys A) (O0 : va_AO "HashLab$Table" s) (hM : ∀ sz, Met l y (ws_ y bytes maxL none) rm (va_Pc (.ref b :: As) (hPreO D tys X sz)) (hQn D w1 (va_A X sz)) mc ms (va_A X sz)) (hm : hMI y bytes maxL n) (hlink : Cond.methodLink own index y ∈ hAll) (hR : rm.frames + 1 ≤ R.frames ∧ 8 + (maxL + 11) + rm.locals ≤ R.locals) (hrc : rm.cells = mc) (hrs : rm.slots = ms) (hRc : kk + mc ≤ R.cells ∧ nn + ms ≤ R.slots) (e1 : ws = List.append P X) (hn : As.length = n) (hst : st0 = As.reverse ++ .ref b :: st) (hW : (st.map fun v => v.category).sum ≤ 8) (hdg : decode cc pc = .ok (.invokespecial index, 3)) (k : ∀ u : α, gG p l e R s m args below meth c D A nL Q (kk + mc) (nn + ms) (pc + 3) lv st (List.append P (w1 u))) : gG p l e R s m args below meth c D A nL Q kk nn pc lv st0 ws := by
  subst e1
  intro H locs ls hP hD hS hl
  have hPc := hl_PR hP
  have hDc := hl_DR hD
  have hFc : ∀ q, va_A X H.size q → A q := fun q h => by
    rcases h with ⟨k, e, h⟩ | h
    · exact hDc.2 k (q, e) h
    · exact gC_A C0 q (Nat.le_trans hS.1 h)
  refine va_callv (va_runI (As := As) (rest := st) C0.1 (hM H.size) ⟨callB_of n (gC_t C0) (ws_good hm.1) rfl hrc hrs (gC_t C0 _ hm.2.1) (gC_t C0 _ hlink) hm.2.2.2.2 hR, hm.2.2.2.1, gC_t C0 _ hm.2.2.1⟩ ⟨hPreO_blind, fun U hU hW => ⟨rfl, ⟨by rw [hU], by rw [hU]; exact hPc, va_K.moved hW.alike (gC_K C0), hDc.weaken (fun _ _ _ _ => trivial), hNw_warm hW (gC_n C0)⟩, va_AO.moved hW.alike O0⟩⟩ rfl hn hl.1 hst (lv_room hW) hdg hRc) hS (fun q _ h => hFc q h) hFc (fun u t H1 locs1 ht hvm hw hB hz1 hk1 hS1 => ?_)
  obtain ⟨u, hB1, hB2⟩ := hB
  rw [ht] at hB1
  have apart : ∀ (k : Nat) (q : Nat × va_E), P[k]? = some q → q.1 < H.size ∧ ¬ va_A X H.size q.1 := by
    intro k q hq
    have hl := (hl_PL hP k q hq).lt
    refine ⟨hl, fun h => ?_⟩
    rcases h with ⟨k2, e, h⟩ | h
    · exact hl_DX hD k k2 q (q.1, e) hq h rfl
    · omega
  refine k u H1 locs1 ls (va_P.app (fun j q hq => (hl_PL hP j q hq).kept (hk1 q.1 (apart j q hq).1 (apart j q hq).2)) hB1) (va_D.app (hl_DL hD) (hB2.weaken (fun j q _ h => hFc q.1 h)) (fun i j x y hx hy hxy => ?_)) hS1 hl
  exact (apart i x hx).2 (by rw [hxy]; exact hB2.2 j y hy)
theorem g_dropL {P X : va_W} (e1 : ws = List.append P X) (k : gG p l e R s m args below meth c D A nL Q kk nn pc lv st X) : gG p l e R s m args below meth c D A nL Q kk nn pc lv st ws := by
  subst e1
  exact fun H locs ls hP hD hS hl => k H locs ls (hl_PR hP) (hl_DR hD) hS hl
theorem g_dropR {P X : va_W} (e1 : ws = List.append X P) (k : gG p l e R s m args below meth c D A nL Q kk nn pc lv st X) : gG p l e R s m args below meth c D A nL Q kk nn pc lv st ws := by
  subst e1
  exact fun H locs ls hP hD hS hl => k H locs ls (hl_PL hP) (hl_DL hD) hS hl
theorem g_sldS {g : LG} (C0 : gC own cc nL ret0 p s m args meth c D tys A) (E0 : hLw g A s) {i : Int32} (hin : hl_in i g.2.2.2.1 = true) (hdg : decode cc pc = .ok (.iaload, 1)) (k : gG p l e R s m args below meth c D A nL Q kk nn (pc + 1) lv (.int (g.2.2.2.2 i.toNatClampNeg) :: st) ws) : gG p l e R s m args below meth c D A nL Q kk nn pc lv (.int i :: .ref g.2.2.1 :: st) ws := fun H locs ls hP hD hS hl => va_sld (gC_x C0) (gC_b C0) E0.2.2.2.2.1 E0.2.2.2.2.2.1 E0.2.2.2.2.2.2 hS (hl_inP hin) hdg (k H locs ls hP hD hS hl)
theorem g_slenS {g : LG} (C0 : gC own cc nL ret0 p s m args meth c D tys A) (E0 : hLw g A s) (hdg : decode cc pc = .ok (.arraylength, 1)) (k : gG p l e R s m args below meth c D A nL Q kk nn (pc + 1) lv (.int (Int32.ofNat g.2.2.2.1) :: st) ws) : gG p l e R s m args below meth c D A nL Q kk nn pc lv (.ref g.2.2.1 :: st) ws := fun H locs ls hP hD hS hl => va_slen (gC_x C0) (gC_b C0) E0.2.2.2.2.1 E0.2.2.2.2.2.1 E0.2.2.2.2.2.2 hS hdg (k H locs ls hP hD hS hl)
theorem g_iushr (C0 : gC own cc nL ret0 p s m args meth c D tys A) {x y : Int32} (hdg : decode cc pc = .ok (.iushr, 1)) (k : gG p l e R s m args below meth c D A nL Q kk nn (pc + 1) lv (.int ((x.toUInt32 >>> (y.toUInt32 &&& Int32.toUInt32 31)).toInt32) :: st) ws) : gG p l e R s m args below meth c D A nL Q kk nn pc lv (.int y :: .int x :: st) ws := fun H locs ls hP hD hS hl => lv_iushr (gC_x C0) (gC_b C0) hdg rfl (k H locs ls hP hD hS hl)
end LK
theorem g_metH {l : Launch} {D : va_G} {g : LG} {tys : List (ClassId × FieldType)} {y : MethodName} {bytes : ByteArray} {maxL : Nat} {rm : Room} {hh : List (Nat × Nat × Nat × Nat)} {av : List Value} {wc : va_W} {lv0 : List (Nat × Value)} {Qf : (Nat → Prop) → Array Value → State → Outcome → State → Prop} {mc ms : Nat}
    (hy : plainFor y = true) (hlen : (lg_sl av).length ≤ maxL) (hlv : lv_args 0 av = lv0)
    (body : ∀ {p : Program} {e : Env} {s : State} {m : MethodId} {args : Array Value} {below : List Frame} {meth : Method} {c : Code} {A : Nat → Prop}, gC y.cls bytes maxL (some .int) p s m args meth c D tys A → hLw g A s → c.exceptionTable.toList = tableOf hh → gG p l e rm s m args below meth c D A maxL (MQ below (Qf A) args s mc ms A) 0 0 0 lv0 [] wc) :
    ∀ sz, Met l y (wsW_ y bytes maxL hh) rm (va_Pc av (hPreE (hLw g) D tys wc sz)) (Qf (va_A wc sz)) mc ms (va_A wc sz) := by
  intro sz
  refine MetFree.of_bodySF (code := bytes) (maxLocals := maxL) (ret := some .int) hy ?_ ?_
  · intro args s m h hn
    obtain ⟨m9, meth, c, hn9, h1, h2, h3, h4, -, h5, h6, -⟩ := Cond.codeWith_spec (atoms_spec (ws := wsW_ y bytes maxL hh) h _ List.mem_cons_self)
    cases hn.symm.trans hn9
    exact ⟨meth, c, h1, h2, h3, h4, h5, h6⟩
  · intro p e s m args below meth c s₁ B hml hv _
    have hh0 : s₁.heap = s.heap := by rw [B.state]; rfl
    have hT : c.exceptionTable.toList = tableOf hh := vx_table (x := y) B (atoms_spec (ws := wsW_ y bytes maxL hh) B.pre _ List.mem_cons_self)
    obtain ⟨rfl, ⟨hsz, hP, hK, hD0, hN⟩, hE0⟩ := hv
    subst hsz
    have hts := atoms_spec (ws := wsW_ y bytes maxL hh) B.pre
    have hown := findClass_of_methodNamed B.named
    have hD := hD0.self (sz := s.heap.size)
    have C0 : gC y.cls bytes maxL (some .int) p s m av.toArray meth c D tys (va_A wc s.heap.size) := ⟨⟨B.exec, B.bytes, hml, hown, fun w h => hts w (List.mem_cons_of_mem _ h)⟩, hK, fun q h => Or.inr h, B.returns, B.notSynchronized, hN⟩
    have hl := lv_entry av (n := maxL) hlen
    rw [hlv] at hl
    have K := body (e := e) (below := below) C0 hE0 hT s.heap [] _ hP hD va_S.rf hl
    rw [← lg_entry_eq] at K
    obtain ⟨t, a1, o, b1, b2, b3⟩ := K s₁ hh0 (Stand.of_body B)
    exact ⟨t, o, a1, b1, b2, ⟨b3.1, b3.2⟩⟩
