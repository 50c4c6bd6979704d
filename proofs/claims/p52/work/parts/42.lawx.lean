/-! texts in a longer world; the answers of the law's helpers -/
theorem hl_inN {x : Int32} {n : Nat} (h : hl_in x n = true) : ∃ j, j < n ∧ x = Int32.ofNat j := by
  obtain ⟨h1, h2⟩ := hl_inI h
  have h0 : (0 : Int32) ≤ x := (fa_le _ _).mpr h1
  obtain ⟨j, hj, e⟩ := n_of h0
  refine ⟨j, ?_, e⟩
  rw [e, n_ti hj] at h2
  omega
def hcd (ks : List (Nat × Int32)) (r : Int32 ⊕ Nat) : Option Int32 := match r with
  | .inl z => some z
  | .inr k => (ks.find? (fun q => q.1 == k)).map (fun q => q.2)
def hcB (ks : List (Nat × Int32)) (r : Int32 ⊕ Nat) : Option Int32 := match r with
  | .inl z => some (if z = 0 then 0 else 1)
  | .inr k => (ks.find? (fun q => q.1 == k)).map (fun q => q.2)
theorem hcd1 {a k : Nat} {x out : Int32} {r : Int32 ⊕ Nat} (h : hcd [(a, x)] r = some out) (hr : r = .inr k) : k = a ∧ out = x := by
  subst hr
  unfold hcd at h
  by_cases e : a = k
  · subst e
    simp at h
    exact ⟨rfl, h.symm⟩
  · simp [e] at h
theorem hcd2 {a b k : Nat} {x y out : Int32} {r : Int32 ⊕ Nat} (h : hcd [(a, x), (b, y)] r = some out) (hr : r = .inr k) : (k = a ∧ out = x) ∨ (k = b ∧ k ≠ a ∧ out = y) := by
  subst hr
  unfold hcd at h
  by_cases e : a = k
  · subst e
    simp at h
    exact Or.inl ⟨rfl, h.symm⟩
  · by_cases e2 : b = k
    · subst e2
      simp [e] at h
      exact Or.inr ⟨rfl, fun z => e z.symm, h.symm⟩
    · simp [e, e2] at h
theorem hcB2 {a b k : Nat} {x y out : Int32} {r : Int32 ⊕ Nat} (h : hcB [(a, x), (b, y)] r = some out) (hr : r = .inr k) : (k = a ∧ out = x) ∨ (k = b ∧ k ≠ a ∧ out = y) := by
  subst hr
  unfold hcB at h
  by_cases e : a = k
  · subst e
    simp at h
    exact Or.inl ⟨rfl, h.symm⟩
  · by_cases e2 : b = k
    · subst e2
      simp [e] at h
      exact Or.inr ⟨rfl, fun z => e z.symm, h.symm⟩
    · simp [e, e2] at h
theorem hcdL {ks : List (Nat × Int32)} {z out : Int32} {r : Int32 ⊕ Nat} (h : hcd ks r = some out) (hr : r = .inl z) : z = out := by
  subst hr
  exact Option.some.inj h
theorem hcBL {ks : List (Nat × Int32)} {z out : Int32} {r : Int32 ⊕ Nat} (h : hcB ks r = some out) (hr : r = .inl z) : (if z = 0 then 0 else 1) = out := by
  subst hr
  exact Option.some.inj h
/-- letters -/
theorem asc0 (f : Nat → Int32) : asc 0 f := fun j hj => absurd hj (Nat.not_lt_zero j)
theorem asc_cat {n k : Nat} {t f : Nat → Int32} (h1 : asc n t) (h2 : asc k f) : asc (n + k) (tcat n t f) := by
  intro j hj
  by_cases e : j < n
  · rw [tcat_lo e]
    exact h1 j e
  · obtain ⟨i, rfl⟩ : ∃ i, j = n + i := ⟨j - n, by omega⟩
    rw [tcat_hi]
    exact h2 i (by omega)
theorem asc_of {n : Nat} {t f : Nat → Int32} (h : ∀ j, j < n → f j = t j) (h1 : asc n t) : asc n f := fun j hj => by
  rw [h j hj]
  exact h1 j hj
theorem tcat_eq {n k : Nat} {t t' f f' : Nat → Int32} (h1 : ∀ j, j < n → t j = t' j) (h2 : ∀ j, j < k → f j = f' j) : ∀ j, j < n + k → tcat n t f j = tcat n t' f' j := by
  intro j hj
  by_cases e : j < n
  · rw [tcat_lo e, tcat_lo e]
    exact h1 j e
  · obtain ⟨i, rfl⟩ : ∃ i, j = n + i := ⟨j - n, by omega⟩
    rw [tcat_hi, tcat_hi]
    exact h2 i (by omega)
theorem sbP0 (v : Nat) : sbP 0 (fun _ => 0) (v, 16, fun _ => 0) := ⟨by show (0 : Nat) ≤ 16; omega, by show (16 : Nat) ≤ 16 + 2 * 0; omega, sb_fit0, fun j hj => absurd hj (Nat.not_lt_zero j)⟩
section LX
variable {p : Program} {l : Launch} {e : Env} {R : Room} {s : State} {m : MethodId} {args : Array Value} {below : List Frame} {meth : Method} {c : Code} {D : va_G} {tys : List (ClassId × FieldType)} {A : Nat → Prop} {own : String} {cc : ByteArray} {nL : Nat} {ret0 : Option FieldType} {Q : State → Prop} {pc : Nat} {lv lv' : List (Nat × Value)} {st : List Value} {ws ws' : va_W} {kk nn : Nat}
theorem g_ordP {P P' X : va_W} (is : List Nat) (e1 : ws = List.append P X) (hs : is.map (fun i => P[i]?) = P'.map some) (hnd : va_nd is = true) (k : gG p l e R s m args below meth c D A nL Q kk nn pc lv st (List.append P' X)) : gG p l e R s m args below meth c D A nL Q kk nn pc lv st ws := by
  subst e1
  intro H locs ls hP hD hS hl
  refine k H locs ls (va_P.app (hl_Psub (hl_PL hP) is hs) (hl_PR hP)) (va_D.app ((hl_DL hD).sub is hnd hs) (hl_DR hD) (fun i j x y hx hy hxy => ?_)) hS hl
  have h1 : (is.map (fun i => P[i]?))[i]? = some (some x) := by rw [hs, List.getElem?_map, hx]; rfl
  rw [List.getElem?_map] at h1
  cases hi : is[i]? with
  | none => rw [hi] at h1; cases h1
  | some z =>
    rw [hi] at h1
    exact hl_DX hD z j x y (Option.some.inj h1) hy hxy
theorem g_rot {P X N : va_W} (k : gG p l e R s m args below meth c D A nL Q kk nn pc lv st (List.append (List.append P N) X)) : gG p l e R s m args below meth c D A nL Q kk nn pc lv st (List.append (List.append P X) N) := by
  intro H locs ls hP hD hS hl
  have hPX := hl_PL hP
  have hDX := hl_DL hD
  refine k H locs ls (va_P.app (va_P.app (hl_PL hPX) (hl_PR hP)) (hl_PR hPX)) (va_D.app (va_D.app (hl_DL hDX) (hl_DR hD) (fun i j x y hx hy hxy => ?_)) (hl_DR hDX) (fun i j x y hx hy hxy => ?_)) hS hl
  · exact hl_DX hD i j x y (hl_appL hx) hy hxy
  · by_cases hi : i < P.length
    · have hx' : P[i]? = some x := by
        have h2 : (P ++ N)[i]? = some x := hx
        rwa [List.getElem?_append_left hi] at h2
      exact hl_DX hDX i j x y hx' hy hxy
    · have hx' : N[i - P.length]? = some x := by
        have h2 : (P ++ N)[i]? = some x := hx
        rwa [List.getElem?_append_right (by omega)] at h2
      exact hl_DX hD _ _ y x (hl_appR hy) hx' hxy.symm
/-- a text of the world, never written from here on -/
theorem tx_cells {cB : ClassId} {a w n q0 q1 t0 : Nat} {f : Nat → Int32} (C0 : gC own cc nL ret0 p s m args meth c D tys A) (hq0 : ws[q0]? = some (a, .inr (0, [.ref w, .int 0, .int 0, .int 0]))) (hq1 : ws[q1]? = some (w, .inl (cB, n, .inl f))) (ht : tys[t0]? = some (cB, .byte)) {H : Heap} (hP : va_P D vwCl ws H) {B : Nat → Prop} (hB0 : ¬ B a) (hB1 : ¬ B w) {U : State} (hU : U.heap = H) (hW : s.WarmedH U.vm) : tx_S a w n f B U := by
  obtain ⟨r, h1, cell, c1, c2, c3, c4⟩ := hP q0 _ hq0
  have hr : r = (RJ0, TJ0, 4) := Option.some.inj (h1.symm.trans rfl)
  subst hr
  obtain ⟨hSl, hfc, kC, hkC, hkind⟩ := (gC_K C0).1 0 (RJ0, TJ0, 4) rfl
  have hof : ∀ (k : Nat) (hk : k < 4) (v : Value), vp_V [.ref w, .int 0, .int 0, .int 0] k = v → va_OF (TJ0 k).1 (TJ0 k).2.1 (TJ0 k).2.2.1 v a B s H := by
    intro k hk v hv
    obtain ⟨cf, kf, fi, fd, hi, hsl⟩ := hSl k hk
    exact ⟨cf, kf, fi, fd, cell, hi, (u_facts hfc hkC (u_lays (gC_t C0) hinJ0 hk) hi).1, c1, by rw [c3]; exact (fun h => by cases h), by rw [hsl, c4 k hk, hv], hB0⟩
  have hO : va_O "java/lang/String" a B s H := ⟨cell, c1, by rw [c3]; rfl, by rw [c2]; exact hfc, hB0⟩
  have hT : va_T .byte w n (fun j => .int (f j)) B s H := ⟨vp_cell cB (n, .inl f), hP q1 _ hq1, ((gC_K C0).2 t0 (cB, .byte) ht).1 n (fun j => .int (f j)), (fun h => by cases h), Nat.le_of_eq (show (vp_cell cB (n, .inl f)).slots.size = n from arrV_size _ _ _).symm, by rw [show (vp_cell cB (n, .inl f)).slots.size = n from arrV_size _ _ _], fun j hj => arrV_read cB (fun j => Value.int (f j)) hj, hB1⟩
  have hal := hW.alike
  unfold tx_S
  rw [hU]
  exact ⟨va_O.moved hal hO, va_OF.moved hal (hof 1 (by decide) _ rfl), va_OF.moved hal (hof 0 (by decide) _ rfl), va_T.moved hal hT⟩
theorem xa_not {X wc : va_W} {isC : List Nat} {A0 : Nat → Prop} {H : Heap} {q0 : Nat} {x : Nat × va_E} (hP : va_P D vwCl X H) (hD : va_D A0 X) (hC : isC.map (fun i => X[i]?) = wc.map some) (hq : X[q0]? = some x) (hn : q0 ∉ isC) : ¬ va_A wc H.size x.1 := by
  intro h
  have hl := (hP q0 _ hq).lt
  rcases h with ⟨k2, e, h⟩ | h
  · have h1 : (isC.map (fun i => X[i]?))[k2]? = some (some (x.1, e)) := by rw [hC, List.getElem?_map, h]; rfl
    rw [List.getElem?_map] at h1
    cases hi : isC[k2]? with
    | none => rw [hi] at h1; cases h1
    | some i =>
      rw [hi] at h1
      have hij := hD.1 q0 i x (x.1, e) hq (Option.some.inj h1) rfl
      subst hij
      exact hn (List.mem_of_getElem? hi)
  · omega
theorem xe_W {cB : ClassId} {a w n : Nat} {f : Nat → Int32} {X pl wc : va_W} {g : Nat} (C0 : gC own cc nL ret0 p s m args meth c D tys A) (E0 : jE A s) (q0 q1 : Nat) (hq0 : X[q0]? = some (a, .inr (0, [.ref w, .int 0, .int 0, .int 0]))) (hq1 : X[q1]? = some (w, .inl (cB, n, .inl f))) (t0 : Nat) (ht : tys[t0]? = some (cB, .byte)) (isC : List Nat) (hC : isC.map (fun i => X[i]?) = wc.map some) (h0 : q0 ∉ isC) (h1 : q1 ∉ isC) : ∀ (H : Heap) (locs : List Loc), va_P D vwCl (List.append X pl) H → va_D A (List.append X pl) → va_S A s.heap H locs → (∀ q, va_A wc H.size q → A q) → ∀ U : State, U.heap = H → s.WarmedH U.vm → jT a w n f (va_A wc H.size) U :=
  fun H locs hP hD hS hF U hU hW => ⟨jE_ok.2 A _ s U E0 (by rw [hU]; exact hS.2.1) hW hF, tx_cells C0 hq0 hq1 ht (hl_PL hP) (xa_not (hl_PL hP) (hl_DL hD) hC hq0 h0) (xa_not (hl_PL hP) (hl_DL hD) hC hq1 h1) hU hW⟩
/-- what isLine wants: the law's, and a text -/
def hLt (g : LG) (a w n : Nat) (f : Nat → Int32) (A : Nat → Prop) (U : State) : Prop := hLw g A U ∧ tx_S a w n f A U
theorem hLt_ok (g : LG) (a w n : Nat) (f : Nat → Int32) : hEok (hLt g a w n f) := ⟨fun A U g9 mk b h => ⟨(hLw_ok g).1 A U g9 mk b h.1, (tx_ok a w n f).1 A U g9 mk b h.2⟩, fun A A' s U h hq hW hAA => ⟨(hLw_ok g).2 A A' s U h.1 hq hW hAA, (tx_ok a w n f).2 A A' s U h.2 hq hW hAA⟩⟩
theorem xl_K {g : LG} {i : Nat} {X : va_W} (E0 : hLw g A s) (hi : i < 6) : ∀ (H : Heap) (locs : List Loc), va_P D vwCl ws H → va_D A ws → va_S A s.heap H locs → (∀ q, va_A X H.size q → A q) → ∀ U : State, U.heap = H → s.WarmedH U.vm → hLt g (g.1 i) (g.2.1 i) (kLen i) (kByt i) (va_A X H.size) U :=
  fun H locs hP hD hS hF U hU hW => (hLt_ok g _ _ _ _).2 A _ s U ⟨E0, hKt_tx E0.2.1 hi⟩ (by rw [hU]; exact hS.2.1) hW hF
theorem xl_W {g : LG} {cB : ClassId} {a w n : Nat} {f : Nat → Int32} {P X : va_W} (C0 : gC own cc nL ret0 p s m args meth c D tys A) (E0 : hLw g A s) (q0 q1 : Nat) (hq0 : P[q0]? = some (a, .inr (0, [.ref w, .int 0, .int 0, .int 0]))) (hq1 : P[q1]? = some (w, .inl (cB, n, .inl f))) (t0 : Nat) (ht : tys[t0]? = some (cB, .byte)) : ∀ (H : Heap) (locs : List Loc), va_P D vwCl (List.append P X) H → va_D A (List.append P X) → va_S A s.heap H locs → (∀ q, va_A X H.size q → A q) → ∀ U : State, U.heap = H → s.WarmedH U.vm → hLt g a w n f (va_A X H.size) U := by
  intro H locs hP hD hS hF U hU hW
  have hno : ∀ (k : Nat) (x : Nat × va_E), P[k]? = some x → ¬ va_A X H.size x.1 := by
    intro k x hx h
    have hl := (hl_PL hP k x hx).lt
    rcases h with ⟨k2, e, h⟩ | h
    · exact hl_DX hD k k2 x (x.1, e) hx h rfl
    · omega
  exact ⟨(hLw_ok g).2 A _ s U E0 (by rw [hU]; exact hS.2.1) hW hF, tx_cells C0 hq0 hq1 ht (hl_PL hP) (hno q0 _ hq0) (hno q1 _ hq1) hU hW⟩
/-- a call of isLine -/
theorem g_lineS {E : (Nat → Prop) → State → Prop} {y : MethodName} {bytes : ByteArray} {maxL n index mc ms : Nat} {rm : Room} {ret : Option FieldType} {P X X1 : va_W} {r0 : Int32} {As : List Value} {st0 : List Value} (C0 : gC own cc nL ret0 p s m args meth c D tys A) (hE : hEok E) (hE0 : ∀ (H : Heap) (locs : List Loc), va_P D vwCl ws H → va_D A ws → va_S A s.heap H locs → (∀ q, va_A X H.size q → A q) → ∀ U : State, U.heap = H → s.WarmedH U.vm → E (va_A X H.size) U) (hM : ∀ sz, Met l y (ws_ y bytes maxL ret) rm (va_Pc As (hPreE E D tys X sz)) (hQi D X1 r0 (va_A X sz)) mc ms (va_A X sz)) (hm : hMS y bytes maxL ret n) (hlink : Cond.methodLink own index y ∈ hAll) (hR : rm.frames + 1 ≤ R.frames ∧ 8 + (maxL + 11) + rm.locals ≤ R.locals) (hrc : rm.cells = mc) (hrs : rm.slots = ms) (hRc : kk + mc ≤ R.cells ∧ nn + ms ≤ R.slots) (e1 : ws = List.append P X) (hf1 : X1.map Prod.fst = X.map Prod.fst) (hn : As.length = n) (hst : st0 = As.reverse ++ st) (hW : (st.map fun v => v.category).sum ≤ 8) (hdg : decode cc pc = .ok (.invokestatic index, 3)) (k : gG p l e R s m args below meth c D A nL Q (kk + mc) (nn + ms) (pc + 3) lv (.int r0 :: st) (List.append P X1)) : gG p l e R s m args below meth c D A nL Q kk nn pc lv st0 ws := by
  subst e1
  intro H locs ls hP hD hS hl
  have hPc := hl_PR hP
  have hDc := hl_DR hD
  have hFc : ∀ q, va_A X H.size q → A q := fun q h => by
    rcases h with ⟨k, e, h⟩ | h
    · exact hDc.2 k (q, e) h
    · exact gC_A C0 q (Nat.le_trans hS.1 h)
  have hE1 := hE0 H locs hP hD hS hFc
  refine va_calli (va_runS (As := As) (rest := st) C0.1 (hM H.size) ⟨callB_of n (gC_t C0) (ws_good hm.1) rfl hrc hrs (gC_t C0 _ hm.2.1) (gC_t C0 _ hlink) hm.2.2.2 hR, gC_t C0 _ hm.2.2.1⟩ ⟨hPreE_blind hE, fun U hU hW => ⟨rfl, ⟨by rw [hU], by rw [hU]; exact hPc, va_K.moved hW.alike (gC_K C0), hDc.weaken (fun _ _ _ _ => trivial), hNw_warm hW (gC_n C0)⟩, hE1 U hU hW⟩⟩ rfl hn hl.1 hst (lv_room hW) hdg hRc) hS (fun q _ h => hFc q h) hFc (fun r u t H1 locs1 ht hvm hw hB hz1 hk1 hS1 => ?_)
  rw [ht] at hB
  obtain ⟨hP1, hD1⟩ := ll_backS hP hD hf1 hk1 hB
  subst hw
  exact k H1 locs1 ls hP1 hD1 hS1 hl
theorem g_l0pi (C0 : gC own cc nL ret0 p s m args meth c D tys A) {y : MethodName} {bytes : ByteArray} {maxL n index : Nat} {ret : Option FieldType} {rm : Room} {r0 : Int32} {As : List Value} {st0 : List Value} (hM : ∀ sz, Met l y (ws_ y bytes maxL ret) rm (va_Pc As (hPre D tys [] sz)) (hQi D [] r0 (va_A [] sz)) 0 0 (va_A [] sz)) (hm : hMS y bytes maxL ret n) (hlink : Cond.methodLink own index y ∈ hAll) (hR : rm.frames + 1 ≤ R.frames ∧ 8 + (maxL + 11) + rm.locals ≤ R.locals) (hRc : kk ≤ R.cells ∧ nn ≤ R.slots) (hrc : rm.cells = 0) (hrs : rm.slots = 0) (hn : As.length = n) (hst : st0 = As.reverse ++ st) (hW : (st.map fun v => v.category).sum ≤ 8) (hdg : decode cc pc = .ok (.invokestatic index, 3)) (k : gG p l e R s m args below meth c D A nL Q kk nn (pc + 3) lv (.int r0 :: st) ws) : gG p l e R s m args below meth c D A nL Q kk nn pc lv st0 ws := by
  intro H locs ls hP hD hS hl
  have hFc : ∀ q, va_A [] H.size q → A q := fun q h => by
    rcases h with ⟨k, e, h⟩ | h
    · cases h
    · exact gC_A C0 q (Nat.le_trans hS.1 h)
  refine va_calli (va_runS (As := As) (rest := st) C0.1 (hM H.size) ⟨callB_of n (gC_t C0) (ws_good hm.1) rfl hrc hrs (gC_t C0 _ hm.2.1) (gC_t C0 _ hlink) hm.2.2.2 hR, gC_t C0 _ hm.2.2.1⟩ ⟨hPre_blind, fun U hU hW => ⟨rfl, by rw [hU], (fun k q hq => by cases hq), va_K.moved hW.alike (gC_K C0), ⟨(fun i j p q hi => by cases hi), (fun k q hq => by cases hq)⟩, hNw_warm hW (gC_n C0)⟩⟩ rfl hn hl.1 hst (lv_room hW) hdg hRc) hS (fun q _ h => hFc q h) hFc (fun r u t H1 locs1 ht hvm hw hB hz1 hk1 hS1 => ?_)
  have hP1 : va_P D vwCl ws H1 := hP.kept (fun j q hj => hk1 q.1 (hP j q hj).lt (fun h => by
    rcases h with ⟨k, e, h⟩ | h
    · cases h
    · have := (hP j q hj).lt
      omega))
  subst hw
  exact k H1 locs1 ls hP1 hD hS1 hl
theorem g_l0pl (C0 : gC own cc nL ret0 p s m args meth c D tys A) {y : MethodName} {bytes : ByteArray} {maxL n index : Nat} {ret : Option FieldType} {rm : Room} {r0 : Int64} {As : List Value} {st0 : List Value} (hM : ∀ sz, Met l y (ws_ y bytes maxL ret) rm (va_Pc As (hPre D tys [] sz)) (hQl D [] r0 (va_A [] sz)) 0 0 (va_A [] sz)) (hm : hMS y bytes maxL ret n) (hlink : Cond.methodLink own index y ∈ hAll) (hR : rm.frames + 1 ≤ R.frames ∧ 8 + (maxL + 11) + rm.locals ≤ R.locals) (hRc : kk ≤ R.cells ∧ nn ≤ R.slots) (hrc : rm.cells = 0) (hrs : rm.slots = 0) (hn : As.length = n) (hst : st0 = As.reverse ++ st) (hW : (st.map fun v => v.category).sum ≤ 8) (hdg : decode cc pc = .ok (.invokestatic index, 3)) (k : gG p l e R s m args below meth c D A nL Q kk nn (pc + 3) lv (.long r0 :: st) ws) : gG p l e R s m args below meth c D A nL Q kk nn pc lv st0 ws := by
  intro H locs ls hP hD hS hl
  have hFc : ∀ q, va_A [] H.size q → A q := fun q h => by
    rcases h with ⟨k, e, h⟩ | h
    · cases h
    · exact gC_A C0 q (Nat.le_trans hS.1 h)
  refine va_calll (va_runS (As := As) (rest := st) C0.1 (hM H.size) ⟨callB_of n (gC_t C0) (ws_good hm.1) rfl hrc hrs (gC_t C0 _ hm.2.1) (gC_t C0 _ hlink) hm.2.2.2 hR, gC_t C0 _ hm.2.2.1⟩ ⟨hPre_blind, fun U hU hW => ⟨rfl, by rw [hU], (fun k q hq => by cases hq), va_K.moved hW.alike (gC_K C0), ⟨(fun i j p q hi => by cases hi), (fun k q hq => by cases hq)⟩, hNw_warm hW (gC_n C0)⟩⟩ rfl hn hl.1 hst (lv_room hW) hdg hRc) hS (fun q _ h => hFc q h) hFc (fun r u t H1 locs1 ht hvm hw hB hz1 hk1 hS1 => ?_)
  have hP1 : va_P D vwCl ws H1 := hP.kept (fun j q hj => hk1 q.1 (hP j q hj).lt (fun h => by
    rcases h with ⟨k, e, h⟩ | h
    · cases h
    · have := (hP j q hj).lt
      omega))
  subst hw
  exact k H1 locs1 ls hP1 hD hS1 hl
end LX
