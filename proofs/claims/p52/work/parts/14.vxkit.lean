/-! methods that throw: contracts, ends, throws -/
def hl_badw : Cond → Bool
  | .castable .. => true
  | .declares .. => true
  | _ => false
theorem hl_bad_cases (w : Cond) (h : hl_badw w = true) : (∃ a b, w = .castable a b) ∨ (∃ x, w = .declares x) := by
  cases w <;> first | exact Or.inl ⟨_, _, rfl⟩ | exact Or.inr ⟨_, rfl⟩ | exact Bool.noConfusion h
def hBad : List Cond := lw_tbl.filter hl_badw
theorem hBad_of {w : Cond} (h : w ∈ lw_tbl) (g : hl_badw w = true) : w ∈ hBad := List.mem_filter.mpr ⟨h, g⟩
def hBw (U : State) : Prop := ∀ w ∈ hBad, va_Nw w U
theorem hBw_warm {s U : State} (hW : s.WarmedH U.vm) (h : hBw s) : hBw U := by
  intro w hw
  have h1 := h w hw
  rcases hl_bad_cases w (List.mem_filter.mp hw).2 with ⟨a, b, rfl⟩ | ⟨x, rfl⟩
  · exact va_Nw.warmC hW h1
  · exact va_Nw.warmD hW h1
theorem hBw_same {s U : State} (hW : s.vm = U.vm) (h : hBw s) : hBw U := by
  intro w hw
  have h1 := h w hw
  rcases hl_bad_cases w (List.mem_filter.mp hw).2 with ⟨a, b, rfl⟩ | ⟨x, rfl⟩
  · exact va_Nw.same rfl hW h1
  · exact va_Nw.same rfl hW h1
theorem hBw_use {args : Array Value} {s : State} (h : hBw s) : ∀ w ∈ hBad, w.before args s = true := by
  intro w hw
  have h1 := h w hw
  rcases hl_bad_cases w (List.mem_filter.mp hw).2 with ⟨a, b, rfl⟩ | ⟨x, rfl⟩
  · exact va_Nw.use rfl h1
  · exact va_Nw.use rfl h1
def hStr : List (String × Nat × String) := [(RX6, 66, "the key or the value is out of range"), (RX6, 81, "the key cannot be put"), (RX6, 94, "the key is not contained"), (RX6, 116, "there is no such kind"), (RX6, 127, "the seed is out of range"), (RX6, 138, "the limit is out of range"), (RX6, 158, "the key is out of range"), (RX6, 165, "the probe sequence has no such index"), (RX6, 184, "there is no such rank"), (RX6, 195, "there are no keys"), (RX6, 197, "there is no such slot"), (RX6, 199, "the slot is not full"), (RX6, 241, "a number is out of range"), (RX6, 272, "the line has no such index")]
def hSr (U : State) : Prop := ∀ q ∈ hStr, ∃ a, vk_R q.1 q.2.1 q.2.2 a U
/-- what a throw wants of the machine's own cells, outside the method's -/
def hZ (A : Nat → Prop) (U : State) : Prop := (vx_Zq Bundle.tN "UNASSIGNED_STACK" Bundle.steD A U U.heap ∧ vx_Zq Bundle.tN "SUPPRESSED_SENTINEL" Bundle.listD A U U.heap) ∧ hBw U ∧ hSr U
theorem hZ_at {A A' : Nat → Prop} {s U : State} (Z : hZ A s) (hq : ∀ a : Nat, a < s.heap.size → ¬ A a → U.heap[a]? = s.heap[a]?) (hW : s.WarmedH U.vm) (hAA : ∀ q, A' q → A q) : hZ A' U :=
  ⟨⟨((Z.1.1.kept hq).moved hW.alike).narrow hAA, ((Z.1.2.kept hq).moved hW.alike).narrow hAA⟩, hBw_warm hW Z.2.1, fun q h => by
    obtain ⟨a, ha⟩ := Z.2.2 q h
    exact ⟨a, vk_R.warm hW ha⟩⟩
theorem hZ_call {A : Nat → Prop} {U : State} {g : JFrame} {mk : MethodId} {a : Array Value} (Z : hZ A U) : hZ A (U.calling g mk a) :=
  ⟨⟨Z.1.1.moved (u := U) (U := U.calling g mk a) (Vm.Alike.refl U.vm), Z.1.2.moved (u := U) (U := U.calling g mk a) (Vm.Alike.refl U.vm)⟩, hBw_same (s := U) (U := U.calling g mk a) rfl Z.2.1, fun q h => by
    obtain ⟨b, hb⟩ := Z.2.2 q h
    exact ⟨b, vk_R.same (u := U) (U := U.calling g mk a) rfl hb⟩⟩
def hPreX (D : va_G) (tys : List (ClassId × FieldType)) (wc : va_W) (sz : Nat) : State → Prop := fun U => hPre D tys wc sz U ∧ hZ (va_A wc sz) U
theorem hPreX_blind {D : va_G} {tys : List (ClassId × FieldType)} {wc : va_W} {sz : Nat} {av : List Value} : FrameBlind (va_Pc av (hPreX D tys wc sz)) := fun a U g mk q => by
  obtain ⟨q0, q1, q2⟩ := q
  obtain ⟨z0, z1⟩ := (hPre_blind (av := av) (D := D) (tys := tys) (wc := wc) (sz := sz)) a U g mk ⟨q0, q1⟩
  exact ⟨z0, z1, hZ_call q2⟩
def hExn : Nat → String
  | 1 => "java/lang/IllegalArgumentException"
  | 2 => "java/lang/IllegalStateException"
  | 3 => "java/util/NoSuchElementException"
  | 4 => "java/lang/IndexOutOfBoundsException"
  | 5 => "java/lang/ArithmeticException"
  | _ => "java/lang/UnsupportedOperationException"
def hXi (D : va_G) (w1 : va_W) (o : Int32 ⊕ Nat) (A : Nat → Prop) : Array Value → State → Outcome → State → Prop := va_Qi (fun r (_ : Unit) => o = .inl r) (fun _ t => va_P D vwCl w1 t.heap) A
def hXl (D : va_G) (w1 : va_W) (o : Int64 ⊕ Nat) (A : Nat → Prop) : Array Value → State → Outcome → State → Prop := va_Ql (fun r (_ : Unit) => o = .inl r) (fun _ t => va_P D vwCl w1 t.heap) A
def hXd (D : va_G) (w1 : va_W) (o : UInt64 ⊕ Nat) (A : Nat → Prop) : Array Value → State → Outcome → State → Prop := va_Qd (fun r (_ : Unit) => o = .inl r) (fun _ t => va_P D vwCl w1 t.heap) A
def hXX {β : Type} (D : va_G) (w1 : va_W) (o : β ⊕ Nat) (A : Nat → Prop) : String → State → State → Prop := vx_X (fun (_ : Unit) => True) (fun E _ t => ∃ k, o = .inr k ∧ E = hExn k ∧ va_P D vwCl w1 t.heap) A
abbrev hNames : List String := ["java/lang/RuntimeException", "java/lang/Exception"]
/-- the words of one throw -/
def hTh (own cls : String) (ik ic : Nat) : Prop := Bundle.fit cls = true ∧ Cond.classLink own ik cls ∈ hAll ∧ Cond.initialized cls ∈ hAll ∧ (∀ w ∈ (vx_atS own ic cls hNames).filter goodWord, w ∈ hAll) ∧ (∀ w ∈ (vx_atS own ic cls hNames).filter (fun w => !goodWord w), w ∈ hBad) ∧ (∀ w ∈ Cond.classLink own ik cls :: Cond.initialized cls :: vx_atS own ic cls hNames, vx_ot w = true)
theorem hTh_of {own cls : String} {ik ic : Nat} (h1 : Bundle.fit cls = true) (h2 : Cond.classLink own ik cls ∈ hAll) (h3 : Cond.initialized cls ∈ hAll) (h4 : ∀ w ∈ vx_atS own ic cls hNames, w ∈ lw_tbl) (h5 : ((vx_atS own ic cls hNames).filter (fun w => !goodWord w)).all hl_badw = true) (h6 : (Cond.classLink own ik cls :: Cond.initialized cls :: vx_atS own ic cls hNames).all vx_ot = true) : hTh own cls ik ic :=
  ⟨h1, h2, h3, fun w hw => hAll_of (h4 w (List.mem_filter.mp hw).1) (List.mem_filter.mp hw).2, fun w hw => hBad_of (h4 w (List.mem_filter.mp hw).1) (List.all_eq_true.mp h5 w hw), fun w hw => List.all_eq_true.mp h6 w hw⟩
theorem hl_appL {α : Type} {a b : List α} {k : Nat} {q : α} (h : a[k]? = some q) : (List.append a b)[k]? = some q := by
  have hl := (List.getElem?_eq_some_iff.mp h).1
  show (a ++ b)[k]? = some q
  rw [List.getElem?_append_left hl]
  exact h
theorem hl_appR {α : Type} {a b : List α} {k : Nat} {q : α} (h : b[k]? = some q) : (List.append a b)[a.length + k]? = some q := by
  show (a ++ b)[a.length + k]? = some q
  rw [List.getElem?_append_right (by omega)]
  simpa using h
theorem hl_appE {α : Type} {a b : List α} {k : Nat} {q : α} (h : (List.append a b)[k]? = some q) : a[k]? = some q ∨ ∃ j, k = a.length + j ∧ b[j]? = some q := by
  have h' : (a ++ b)[k]? = some q := h
  by_cases hl : k < a.length
  · rw [List.getElem?_append_left hl] at h'
    exact Or.inl h'
  · rw [List.getElem?_append_right (by omega)] at h'
    exact Or.inr ⟨k - a.length, by omega, h'⟩
theorem hl_PL {D : va_G} {cl : List vw_C} {a b : va_W} {H : Heap} (h : va_P D cl (List.append a b) H) : va_P D cl a H := fun k q hk => h k q (hl_appL hk)
theorem hl_PR {D : va_G} {cl : List vw_C} {a b : va_W} {H : Heap} (h : va_P D cl (List.append a b) H) : va_P D cl b H := fun k q hk => h _ q (hl_appR hk)
theorem hl_DL {A : Nat → Prop} {a b : va_W} (h : va_D A (List.append a b)) : va_D A a := ⟨fun i j p q hi hj e => h.1 i j p q (hl_appL hi) (hl_appL hj) e, fun k q hk => h.2 k q (hl_appL hk)⟩
theorem hl_DR {A : Nat → Prop} {a b : va_W} (h : va_D A (List.append a b)) : va_D A b := ⟨fun i j p q hi hj e => by
    have := h.1 _ _ p q (hl_appR hi) (hl_appR hj) e
    omega, fun k q hk => h.2 _ q (hl_appR hk)⟩
theorem hl_DX {A : Nat → Prop} {a b : va_W} (h : va_D A (List.append a b)) (i j : Nat) (p q : Nat × va_E) (hi : a[i]? = some p) (hj : b[j]? = some q) : p.1 ≠ q.1 := fun e => by
  have h1 := h.1 _ _ p q (hl_appL hi) (hl_appR hj) e
  have h2 := (List.getElem?_eq_some_iff.mp hi).1
  omega
theorem hl_subE {ws wc : va_W} {isC : List Nat} (hC : isC.map (fun i => ws[i]?) = wc.map some) {k : Nat} {q : Nat × va_E} (hq : wc[k]? = some q) : ∃ i, i ∈ isC ∧ ws[i]? = some q := by
  have h1 : (isC.map (fun i => ws[i]?))[k]? = some (some q) := by rw [hC, List.getElem?_map, hq]; rfl
  rw [List.getElem?_map] at h1
  cases hi : isC[k]? with
  | none => rw [hi] at h1; cases h1
  | some i => rw [hi] at h1; exact ⟨i, List.mem_of_getElem? hi, Option.some.inj h1⟩
/-- a call whose world ends in a group that stands last in the caller's too -/
theorem hl_preP {A : Nat → Prop} {D : va_G} {cl : List vw_C} {wx wa P : va_W} {H : Heap} (hP : va_P D cl (List.append wx P) H) (hD : va_D A (List.append wx P)) (isC : List Nat) (hC : isC.map (fun i => wx[i]?) = wa.map some) (hnd : va_nd isC = true) : va_P D cl (List.append wa P) H ∧ va_D A (List.append wa P) := by
  refine ⟨va_P.app (hl_Psub (hl_PL hP) isC hC) (hl_PR hP), va_D.app ((hl_DL hD).sub isC hnd hC) (hl_DR hD) (fun i j p q hi hj => ?_)⟩
  obtain ⟨k, -, hk⟩ := hl_subE hC hi
  exact hl_DX hD k j p q hk hj
theorem hl_backP {A0 : Nat → Prop} {D : va_G} {cl : List vw_C} {wx wa wa1 P P1 : va_W} {H H1 : Heap} (hP : va_P D cl (List.append wx P) H) (hD : va_D A0 (List.append wx P)) (isC : List Nat) (hC : isC.map (fun i => wx[i]?) = wa.map some) (hf1 : wa1.map Prod.fst = wa.map Prod.fst) (hfP : P1.map Prod.fst = P.map Prod.fst)
    (hk : ∀ q : Nat, q < H.size → ¬ va_A (List.append wa P) H.size q → H1[q]? = H[q]?) (hP1 : va_P D cl (List.append wa1 P1) H1) : va_P D cl (List.append (hl_repl wx isC wa1) P1) H1 ∧ va_D A0 (List.append (hl_repl wx isC wa1) P1) := by
  have hlen : isC.length = wa1.length := by
    have h1 := congrArg List.length hC
    have h2 := congrArg List.length hf1
    simp only [List.length_map] at h1 h2
    omega
  have hfst : (hl_repl wx isC wa1).map Prod.fst = wx.map Prod.fst := by
    refine hl_repl_fst isC wa1 wx ?_
    have h1 : isC.map (fun i => (wx.map Prod.fst)[i]?) = (isC.map (fun i => wx[i]?)).map (Option.map Prod.fst) := by
      rw [List.map_map]
      exact List.map_congr_left (fun i _ => by rw [List.getElem?_map]; rfl)
    rw [h1, hC, List.map_map]
    have h2 : wa1.map (fun q => some q.1) = (wa1.map Prod.fst).map some := by rw [List.map_map]; rfl
    rw [h2, hf1, List.map_map]
    rfl
  refine ⟨va_P.app (hl_repl_P isC wa1 wx hlen (fun q hq => ?_) (fun k q hkq hn => ?_)) (hl_PR hP1), hl_Dfst (ws := List.append wx P) ?_ hD⟩
  · obtain ⟨k, hk1⟩ := List.getElem?_of_mem hq
    exact hl_PL hP1 k q hk1
  · have hl := (hl_PL hP k q hkq).lt
    refine (hl_PL hP k q hkq).kept (hk q.1 hl (fun h => ?_))
    rcases h with ⟨k2, e, h⟩ | h
    · rcases hl_appE h with h | ⟨j, -, h⟩
      · obtain ⟨i, hi, hi2⟩ := hl_subE hC h
        have hij := (hl_DL hD).1 k i q (q.1, e) hkq hi2 rfl
        subst hij
        exact hn hi
      · exact hl_DX hD k j q (q.1, e) hkq h rfl
    · omega
  · show ((hl_repl wx isC wa1) ++ P1).map Prod.fst = (wx ++ P).map Prod.fst
    rw [List.map_append, List.map_append, hfst, hfP]
theorem pastW_fst (cI : ClassId) (hb : Nat → Nat → Nat) (hp hp' : Nat → hTT) : (pastW cI hb hp').map Prod.fst = (pastW cI hb hp).map Prod.fst := rfl
theorem tN_mem : ∀ w ∈ (hOwnN RX6 96).filter vx_no, w ∈ lw_tbl := by decide +kernel
theorem tN_bad : (((hOwnN RX6 96).filter vx_no).filter (fun w => !goodWord w)).all hl_badw = true := by decide +kernel
theorem tN_ot : (Cond.classLink RX6 92 hNS :: Cond.initialized hNS :: (hOwnN RX6 96).filter vx_no).all vx_ot = true := by decide +kernel
section GX
variable {p : Program} {l : Launch} {e : Env} {R : Room} {s : State} {m : MethodId} {args : Array Value} {below : List Frame} {meth : Method} {c : Code} {D : va_G} {tys : List (ClassId × FieldType)} {A : Nat → Prop} {own : String} {cc : ByteArray} {nL : Nat} {ret0 : Option FieldType} {Q : State → Prop} {pc : Nat} {lv lv' : List (Nat × Value)} {st : List Value} {ws ws' : va_W} {kk nn : Nat}
theorem g_iretX {w1 : va_W} {o : Int32 ⊕ Nat} {v : Int32} {ty : FieldType} (C0 : gC own cc nL (some ty) p s m args meth c D tys A) (hn : narrow ty (.int v) = .int v) (hdg : decode cc pc = .ok (.ireturn, 1)) (hv : o = .inl v) (hw : ws = w1) : gG p l e R s m args below meth c D A nL (vx_MQ below (hXi D w1 o A) (hXX D w1 o A) args s 1 6 A) 0 0 pc lv [.int v] ws := by
  subst hw
  exact fun H locs ls hP hD hS hl => W.widen (Nat.zero_le _) (Nat.zero_le _) (vx_ret (W.zret (gC_x C0) (gC_b C0) (gC_r C0) hn (fun t ht hW => ⟨⟨v, (), rfl, hv, show va_P D vwCl _ t.heap by rw [ht]; exact hP⟩, hS.F ht⟩) hS.2.2 hdg (gC_l C0)))
theorem g_lretX {w1 : va_W} {o : Int64 ⊕ Nat} {v : Int64} (C0 : gC own cc nL (some .long) p s m args meth c D tys A) (hdg : decode cc pc = .ok (.lreturn, 1)) (hv : o = .inl v) (hw : ws = w1) : gG p l e R s m args below meth c D A nL (vx_MQ below (hXl D w1 o A) (hXX D w1 o A) args s 1 6 A) 0 0 pc lv [.long v] ws := by
  subst hw
  exact fun H locs ls hP hD hS hl => W.widen (Nat.zero_le _) (Nat.zero_le _) (vx_ret (W.lret (gC_x C0) (gC_b C0) (gC_r C0) (fun t ht hW => ⟨⟨v, (), rfl, hv, show va_P D vwCl _ t.heap by rw [ht]; exact hP⟩, hS.F ht⟩) hS.2.2 hdg (gC_l C0)))
theorem g_dretX {w1 : va_W} {o : UInt64 ⊕ Nat} {v : UInt64} (C0 : gC own cc nL (some .double) p s m args meth c D tys A) (hdg : decode cc pc = .ok (.dreturn, 1)) (hv : o = .inl v) (hw : ws = w1) : gG p l e R s m args below meth c D A nL (vx_MQ below (hXd D w1 o A) (hXX D w1 o A) args s 1 6 A) 0 0 pc lv [.double v] ws := by
  subst hw
  exact fun H locs ls hP hD hS hl => W.widen (Nat.zero_le _) (Nat.zero_le _) (vx_ret (W.dret (gC_x C0) (gC_b C0) (gC_r C0) (fun t ht hW => ⟨⟨v, (), rfl, hv, show va_P D vwCl _ t.heap by rw [ht]; exact hP⟩, hS.F ht⟩) hS.2.2 hdg (gC_l C0)))
theorem g_throw {β : Type} {w1 : va_W} {o : β ⊕ Nat} {k ik is ic : Nat} {cls text : String} {Qc : Array Value → State → Outcome → State → Prop} (C0 : gC own cc nL ret0 p s m args meth c D tys A) (Z0 : hZ A s) (hl0 : l.stackTraces = false) (T0 : ∀ x ∈ c.exceptionTable.toList, False) (hth : hTh own cls ik ic) (hstr : (own, is, text) ∈ hStr) (d0 : decode cc pc = .ok (.new ik, 3)) (d3 : decode cc (pc + 3) = .ok (.dup, 1)) (d4 : decode cc (pc + 4) = .ok (.ldc is, 2)) (d6 : decode cc (pc + 6) = .ok (.invokespecial ic, 3)) (d9 : decode cc (pc + 9) = .ok (.athrow, 1)) (hRf : 5 < R.frames) (hRl : (st.map fun v => v.category).sum + 82 ≤ R.locals) (hRc : 1 ≤ R.cells) (hRs : 6 ≤ R.slots) (ho : o = .inr k) (hE : cls = hExn k) (hw : ws = w1) : gG p l e R s m args below meth c D A nL (vx_MQ below Qc (hXX D w1 o A) args s 1 6 A) 0 0 pc lv st ws := by
  subst hw
  intro H locs ls hP hD hS hl
  obtain ⟨sa, hsa⟩ := Z0.2.2 _ hstr
  refine vx_throwS (names := hNames) (A := A) (gC_x C0) (gC_b C0) hl0 (gC_o C0) hth.1 (by decide +kernel) (gC_t C0 _ hth.2.1) (gC_t C0 _ hth.2.2.1) hsa (vx_hat (fun w hw => gC_t C0 _ (hth.2.2.2.1 w hw)) hth.2.2.2.2.1 (hBw_use Z0.2.1)) hth.2.2.2.2.2 Z0.1.1 Z0.1.2 hS (by rw [gC_m C0]; exact hl.1) d0 d3 d4 d6 d9 (fun x hx => (T0 x hx).elim) hRf hRl (by simpa using hRc) (by simpa using hRs) (gC_l C0) (fun t hal hsz hkp => ⟨(), trivial, ⟨k, ho, hE, ?_⟩, ?_, ?_⟩) hS.2.2 (Nat.le_refl _) (Nat.le_refl _)
  · exact hP.kept (fun j q hj => hkp q.1 (hP j q hj).lt)
  · exact Nat.le_trans hS.1 hsz
  · intro q hq hn
    rw [hkp q (Nat.lt_of_lt_of_le hq hS.1)]
    exact hS.2.1 q hq hn
theorem g_throwW {β : Type} {w1 : va_W} {o : β ⊕ Nat} {k ik is ic : Nat} {cls text : String} {Qc : Array Value → State → Outcome → State → Prop} (C0 : gC own cc nL ret0 p s m args meth c D tys A) (Z0 : hZ A s) (hl0 : l.stackTraces = false) (T0 : ∀ x ∈ c.exceptionTable.toList, False) (hth : hTh own cls ik ic) (hstr : (own, is, text) ∈ hStr) (d0 : decode cc pc = .ok (.new ik, 3)) (d3 : decode cc (pc + 3) = .ok (.dup, 1)) (d4 : decode cc (pc + 4) = .ok (.ldc_w is, 3)) (d6 : decode cc (pc + 7) = .ok (.invokespecial ic, 3)) (d9 : decode cc (pc + 10) = .ok (.athrow, 1)) (hRf : 5 < R.frames) (hRl : (st.map fun v => v.category).sum + 82 ≤ R.locals) (hRc : 1 ≤ R.cells) (hRs : 6 ≤ R.slots) (ho : o = .inr k) (hE : cls = hExn k) (hw : ws = w1) : gG p l e R s m args below meth c D A nL (vx_MQ below Qc (hXX D w1 o A) args s 1 6 A) 0 0 pc lv st ws := by
  subst hw
  intro H locs ls hP hD hS hl
  obtain ⟨sa, hsa⟩ := Z0.2.2 _ hstr
  refine vx_throwSW (names := hNames) (A := A) (gC_x C0) (gC_b C0) hl0 (gC_o C0) hth.1 (by decide +kernel) (gC_t C0 _ hth.2.1) (gC_t C0 _ hth.2.2.1) hsa (vx_hat (fun w hw => gC_t C0 _ (hth.2.2.2.1 w hw)) hth.2.2.2.2.1 (hBw_use Z0.2.1)) hth.2.2.2.2.2 Z0.1.1 Z0.1.2 hS (by rw [gC_m C0]; exact hl.1) d0 d3 d4 d6 d9 (fun x hx => (T0 x hx).elim) hRf hRl (by simpa using hRc) (by simpa using hRs) (gC_l C0) (fun t hal hsz hkp => ⟨(), trivial, ⟨k, ho, hE, ?_⟩, ?_, ?_⟩) hS.2.2 (Nat.le_refl _) (Nat.le_refl _)
  · exact hP.kept (fun j q hj => hkp q.1 (hP j q hj).lt)
  · exact Nat.le_trans hS.1 hsz
  · intro q hq hn
    rw [hkp q (Nat.lt_of_lt_of_le hq hS.1)]
    exact hS.2.1 q hq hn
theorem g_callVvP {y : MethodName} {bytes : ByteArray} {maxL n index : Nat} {ret : Option FieldType} {rm : Room} {wx wx' wa wa1 P P1 wc w1 : va_W} {As : List Value} {st0 : List Value} {b ci N : Nat} {T : u_T} {fs : List Value} (C0 : gC own cc nL ret0 p s m args meth c D tys A) (hM : ∀ sz, Met l y (ws_ y bytes maxL ret) rm (va_Pc (.ref b :: As) (hPre D tys wc sz)) (hQv D w1 (va_A wc sz)) 0 0 (va_A wc sz)) (hm : hMV y bytes maxL ret n) (hlink : Cond.methodLink own index y ∈ hAll) (hR : rm.frames + 1 ≤ R.frames ∧ 8 + (maxL + 11) + rm.locals ≤ R.locals) (hRc : kk ≤ R.cells ∧ nn ≤ R.slots) (hrc : rm.cells = 0) (hrs : rm.slots = 0) (e1 : ws = List.append wx P) (e2 : wc = List.append wa P) (e3 : w1 = List.append wa1 P1) (e4 : ws' = List.append wx' P1) (isC : List Nat) (hC : isC.map (fun i => wx[i]?) = wa.map some) (hnd : va_nd isC = true) (hf1 : wa1.map Prod.fst = wa.map Prod.fst) (hfP : P1.map Prod.fst = P.map Prod.fst) (hws : hl_repl wx isC wa1 = wx') (hn : As.length = n) (q0 : Nat) (hb0 : wa[q0]? = some (b, .inr (ci, fs))) (hci : vwCl[ci]? = some (y.cls, T, N)) (hst : st0 = As.reverse ++ .ref b :: st) (hW : (st.map fun v => v.category).sum ≤ 8) (hdg : decode cc pc = .ok (.invokevirtual index, 3)) (k : gG p l e R s m args below meth c D A nL Q kk nn (pc + 3) lv st ws') : gG p l e R s m args below meth c D A nL Q kk nn pc lv st0 ws := by
  subst e1
  subst e2
  subst e3
  subst e4
  intro H locs ls hP hD hS hl
  obtain ⟨hPc, hDc⟩ := hl_preP hP hD isC hC hnd
  have hFc : ∀ q, va_A (List.append wa P) H.size q → A q := fun q h => by
    rcases h with ⟨k, e, h⟩ | h
    · exact hDc.2 k (q, e) h
    · exact gC_A C0 q (Nat.le_trans hS.1 h)
  refine va_callv (va_runV (As := As) (rest := st) C0.1 (hM H.size) ⟨callB_of n (gC_t C0) (ws_good hm.1) rfl hrc hrs (gC_t C0 _ hm.2.1) (gC_t C0 _ hlink) hm.2.2.2.2 hR, gC_t C0 _ hm.2.2.1, gC_t C0 _ hm.2.2.2.1⟩ ⟨hPre_blind, va_recv (gC_K C0) hPc hci (hl_appL hb0), fun U hU hW => ⟨rfl, by rw [hU], by rw [hU]; exact hPc, va_K.moved hW.alike (gC_K C0), hDc.weaken (fun _ _ _ _ => trivial), hNw_warm hW (gC_n C0)⟩⟩ rfl hn hl.1 hst (lv_room hW) hdg hRc) hS (fun q _ h => hFc q h) hFc (fun u t H1 locs1 ht hvm hw hB hz1 hk1 hS1 => ?_)
  rw [ht] at hB
  obtain ⟨hP1, hD1⟩ := hl_backP hP hD isC hC hf1 hfP hk1 hB
  rw [hws] at hP1 hD1
  exact k H1 locs1 ls hP1 hD1 hS1 hl
theorem g_callViW {r0 : Int32} {y : MethodName} {bytes : ByteArray} {maxL n index : Nat} {ret : Option FieldType} {rm : Room} {w1 : va_W} {As : List Value} {st0 : List Value} {b ci N : Nat} {T : u_T} {fs : List Value} (C0 : gC own cc nL ret0 p s m args meth c D tys A) (hM : ∀ sz, Met l y (ws_ y bytes maxL ret) rm (va_Pc (.ref b :: As) (hPre D tys ws sz)) (hQi D w1 r0 (va_A ws sz)) 0 0 (va_A ws sz)) (hm : hMV y bytes maxL ret n) (hlink : Cond.methodLink own index y ∈ hAll) (hR : rm.frames + 1 ≤ R.frames ∧ 8 + (maxL + 11) + rm.locals ≤ R.locals) (hRc : kk ≤ R.cells ∧ nn ≤ R.slots) (hrc : rm.cells = 0) (hrs : rm.slots = 0) (hf1 : w1.map Prod.fst = ws.map Prod.fst) (hn : As.length = n) (q0 : Nat) (hb0 : ws[q0]? = some (b, .inr (ci, fs))) (hci : vwCl[ci]? = some (y.cls, T, N)) (hst : st0 = As.reverse ++ .ref b :: st) (hW : (st.map fun v => v.category).sum ≤ 8) (hdg : decode cc pc = .ok (.invokevirtual index, 3)) (k : gG p l e R s m args below meth c D A nL Q kk nn (pc + 3) lv (.int r0 :: st) w1) : gG p l e R s m args below meth c D A nL Q kk nn pc lv st0 ws := by
  intro H locs ls hP hD hS hl
  have hFc : ∀ q, va_A ws H.size q → A q := fun q h => by
    rcases h with ⟨k, e, h⟩ | h
    · exact hD.2 k (q, e) h
    · exact gC_A C0 q (Nat.le_trans hS.1 h)
  refine va_calli (va_runV (As := As) (rest := st) C0.1 (hM H.size) ⟨callB_of n (gC_t C0) (ws_good hm.1) rfl hrc hrs (gC_t C0 _ hm.2.1) (gC_t C0 _ hlink) hm.2.2.2.2 hR, gC_t C0 _ hm.2.2.1, gC_t C0 _ hm.2.2.2.1⟩ ⟨hPre_blind, va_recv (gC_K C0) hP hci hb0, fun U hU hW => ⟨rfl, by rw [hU], by rw [hU]; exact hP, va_K.moved hW.alike (gC_K C0), hD.weaken (fun _ _ _ _ => trivial), hNw_warm hW (gC_n C0)⟩⟩ rfl hn hl.1 hst (lv_room hW) hdg hRc) hS (fun q _ h => hFc q h) hFc (fun r u t H1 locs1 ht hvm hw hB hz1 hk1 hS1 => ?_)
  rw [ht] at hB
  subst hw
  exact k H1 locs1 ls hB (hl_Dfst hf1 hD) hS1 hl
theorem g_throwN {β : Type} {w1 : va_W} {o : β ⊕ Nat} {is : Nat} {text : String} {Qc : Array Value → State → Outcome → State → Prop} (C0 : gC RX6 cc nL ret0 p s m args meth c D tys A) (Z0 : hZ A s) (hl0 : l.stackTraces = false) (T0 : ∀ x ∈ c.exceptionTable.toList, False) (hstr : (RX6, is, text) ∈ hStr) (d0 : decode cc pc = .ok (.new 92, 3)) (d3 : decode cc (pc + 3) = .ok (.dup, 1)) (d4 : decode cc (pc + 4) = .ok (.ldc is, 2)) (d6 : decode cc (pc + 6) = .ok (.invokespecial 96, 3)) (d9 : decode cc (pc + 9) = .ok (.athrow, 1)) (hRf : 5 < R.frames) (hRl : (st.map fun v => v.category).sum + 82 ≤ R.locals) (hRc : 1 ≤ R.cells) (hRs : 6 ≤ R.slots) (ho : o = .inr 3) (hw : ws = w1) : gG p l e R s m args below meth c D A nL (vx_MQ below Qc (hXX D w1 o A) args s 1 6 A) 0 0 pc lv st ws := by
  subst hw
  intro H locs ls hP hD hS hl T hT X
  obtain ⟨sa, hsa⟩ := Z0.2.2 _ hstr
  have hexec := gC_x C0
  have hb := gC_b C0
  have hown := gC_o C0
  have hsize : ls.size = c.maxLocals := by rw [gC_m C0]; exact hl.1
  have hlocks := gC_l C0
  have htr : e.platform.stackTraces = false := (show e.platform.stackTraces = l.stackTraces by rw [X.admits.platform]).trans hl0
  have Y := vx_rebase X (R' := { frames := R.frames, locals := R.locals, cells := 1, slots := 6 }) (Nat.le_refl _) (Nat.le_refl _) (by simpa using hRc) (by simpa using hRs)
  obtain ⟨s', hA⟩ : ∃ z, z = (T.setVm s.vm).setFrames (.invoking m args :: below) := ⟨_, rfl⟩
  rw [← hA] at Y
  have hvm : s'.vm = s.vm := by rw [hA]; rfl
  have hhp : s'.heap = H := by rw [hA]; exact hT
  have hW0 : s.WarmedH s'.vm := by rw [hvm]; exact State.WarmedH.refl s
  have hat : ∀ w ∈ (hOwnN RX6 96).filter vx_no, w.before args s = true := vx_hat (fun w hw => gC_t C0 w (hAll_of (tN_mem w (List.mem_filter.mp hw).1) (List.mem_filter.mp hw).2)) (fun w hw => hBad_of (tN_mem w (List.mem_filter.mp hw).1) (List.all_eq_true.mp tN_bad w hw)) (hBw_use Z0.2.1)
  have hgood := fun w hw => List.all_eq_true.mp tN_ot w hw
  have hat' : ∀ w ∈ (hOwnN RX6 96).filter vx_no, w.before args s' = true := fun w hw => vx_ot_at hW0 hvm.symm (hgood w (List.mem_cons_of_mem _ (List.mem_cons_of_mem _ hw))) (hat w hw)
  have hk' : (Cond.classLink RX6 92 hNS).before args s' = true := vx_ot_at hW0 hvm.symm (hgood _ List.mem_cons_self) (gC_t C0 _ q_285)
  have hini' : (Cond.initialized hNS).before args s' = true := vx_ot_at hW0 hvm.symm (hgood _ (List.mem_cons_of_mem _ List.mem_cons_self)) (gC_t C0 _ q_24)
  have hU' : vx_Zq Bundle.tN "UNASSIGNED_STACK" Bundle.steD A s' s'.heap := by rw [hhp]; exact vx_Zq.moved hW0.alike (Z0.1.1.kept hS.2.1)
  have hN' : vx_Zq Bundle.tN "SUPPRESSED_SENTINEL" Bundle.listD A s' s'.heap := by rw [hhp]; exact vx_Zq.moved hW0.alike (Z0.1.2.kept hS.2.1)
  have h : ∀ w ∈ hOwnN RX6 96, w.before args s' = true := vx_own hat' (vx_isRefq hU'.1) (vx_isRefq hN'.1) hU'.2.word hN'.2.word
  have hown' : s'.vm.findClass RX6 = some m.cls := by rw [hvm]; exact hown
  have hins : (Cond.instantiable hNS 6).before args s' = true := h _ (by simp [hOwnN])
  obtain ⟨vm₁, cX, kX, hfX, hkX, -, -, X₁, st1⟩ := Y.newCold hexec (own := RX6) (C := hNS) (index := 92) (n := 6) hown' hk' hins hini'
    (g := F0 m pc ls st) rfl (by rw [hb]; exact d0) (Nat.le_refl _) (Nat.le_refl _)
  generalize hT1 : (T.setVm vm₁).pushCell { cls := cX, slots := kX.instanceTypes.map defaultValue, vm := .none } = T1 at X₁ st1
  have hcat : (Value.ref T.heap.size).category = 1 := rfl
  have hcellA : T1.heap[T.heap.size]? = some (freshCell cX kX) := by rw [← hT1]; exact State.heap_pushCell_size _ _
  have d3' : decode c.code (pc + 3) = .ok (.dup, 1) := by rw [hb]; exact d3
  have d4' : decode c.code (pc + 4) = .ok (.ldc is, 2) := by rw [hb]; exact d4
  have hstr' : vk_R RX6 is text sa s' := vk_R.warm hW0 hsa
  obtain ⟨U, hsteps, hrun, hend, hW, hsame, ce, hce, hvn, hcl0⟩ := hl_ctorN X₁ hexec htr (own := RX6) (ic := 96) hown' h (fun x hx => nomatch hx) hfX hkX hcellA (by rw [hhp, hT]; exact Nat.le_refl _) (msg := .ref sa) rfl
    (g := { method := m, pc := pc + 6, locals := ls, stack := .ref sa :: .ref T.heap.size :: .ref T.heap.size :: st, locked := none }) rfl hsize rfl rfl (rest := st) rfl
    (by rw [hb]; exact d6) (by rw [hb]; exact d9) (fun x hx => (T0 x hx).elim) hRf (by simp only [List.map_cons, List.sum_cons, hcat]; omega) hlocks
  obtain ⟨f1, f2⟩ := vx_frame hsame
  rw [hhp] at f1 f2
  have hWs : s.WarmedH U.vm := State.WarmedH.trans hW0 hW
  have hcl : s.vm.findClass hNS = some ce.cls := by
    rw [hvm] at hcl0
    exact hcl0
  have hall : s.sameButNew ({ U with vm := s.vm } : State) locs 1 6 := by
    subst hA
    obtain ⟨e1, e2⟩ := hsame
    rw [State.setFrames_setFrames] at e1
    have h2 : (T.setVm s.vm).sameButNew ({ U with vm := s.vm } : State) [] (0 + 1) (0 + 6) := ⟨e1, e2⟩
    have h3 := X.same.trans h2
    rw [List.append_nil] at h3
    exact h3.mono (Nat.le_refl _) (Nat.le_refl _)
  have hkp : ∀ q : Nat, q < H.size → U.heap[q]? = H[q]? := fun q hq => f2 q hq (fun z hz => nomatch hz)
  refine ⟨U, ?_, .threw T.heap.size, hrun, hend, Or.inr ⟨T.heap.size, rfl, hNS, ce, locs, ⟨(), trivial, ⟨3, ho, rfl, ?_⟩, ?_, ?_⟩, hce, hvn, hcl, hWs, hall, hS.2.2⟩⟩
  · refine st1 _ ?_
    show Steps p.tables e below (T1.setTop { method := m, pc := pc + 3, locals := ls, stack := .ref T.heap.size :: st, locked := none }) _
    jvm_step X₁.here [X₁.here.top, hexec, d3', Value.category]
    exact X₁.ldcString hexec (own := RX6) (text := text) (index := is) (a := sa) hown' hstr'.1 hstr'.2
      (g := { method := m, pc := pc + 4, locals := ls, stack := .ref T.heap.size :: .ref T.heap.size :: st, locked := none }) rfl d4' _ hsteps
  · exact hP.kept (fun j q hj => hkp q.1 (hP j q hj).lt)
  · exact Nat.le_trans hS.1 f1
  · intro q hq hn
    rw [hkp q (Nat.lt_of_lt_of_le hq hS.1)]
    exact hS.2.1 q hq hn
theorem g_throwNW {β : Type} {w1 : va_W} {o : β ⊕ Nat} {is : Nat} {text : String} {Qc : Array Value → State → Outcome → State → Prop} (C0 : gC RX6 cc nL ret0 p s m args meth c D tys A) (Z0 : hZ A s) (hl0 : l.stackTraces = false) (T0 : ∀ x ∈ c.exceptionTable.toList, False) (hstr : (RX6, is, text) ∈ hStr) (d0 : decode cc pc = .ok (.new 92, 3)) (d3 : decode cc (pc + 3) = .ok (.dup, 1)) (d4 : decode cc (pc + 4) = .ok (.ldc_w is, 3)) (d6 : decode cc (pc + 7) = .ok (.invokespecial 96, 3)) (d9 : decode cc (pc + 10) = .ok (.athrow, 1)) (hRf : 5 < R.frames) (hRl : (st.map fun v => v.category).sum + 82 ≤ R.locals) (hRc : 1 ≤ R.cells) (hRs : 6 ≤ R.slots) (ho : o = .inr 3) (hw : ws = w1) : gG p l e R s m args below meth c D A nL (vx_MQ below Qc (hXX D w1 o A) args s 1 6 A) 0 0 pc lv st ws := by
  subst hw
  intro H locs ls hP hD hS hl T hT X
  obtain ⟨sa, hsa⟩ := Z0.2.2 _ hstr
  have hexec := gC_x C0
  have hb := gC_b C0
  have hown := gC_o C0
  have hsize : ls.size = c.maxLocals := by rw [gC_m C0]; exact hl.1
  have hlocks := gC_l C0
  have htr : e.platform.stackTraces = false := (show e.platform.stackTraces = l.stackTraces by rw [X.admits.platform]).trans hl0
  have Y := vx_rebase X (R' := { frames := R.frames, locals := R.locals, cells := 1, slots := 6 }) (Nat.le_refl _) (Nat.le_refl _) (by simpa using hRc) (by simpa using hRs)
  obtain ⟨s', hA⟩ : ∃ z, z = (T.setVm s.vm).setFrames (.invoking m args :: below) := ⟨_, rfl⟩
  rw [← hA] at Y
  have hvm : s'.vm = s.vm := by rw [hA]; rfl
  have hhp : s'.heap = H := by rw [hA]; exact hT
  have hW0 : s.WarmedH s'.vm := by rw [hvm]; exact State.WarmedH.refl s
  have hat : ∀ w ∈ (hOwnN RX6 96).filter vx_no, w.before args s = true := vx_hat (fun w hw => gC_t C0 w (hAll_of (tN_mem w (List.mem_filter.mp hw).1) (List.mem_filter.mp hw).2)) (fun w hw => hBad_of (tN_mem w (List.mem_filter.mp hw).1) (List.all_eq_true.mp tN_bad w hw)) (hBw_use Z0.2.1)
  have hgood := fun w hw => List.all_eq_true.mp tN_ot w hw
  have hat' : ∀ w ∈ (hOwnN RX6 96).filter vx_no, w.before args s' = true := fun w hw => vx_ot_at hW0 hvm.symm (hgood w (List.mem_cons_of_mem _ (List.mem_cons_of_mem _ hw))) (hat w hw)
  have hk' : (Cond.classLink RX6 92 hNS).before args s' = true := vx_ot_at hW0 hvm.symm (hgood _ List.mem_cons_self) (gC_t C0 _ q_285)
  have hini' : (Cond.initialized hNS).before args s' = true := vx_ot_at hW0 hvm.symm (hgood _ (List.mem_cons_of_mem _ List.mem_cons_self)) (gC_t C0 _ q_24)
  have hU' : vx_Zq Bundle.tN "UNASSIGNED_STACK" Bundle.steD A s' s'.heap := by rw [hhp]; exact vx_Zq.moved hW0.alike (Z0.1.1.kept hS.2.1)
  have hN' : vx_Zq Bundle.tN "SUPPRESSED_SENTINEL" Bundle.listD A s' s'.heap := by rw [hhp]; exact vx_Zq.moved hW0.alike (Z0.1.2.kept hS.2.1)
  have h : ∀ w ∈ hOwnN RX6 96, w.before args s' = true := vx_own hat' (vx_isRefq hU'.1) (vx_isRefq hN'.1) hU'.2.word hN'.2.word
  have hown' : s'.vm.findClass RX6 = some m.cls := by rw [hvm]; exact hown
  have hins : (Cond.instantiable hNS 6).before args s' = true := h _ (by simp [hOwnN])
  obtain ⟨vm₁, cX, kX, hfX, hkX, -, -, X₁, st1⟩ := Y.newCold hexec (own := RX6) (C := hNS) (index := 92) (n := 6) hown' hk' hins hini'
    (g := F0 m pc ls st) rfl (by rw [hb]; exact d0) (Nat.le_refl _) (Nat.le_refl _)
  generalize hT1 : (T.setVm vm₁).pushCell { cls := cX, slots := kX.instanceTypes.map defaultValue, vm := .none } = T1 at X₁ st1
  have hcat : (Value.ref T.heap.size).category = 1 := rfl
  have hcellA : T1.heap[T.heap.size]? = some (freshCell cX kX) := by rw [← hT1]; exact State.heap_pushCell_size _ _
  have d3' : decode c.code (pc + 3) = .ok (.dup, 1) := by rw [hb]; exact d3
  have d4' : decode c.code (pc + 4) = .ok (.ldc_w is, 3) := by rw [hb]; exact d4
  have hstr' : vk_R RX6 is text sa s' := vk_R.warm hW0 hsa
  obtain ⟨U, hsteps, hrun, hend, hW, hsame, ce, hce, hvn, hcl0⟩ := hl_ctorN X₁ hexec htr (own := RX6) (ic := 96) hown' h (fun x hx => nomatch hx) hfX hkX hcellA (by rw [hhp, hT]; exact Nat.le_refl _) (msg := .ref sa) rfl
    (g := { method := m, pc := pc + 7, locals := ls, stack := .ref sa :: .ref T.heap.size :: .ref T.heap.size :: st, locked := none }) rfl hsize rfl rfl (rest := st) rfl
    (by rw [hb]; exact d6) (by rw [hb]; exact d9) (fun x hx => (T0 x hx).elim) hRf (by simp only [List.map_cons, List.sum_cons, hcat]; omega) hlocks
  obtain ⟨f1, f2⟩ := vx_frame hsame
  rw [hhp] at f1 f2
  have hWs : s.WarmedH U.vm := State.WarmedH.trans hW0 hW
  have hcl : s.vm.findClass hNS = some ce.cls := by
    rw [hvm] at hcl0
    exact hcl0
  have hall : s.sameButNew ({ U with vm := s.vm } : State) locs 1 6 := by
    subst hA
    obtain ⟨e1, e2⟩ := hsame
    rw [State.setFrames_setFrames] at e1
    have h2 : (T.setVm s.vm).sameButNew ({ U with vm := s.vm } : State) [] (0 + 1) (0 + 6) := ⟨e1, e2⟩
    have h3 := X.same.trans h2
    rw [List.append_nil] at h3
    exact h3.mono (Nat.le_refl _) (Nat.le_refl _)
  have hkp : ∀ q : Nat, q < H.size → U.heap[q]? = H[q]? := fun q hq => f2 q hq (fun z hz => nomatch hz)
  refine ⟨U, ?_, .threw T.heap.size, hrun, hend, Or.inr ⟨T.heap.size, rfl, hNS, ce, locs, ⟨(), trivial, ⟨3, ho, rfl, ?_⟩, ?_, ?_⟩, hce, hvn, hcl, hWs, hall, hS.2.2⟩⟩
  · refine st1 _ ?_
    show Steps p.tables e below (T1.setTop { method := m, pc := pc + 3, locals := ls, stack := .ref T.heap.size :: st, locked := none }) _
    jvm_step X₁.here [X₁.here.top, hexec, d3', Value.category]
    exact X₁.ldcStringW hexec (own := RX6) (text := text) (index := is) (a := sa) hown' hstr'.1 hstr'.2
      (g := { method := m, pc := pc + 4, locals := ls, stack := .ref T.heap.size :: .ref T.heap.size :: st, locked := none }) rfl d4' _ hsteps
  · exact hP.kept (fun j q hj => hkp q.1 (hP j q hj).lt)
  · exact Nat.le_trans hS.1 f1
  · intro q hq hn
    rw [hkp q (Nat.lt_of_lt_of_le hq hS.1)]
    exact hS.2.1 q hq hn
end GX
theorem g_metX {l : Launch} {D : va_G} {tys : List (ClassId × FieldType)} {y : MethodName} {bytes : ByteArray} {maxL : Nat} {ret : Option FieldType} {rm : Room} {av : List Value} {wc : va_W} {lv0 : List (Nat × Value)} {Qf : (Nat → Prop) → Array Value → State → Outcome → State → Prop} {Xf : (Nat → Prop) → String → State → State → Prop} {mc ms : Nat}
    (hy : plainName y.cls = true) (hlen : (lg_sl av).length ≤ maxL) (hlv : lv_args 0 av = lv0)
    (body : ∀ {p : Program} {e : Env} {s : State} {m : MethodId} {args : Array Value} {below : List Frame} {meth : Method} {c : Code} {A : Nat → Prop}, gC y.cls bytes maxL ret p s m args meth c D tys A → hZ A s → (∀ x ∈ c.exceptionTable.toList, False) → gG p l e rm s m args below meth c D A maxL (vx_MQ below (Qf A) (Xf A) args s mc ms A) 0 0 0 lv0 [] wc) :
    ∀ sz, vx_Met l y (ws_ y bytes maxL ret) rm (va_Pc av (hPreX D tys wc sz)) (Qf (va_A wc sz)) (Xf (va_A wc sz)) mc ms (va_A wc sz) := by
  intro sz
  refine vx_ofW (cc := bytes) (maxL := maxL) (ret := ret) hy rfl ?_
  intro p e s m args below meth c s₁ B hml hT hv
  obtain ⟨rfl, ⟨hsz, hP, hK, hD0, hN⟩, hZ0⟩ := hv
  subst hsz
  have hts := atoms_spec (ws := ws_ y bytes maxL ret) B.pre
  have hown := findClass_of_methodNamed B.named
  have hD := hD0.self (sz := s.heap.size)
  have C0 : gC y.cls bytes maxL ret p s m av.toArray meth c D tys (va_A wc s.heap.size) := ⟨⟨B.exec, B.bytes, hml, hown, fun w h => hts w (List.mem_cons_of_mem _ h)⟩, hK, fun q h => Or.inr h, B.returns, B.notSynchronized, hN⟩
  have hl := lv_entry av (n := maxL) hlen
  rw [hlv] at hl
  rw [lg_entry_eq]
  exact body C0 hZ0 hT s.heap [] _ hP hD va_S.rf hl
theorem tw_1 : hTh RX6 (hExn 1) 64 68 := hTh_of (by decide +kernel) q_369 q_21 (by decide +kernel) (by decide +kernel) (by decide +kernel)
theorem tw_2 : hTh RX6 (hExn 2) 79 83 := hTh_of (by decide +kernel) q_777 q_25 (by decide +kernel) (by decide +kernel) (by decide +kernel)
theorem tw_4 : hTh RX6 (hExn 4) 163 167 := hTh_of (by decide +kernel) q_389 q_26 (by decide +kernel) (by decide +kernel) (by decide +kernel)
theorem tw_5 : hTh RX6 (hExn 5) 217 219 := hTh_of (by decide +kernel) q_498 q_41 (by decide +kernel) (by decide +kernel) (by decide +kernel)
/-- the cells of a laboratory -/
def labW (cB cC cI cO : ClassId) (L0 h0 h1 h2 h3 h4 e0 e1 e2 e3 e4 b0 b1 b2 b3 b4 w0 w1 w2 w3 w4 q0 q1 p0 p1 p2 p3 p4 l0 l1 : Nat) (hb : Nat → Nat → Nat) (isv : Int32) (rpo : Int32) (rco : Int32) (tcp : Int32) (tkd : Int32) (tsd : Int32) (tlm : Int32) (tfu : Int32) (ttb : Int32) (trb : Int32) (tgr : Int32) (tK : Nat → Int32) (tV : Nat → Int32) (tO : Nat → Int32) (tW : Nat → Int32) (ecp : Int32) (ekd : Int32) (esd : Int32) (elm : Int32) (efu : Int32) (etb : Int32) (erb : Int32) (egr : Int32) (eK : Nat → Int32) (eV : Nat → Int32) (eO : Nat → Int32) (eW : Nat → Int32) (bcp : Int32) (bkd : Int32) (bsd : Int32) (blm : Int32) (bfu : Int32) (btb : Int32) (brb : Int32) (bgr : Int32) (bK : Nat → Int32) (bV : Nat → Int32) (bO : Nat → Int32) (bW : Nat → Int32) (wcp : Int32) (wkd : Int32) (wsd : Int32) (wlm : Int32) (wfu : Int32) (wtb : Int32) (wrb : Int32) (wgr : Int32) (wK : Nat → Int32) (wV : Nat → Int32) (wO : Nat → Int32) (wW : Nat → Int32) (hnw : Int32) (hct : Int32) (pl : Int32) (pp : Int32) (pn : Int32) (pS : Nat → Int32) (pV : Nat → Int32) (pO : Nat → Int32) (pW : Nat → Int32) (ln : Int32) (lS : Nat → Int32) (hp : Nat → hTT) : va_W := List.append [(L0, .inr (6, [.ref h0, .ref e0, .ref b0, .ref w0, .ref q0, .ref p0, .ref l0, .int isv, .int rpo, .int rco])), (h0, .inr (5, [.ref h1, .ref h2, .ref h3, .ref h4, .int tcp, .int tkd, .int tsd, .int tlm, .int tfu, .int ttb, .int trb, .int tgr])), (h1, .inl (cI, 64, .inl tK)), (h2, .inl (cI, 64, .inl tV)), (h3, .inl (cI, 64, .inl tO)), (h4, .inl (cI, 64, .inl tW)), (e0, .inr (5, [.ref e1, .ref e2, .ref e3, .ref e4, .int ecp, .int ekd, .int esd, .int elm, .int efu, .int etb, .int erb, .int egr])), (e1, .inl (cI, 64, .inl eK)), (e2, .inl (cI, 64, .inl eV)), (e3, .inl (cI, 64, .inl eO)), (e4, .inl (cI, 64, .inl eW)), (b0, .inr (5, [.ref b1, .ref b2, .ref b3, .ref b4, .int bcp, .int bkd, .int bsd, .int blm, .int bfu, .int btb, .int brb, .int bgr])), (b1, .inl (cI, 64, .inl bK)), (b2, .inl (cI, 64, .inl bV)), (b3, .inl (cI, 64, .inl bO)), (b4, .inl (cI, 64, .inl bW)), (w0, .inr (5, [.ref w1, .ref w2, .ref w3, .ref w4, .int wcp, .int wkd, .int wsd, .int wlm, .int wfu, .int wtb, .int wrb, .int wgr])), (w1, .inl (cI, 64, .inl wK)), (w2, .inl (cI, 64, .inl wV)), (w3, .inl (cI, 64, .inl wO)), (w4, .inl (cI, 64, .inl wW)), (q0, .inr (2, [.ref q1, .int hnw, .int hct])), (q1, .inl (cO, 8, .inr (.inr (.inr (.inr (hpf hb)))))), (p0, .inr (4, [.ref p1, .ref p2, .ref p3, .ref p4, .int pl, .int pp, .int pn])), (p1, .inl (cC, 60, .inl pS)), (p2, .inl (cI, 60, .inl pV)), (p3, .inl (cI, 60, .inl pO)), (p4, .inl (cI, 60, .inl pW)), (l0, .inr (3, [.ref l1, .int ln])), (l1, .inl (cC, 640, .inl lS))] (pastW cI hb hp)
