/-! the law: what its entry gives, and its walk to the head of its loop -/
section GLD
variable {p : Program} {l : Launch} {e : Env} {R : Room} {s : State} {m : MethodId} {args : Array Value} {below : List Frame} {meth : Method} {c : Code} {D : va_G} {tys : List (ClassId × FieldType)} {A : Nat → Prop} {own : String} {cc : ByteArray} {nL : Nat} {ret0 : Option FieldType} {Q : State → Prop} {pc : Nat} {lv lv' : List (Nat × Value)} {st : List Value} {ws ws' : va_W} {kk nn : Nat}
theorem g_newJ {cJ : ClassId} {n : Int32} {N : Nat} (C0 : gC own cc nL ret0 p s m args meth c D tys A) (harr : Cond.arrayClass .long ∈ hAll) (t0 : Nat) (ht : tys[t0]? = some (cJ, .long)) (hn : hl_in n (N + 1) = true) (hN : n.toNatClampNeg = N) (hby : N * componentBytes .long ≤ 536870912) (hc : kk + 1 ≤ R.cells) (hs : nn + N ≤ R.slots) (hdg : decode cc pc = .ok (.newarray .long, 2)) (k : ∀ q : Nat, gG p l e R s m args below meth c D A nL Q (kk + 1) (nn + N) (pc + 2) lv (.ref q :: st) (List.append ws [(q, .inl (cJ, N, .inr (.inl (fun _ => 0))))])) : gG p l e R s m args below meth c D A nL Q kk nn pc lv (.int n :: st) ws := by
  intro H locs ls hP hD hS hl
  refine va_newa (atype := .long) (ty := .long) (a0 := (N, .inr (.inl (fun _ => 0)))) (gC_x C0) (gC_b C0) (gC_t C0 _ harr) rfl (gC_K C0) hP hD hS (gC_A C0) (fun cA => rfl) (fun h => hl_inP hn (Or.inl h)) hN hby hc hs hdg (fun q cA H1 hK1 hP1 hD1 hS1 => ?_)
  have h1 := (hK1.2 tys.length (cA, .long) (by simp)).2
  have h2 := ((gC_K C0).2 t0 (cJ, .long) ht).2
  have e1 : cA = cJ := Option.some.inj (h1.symm.trans h2)
  subst e1
  exact k q H1 locs ls hP1 hD1 hS1 hl
theorem g_newD {cD : ClassId} {n : Int32} {N : Nat} (C0 : gC own cc nL ret0 p s m args meth c D tys A) (harr : Cond.arrayClass .double ∈ hAll) (t0 : Nat) (ht : tys[t0]? = some (cD, .double)) (hn : hl_in n (N + 1) = true) (hN : n.toNatClampNeg = N) (hby : N * componentBytes .double ≤ 536870912) (hc : kk + 1 ≤ R.cells) (hs : nn + N ≤ R.slots) (hdg : decode cc pc = .ok (.newarray .double, 2)) (k : ∀ q : Nat, gG p l e R s m args below meth c D A nL Q (kk + 1) (nn + N) (pc + 2) lv (.ref q :: st) (List.append ws [(q, .inl (cD, N, .inr (.inr (.inr (.inl (fun _ => 0))))))])) : gG p l e R s m args below meth c D A nL Q kk nn pc lv (.int n :: st) ws := by
  intro H locs ls hP hD hS hl
  refine va_newa (atype := .double) (ty := .double) (a0 := (N, .inr (.inr (.inr (.inl (fun _ => 0)))))) (gC_x C0) (gC_b C0) (gC_t C0 _ harr) rfl (gC_K C0) hP hD hS (gC_A C0) (fun cA => rfl) (fun h => hl_inP hn (Or.inl h)) hN hby hc hs hdg (fun q cA H1 hK1 hP1 hD1 hS1 => ?_)
  have h1 := (hK1.2 tys.length (cA, .double) (by simp)).2
  have h2 := ((gC_K C0).2 t0 (cD, .double) ht).2
  have e1 : cA = cD := Option.some.inj (h1.symm.trans h2)
  subst e1
  exact k q H1 locs ls hP1 hD1 hS1 hl
end GLD
theorem st_OF {o n d : String} {v w : Value} {t : Nat} {A : Nat → Prop} {U : State} {H : Heap} (h1 : va_OF o n d v t A U H) (h2 : va_OF o n d w t A U H) : v = w := by
  obtain ⟨cf, k, i, f, cell, a1, a2, a3, a4, a5, a6⟩ := h1
  obtain ⟨cf', k', i', f', cell', b1, b2, b3, b4, b5, b6⟩ := h2
  cases Option.some.inj (a1.symm.trans b1)
  cases Option.some.inj (a3.symm.trans b3)
  exact Option.some.inj (a5.symm.trans b5)
theorem st_T {ty : FieldType} {t N M : Nat} {f g : Nat → Value} {A : Nat → Prop} {U : State} {H : Heap} (h1 : va_T ty t N f A U H) (h2 : va_T ty t M g A U H) : Int32.ofNat N = Int32.ofNat M ∧ ∀ j, j < N → j < M → f j = g j := by
  obtain ⟨cell, a1, a2, a3, a4, a5, a6, a7⟩ := h1
  obtain ⟨cell', b1, b2, b3, b4, b5, b6, b7⟩ := h2
  cases Option.some.inj (a1.symm.trans b1)
  exact ⟨a5.symm.trans b5, fun j hj hk => Option.some.inj ((a6 j hj).symm.trans (b6 j hk))⟩
theorem rel_init {wcp wkd wsd wlm wfu wtb wrb wgr : Int32} {wK wV pS lS mA mL mI : Nat → Int32} {hp : Nat → hTT} (h0 : mA 0 = 8) (h5 : mA 5 = 70) (hr : ∀ i, i ≠ 0 → i ≠ 5 → mA i = 0) : Rel 0 (-1) (-1) 8 0 0 70 0 0 0 0 (eK (fun _ => 0)) (fun _ => 0) wcp wkd wsd wlm wfu wtb wrb wgr wK wV 0 0 hp 0 pS 0 lS 0 0 0 0 (-1) (-1) mA mL mI := by
  refine ⟨⟨8, 0, 0, 70, 0, 0, ⟨rfl, rfl, rfl, rfl, rfl, rfl⟩, Inv.empty (Or.inl rfl) (by omega) (by omega) ⟨by omega, by omega⟩, ⟨h0, hr _ (by omega) (by omega), hr _ (by omega) (by omega), hr _ (by omega) (by omega), hr _ (by omega) (by omega), h5, fun s hs => Or.inl ⟨eK_at hs, hr _ (by omega) (by omega)⟩⟩, hr _ (by omega) (by omega), hr _ (by omega) (by omega)⟩, ⟨0, 0, by omega, by omega, rfl, rfl, rfl, fun j hj => absurd hj (Nat.not_lt_zero _)⟩, ⟨rfl, Or.inl rfl, fun e => absurd rfl e⟩, ⟨0, by omega, rfl, rfl, fun i hi => absurd hi (Nat.not_lt_zero _)⟩, ⟨0, by omega, rfl, rfl, fun i hi => absurd hi (Nat.not_lt_zero _)⟩, rfl, rfl⟩
theorem hl_dL6 (z : Nat) (hz : z < 10) : defaultValue (tyX6 z) = vp_V [.null, .null, .null, .null, .null, .null, .null, .int 0, .int 0, .int 0] z := by
  rcases (show z = 0 ∨ z = 1 ∨ z = 2 ∨ z = 3 ∨ z = 4 ∨ z = 5 ∨ z = 6 ∨ z = 7 ∨ z = 8 ∨ z = 9 by omega) with rfl | rfl | rfl | rfl | rfl | rfl | rfl | rfl | rfl | rfl <;> rfl
theorem hl_dL7 (z : Nat) (hz : z < 17) : defaultValue (tyX7 z) = vp_V [.int (0 : Int32), .null, .int (0 : Int32), .int (0 : Int32), .int (0 : Int32), .int (0 : Int32), .int (0 : Int32), .null, .int (0 : Int32), .null, .int (0 : Int32), .int (0 : Int32), .int (0 : Int32), .int (0 : Int32), .int (0 : Int32), .null, .int (0 : Int32)] z := by
  rcases (show z = 0 ∨ z = 1 ∨ z = 2 ∨ z = 3 ∨ z = 4 ∨ z = 5 ∨ z = 6 ∨ z = 7 ∨ z = 8 ∨ z = 9 ∨ z = 10 ∨ z = 11 ∨ z = 12 ∨ z = 13 ∨ z = 14 ∨ z = 15 ∨ z = 16 by omega) with rfl | rfl | rfl | rfl | rfl | rfl | rfl | rfl | rfl | rfl | rfl | rfl | rfl | rfl | rfl | rfl | rfl <;> rfl
