/-! the law, walked: 3 -/
set_option maxHeartbeats 8000000 in
set_option maxRecDepth 100000 in
theorem bL_law_274_WK {p : Program} {l : Launch} {e : Env} {s : State} {m : MethodId} {args : Array Value} {below : List Frame} {meth : Method} {c : Code} {D : va_G} {cB cC cI cO : ClassId} {A : Nat → Prop} {g : LG} (C0 : gC RL cL_law 23 (some .boolean) p s m args meth c D (hTy cB cC cI cO) A) (E0 : hLw g A s) (hl0 : l.stackTraces = false) (K0 : Nat → Int32) (hK0 : fJ7_fill_53178 64 (fun _ => 0) (-1 : Int32) = some K0) {Q : State → Prop} (KE : ∀ (lv : List (Nat × Value)) (ws : va_W) (kk nn : Nat), kk ≤ room_1.cells → nn ≤ room_1.slots → gG p l e room_1 s m args below meth c D A 23 Q kk nn 1230 lv [.int 1] ws) (L0 : Nat) (ua : LA) (out : Unit) {B15a B15b : Nat} {B59a B59b : Nat} {B244a B244b : Nat} (rec15 : LV → Int32 → Option (Unit)) (rec59 : LV → Int32 → Int32 → Int32 → Int32 → Int32 → Int32 → Int32 → Int32 → Int32 → Nat → (Nat → Int32) → Nat → (Nat → Int32) → Int32 → Option (Unit)) (rec244 : LV → Int32 → Int32 → Int32 → Int32 → Int32 → Int32 → Int32 → Int32 → Int32 → Nat → (Nat → Int32) → Nat → (Nat → Int32) → Int32 → Int32 → Int32 → Int32 → Int32 → Option (Unit)) (hrec15 : ∀ (v : LV) (v2 : Int32)  (kk nn : Nat), rec15 v v2 = some out → kk + (B15a) ≤ room_1.cells → nn + (B15b) ≤ room_1.slots → gG p l e room_1 s m args below meth c D A 23 Q kk nn 15 [(0, .ref g.2.2.1), (1, .ref L0), (2, .int v2)] [] (List.append [] (labX cB cC cI cO L0 ua v))) (hrec59 : ∀ (v : LV) (v2 : Int32) (v3 : Int32) (v4 : Int32) (v5 : Int32) (v6 : Int32) (v7 : Int32) (v8 : Int32) (v9 : Int32) (v10 : Int32) (t11n : Nat) (t11f : Nat → Int32) (_ : Nat) (_ : Nat → Int32) (v13 : Int32) (a11 w11 : Nat) (f11 : Nat → Int32) (hx11 : ∀ j, j < t11n → f11 j = t11f j) (hc11 : ascB t11n f11) (kk nn : Nat), rec59 v v2 v3 v4 v5 v6 v7 v8 v9 v10 t11n t11f (kLen 0) (kByt 0) v13 = some out → kk + (B59a) ≤ room_1.cells → nn + (B59b) ≤ room_1.slots → gG p l e room_1 s m args below meth c D A 23 Q kk nn 59 [(0, .ref g.2.2.1), (1, .ref L0), (2, .int v2), (3, .int v3), (4, .int v4), (5, .int v5), (6, .int v6), (7, .int v7), (8, .int v8), (9, .int v9), (10, .int v10), (11, .ref a11), (12, .ref (g.1 0)), (13, .int v13)] [] (List.append [(a11, .inr (0, [.ref w11, .int 0, .int 0, .int 0])), (w11, .inl (cB, t11n, .inl f11))] (labX cB cC cI cO L0 ua v))) (hrec244 : ∀ (v : LV) (v2 : Int32) (v3 : Int32) (v4 : Int32) (v5 : Int32) (v6 : Int32) (v7 : Int32) (v8 : Int32) (v9 : Int32) (v10 : Int32) (t11n : Nat) (t11f : Nat → Int32) (_ : Nat) (_ : Nat → Int32) (v13 : Int32) (v14 : Int32) (v15 : Int32) (v16 : Int32) (v18 : Int32) (a11 w11 : Nat) (f11 : Nat → Int32) (hx11 : ∀ j, j < t11n → f11 j = t11f j) (hc11 : ascB t11n f11) (kk nn : Nat), rec244 v v2 v3 v4 v5 v6 v7 v8 v9 v10 t11n t11f (kLen 0) (kByt 0) v13 v14 v15 v16 v18 = some out → kk + (B244a) ≤ room_1.cells → nn + (B244b) ≤ room_1.slots → gG p l e room_1 s m args below meth c D A 23 Q kk nn 244 [(0, .ref g.2.2.1), (1, .ref L0), (2, .int v2), (3, .int v3), (4, .int v4), (5, .int v5), (6, .int v6), (7, .int v7), (8, .int v8), (9, .int v9), (10, .int v10), (11, .ref a11), (12, .ref (g.1 0)), (13, .int v13), (14, .int v14), (15, .int v15), (16, .int v16), (18, .int v18)] [] (List.append [(a11, .inr (0, [.ref w11, .int 0, .int 0, .int 0])), (w11, .inl (cB, t11n, .inl f11))] (labX cB cC cI cO L0 ua v))) : ∀ (v : LV) (v2 : Int32) (v3 : Int32) (v4 : Int32) (v5 : Int32) (v6 : Int32) (v7 : Int32) (v8 : Int32) (v9 : Int32) (v10 : Int32) (t11n : Nat) (t11f : Nat → Int32) (_ : Nat) (_ : Nat → Int32) (v13 : Int32) (v14 : Int32) (v15 : Int32) (v16 : Int32) (v18 : Int32) (a11 w11 : Nat) (f11 : Nat → Int32) (hx11 : ∀ j, j < t11n → f11 j = t11f j) (hc11 : ascB t11n f11) (kk nn : Nat), fL_law_274 g K0 rec15 rec59 rec244  v v2 v3 v4 v5 v6 v7 v8 v9 v10 t11n t11f (kLen 0) (kByt 0) v13 v14 v15 v16 v18 = some out → kk + (0 + B244a) ≤ room_1.cells → nn + (0 + B244b) ≤ room_1.slots → gG p l e room_1 s m args below meth c D A 23 Q kk nn 274 [(0, .ref g.2.2.1), (1, .ref L0), (2, .int v2), (3, .int v3), (4, .int v4), (5, .int v5), (6, .int v6), (7, .int v7), (8, .int v8), (9, .int v9), (10, .int v10), (11, .ref a11), (12, .ref (g.1 0)), (13, .int v13), (14, .int v14), (15, .int v15), (16, .int v16), (18, .int v18)] [] (List.append [(a11, .inr (0, [.ref w11, .int 0, .int 0, .int 0])), (w11, .inl (cB, t11n, .inl f11))] (labX cB cC cI cO L0 ua v)) := by
  intro v v2 v3 v4 v5 v6 v7 v8 v9 v10 t11n t11f _ _ v13 v14 v15 v16 v18 a11 w11 f11 hx11 hc11 kk nn hf hb1 hb2
  unfold fL_law_274 at hf
  refine g_iload C0 dL_law_274 17 rfl ?_
  refine g_iload_n C0 dL_law_276 rfl 3 rfl ?_
  refine g_iadd C0 dL_law_277 ?_
  refine g_iconst C0 (v := (1 : Int32)) dL_law_278 (by decide) ?_
  refine g_isub C0 dL_law_279 ?_
  refine g_iload_n C0 dL_law_280 rfl 3 rfl ?_
  obtain ⟨z612, hf⟩ := hl_ifN hf
  refine g_irem C0 dL_law_281 z612 ?_
  refine g_istore C0 (lv' := [(18, .int (hl_rem ((v18 + v3) - (1 : Int32)) v3)), (0, .ref g.2.2.1), (1, .ref L0), (2, .int v2), (3, .int v3), (4, .int v4), (5, .int v5), (6, .int v6), (7, .int v7), (8, .int v8), (9, .int v9), (10, .int v10), (11, .ref a11), (12, .ref (g.1 0)), (13, .int v13), (14, .int v14), (15, .int v15), (16, .int v16)]) dL_law_282 (by decide) rfl ?_
  refine g_goto C0 (tgt := 244) dL_law_284 (by decide) ?_
  refine g_lv [1, 2, 3, 4, 5, 6, 7, 8, 9, 10, 11, 12, 13, 14, 15, 16, 17, 0] (lv' := [(0, .ref g.2.2.1), (1, .ref L0), (2, .int v2), (3, .int v3), (4, .int v4), (5, .int v5), (6, .int v6), (7, .int v7), (8, .int v8), (9, .int v9), (10, .int v10), (11, .ref a11), (12, .ref (g.1 0)), (13, .int v13), (14, .int v14), (15, .int v15), (16, .int v16), (18, .int (hl_rem ((v18 + v3) - (1 : Int32)) v3))]) rfl ?_
  exact hrec244 v v2 v3 v4 v5 v6 v7 v8 v9 v10 t11n t11f (kLen 0) (kByt 0) v13 v14 v15 v16 (hl_rem ((v18 + v3) - (1 : Int32)) v3) a11 w11 f11 hx11 hc11 _ _ hf (by omega) (by omega)
set_option maxHeartbeats 8000000 in
set_option maxRecDepth 100000 in
theorem bL_law_305_WK {p : Program} {l : Launch} {e : Env} {s : State} {m : MethodId} {args : Array Value} {below : List Frame} {meth : Method} {c : Code} {D : va_G} {cB cC cI cO : ClassId} {A : Nat → Prop} {g : LG} (C0 : gC RL cL_law 23 (some .boolean) p s m args meth c D (hTy cB cC cI cO) A) (E0 : hLw g A s) (hl0 : l.stackTraces = false) (K0 : Nat → Int32) (hK0 : fJ7_fill_53178 64 (fun _ => 0) (-1 : Int32) = some K0) {Q : State → Prop} (KE : ∀ (lv : List (Nat × Value)) (ws : va_W) (kk nn : Nat), kk ≤ room_1.cells → nn ≤ room_1.slots → gG p l e room_1 s m args below meth c D A 23 Q kk nn 1230 lv [.int 1] ws) (L0 : Nat) (ua : LA) (out : Unit) {B15a B15b : Nat} {B59a B59b : Nat} {B287a B287b : Nat} (rec15 : LV → Int32 → Option (Unit)) (rec59 : LV → Int32 → Int32 → Int32 → Int32 → Int32 → Int32 → Int32 → Int32 → Int32 → Nat → (Nat → Int32) → Nat → (Nat → Int32) → Int32 → Option (Unit)) (rec287 : LV → Int32 → Int32 → Int32 → Int32 → Int32 → Int32 → Int32 → Int32 → Int32 → Nat → (Nat → Int32) → Nat → (Nat → Int32) → Int32 → Int32 → Int32 → Int32 → Int32 → Option (Unit)) (hrec15 : ∀ (v : LV) (v2 : Int32)  (kk nn : Nat), rec15 v v2 = some out → kk + (B15a) ≤ room_1.cells → nn + (B15b) ≤ room_1.slots → gG p l e room_1 s m args below meth c D A 23 Q kk nn 15 [(0, .ref g.2.2.1), (1, .ref L0), (2, .int v2)] [] (List.append [] (labX cB cC cI cO L0 ua v))) (hrec59 : ∀ (v : LV) (v2 : Int32) (v3 : Int32) (v4 : Int32) (v5 : Int32) (v6 : Int32) (v7 : Int32) (v8 : Int32) (v9 : Int32) (v10 : Int32) (t11n : Nat) (t11f : Nat → Int32) (_ : Nat) (_ : Nat → Int32) (v13 : Int32) (a11 w11 : Nat) (f11 : Nat → Int32) (hx11 : ∀ j, j < t11n → f11 j = t11f j) (hc11 : ascB t11n f11) (kk nn : Nat), rec59 v v2 v3 v4 v5 v6 v7 v8 v9 v10 t11n t11f (kLen 0) (kByt 0) v13 = some out → kk + (B59a) ≤ room_1.cells → nn + (B59b) ≤ room_1.slots → gG p l e room_1 s m args below meth c D A 23 Q kk nn 59 [(0, .ref g.2.2.1), (1, .ref L0), (2, .int v2), (3, .int v3), (4, .int v4), (5, .int v5), (6, .int v6), (7, .int v7), (8, .int v8), (9, .int v9), (10, .int v10), (11, .ref a11), (12, .ref (g.1 0)), (13, .int v13)] [] (List.append [(a11, .inr (0, [.ref w11, .int 0, .int 0, .int 0])), (w11, .inl (cB, t11n, .inl f11))] (labX cB cC cI cO L0 ua v))) (hrec287 : ∀ (v : LV) (v2 : Int32) (v3 : Int32) (v4 : Int32) (v5 : Int32) (v6 : Int32) (v7 : Int32) (v8 : Int32) (v9 : Int32) (v10 : Int32) (t11n : Nat) (t11f : Nat → Int32) (_ : Nat) (_ : Nat → Int32) (v13 : Int32) (v14 : Int32) (v15 : Int32) (v16 : Int32) (v18 : Int32) (a11 w11 : Nat) (f11 : Nat → Int32) (hx11 : ∀ j, j < t11n → f11 j = t11f j) (hc11 : ascB t11n f11) (kk nn : Nat), rec287 v v2 v3 v4 v5 v6 v7 v8 v9 v10 t11n t11f (kLen 0) (kByt 0) v13 v14 v15 v16 v18 = some out → kk + (B287a) ≤ room_1.cells → nn + (B287b) ≤ room_1.slots → gG p l e room_1 s m args below meth c D A 23 Q kk nn 287 [(0, .ref g.2.2.1), (1, .ref L0), (2, .int v2), (3, .int v3), (4, .int v4), (5, .int v5), (6, .int v6), (7, .int v7), (8, .int v8), (9, .int v9), (10, .int v10), (11, .ref a11), (12, .ref (g.1 0)), (13, .int v13), (14, .int v14), (15, .int v15), (16, .int v16), (18, .int v18)] [] (List.append [(a11, .inr (0, [.ref w11, .int 0, .int 0, .int 0])), (w11, .inl (cB, t11n, .inl f11))] (labX cB cC cI cO L0 ua v))) : ∀ (v : LV) (v2 : Int32) (v3 : Int32) (v4 : Int32) (v5 : Int32) (v6 : Int32) (v7 : Int32) (v8 : Int32) (v9 : Int32) (v10 : Int32) (t11n : Nat) (t11f : Nat → Int32) (_ : Nat) (_ : Nat → Int32) (v13 : Int32) (v14 : Int32) (v15 : Int32) (v16 : Int32) (v18 : Int32) (a11 w11 : Nat) (f11 : Nat → Int32) (hx11 : ∀ j, j < t11n → f11 j = t11f j) (hc11 : ascB t11n f11) (kk nn : Nat), fL_law_305 g K0 rec15 rec59 rec287  v v2 v3 v4 v5 v6 v7 v8 v9 v10 t11n t11f (kLen 0) (kByt 0) v13 v14 v15 v16 v18 = some out → kk + (0 + B287a) ≤ room_1.cells → nn + (0 + B287b) ≤ room_1.slots → gG p l e room_1 s m args below meth c D A 23 Q kk nn 305 [(0, .ref g.2.2.1), (1, .ref L0), (2, .int v2), (3, .int v3), (4, .int v4), (5, .int v5), (6, .int v6), (7, .int v7), (8, .int v8), (9, .int v9), (10, .int v10), (11, .ref a11), (12, .ref (g.1 0)), (13, .int v13), (14, .int v14), (15, .int v15), (16, .int v16), (18, .int v18)] [] (List.append [(a11, .inr (0, [.ref w11, .int 0, .int 0, .int 0])), (w11, .inl (cB, t11n, .inl f11))] (labX cB cC cI cO L0 ua v)) := by
  intro v v2 v3 v4 v5 v6 v7 v8 v9 v10 t11n t11f _ _ v13 v14 v15 v16 v18 a11 w11 f11 hx11 hc11 kk nn hf hb1 hb2
  unfold fL_law_305 at hf
  refine g_iinc C0 (lv' := [(15, .int (v15 + (1 : Int32))), (0, .ref g.2.2.1), (1, .ref L0), (2, .int v2), (3, .int v3), (4, .int v4), (5, .int v5), (6, .int v6), (7, .int v7), (8, .int v8), (9, .int v9), (10, .int v10), (11, .ref a11), (12, .ref (g.1 0)), (13, .int v13), (14, .int v14), (16, .int v16), (18, .int v18)]) dL_law_305 15 rfl rfl (by decide) rfl ?_
  refine g_iload C0 dL_law_308 17 rfl ?_
  refine g_iconst C0 (v := (1 : Int32)) dL_law_310 (by decide) ?_
  refine g_iadd C0 dL_law_311 ?_
  refine g_iload_n C0 dL_law_312 rfl 4 rfl ?_
  obtain ⟨z619, hf⟩ := hl_ifN hf
  refine g_irem C0 dL_law_313 z619 ?_
  refine g_istore C0 (lv' := [(18, .int (hl_rem (v18 + (1 : Int32)) v3)), (15, .int (v15 + (1 : Int32))), (0, .ref g.2.2.1), (1, .ref L0), (2, .int v2), (3, .int v3), (4, .int v4), (5, .int v5), (6, .int v6), (7, .int v7), (8, .int v8), (9, .int v9), (10, .int v10), (11, .ref a11), (12, .ref (g.1 0)), (13, .int v13), (14, .int v14), (16, .int v16)]) dL_law_314 (by decide) rfl ?_
  refine g_goto C0 (tgt := 287) dL_law_316 (by decide) ?_
  refine g_lv [2, 3, 4, 5, 6, 7, 8, 9, 10, 11, 12, 13, 14, 15, 16, 1, 17, 0] (lv' := [(0, .ref g.2.2.1), (1, .ref L0), (2, .int v2), (3, .int v3), (4, .int v4), (5, .int v5), (6, .int v6), (7, .int v7), (8, .int v8), (9, .int v9), (10, .int v10), (11, .ref a11), (12, .ref (g.1 0)), (13, .int v13), (14, .int v14), (15, .int (v15 + (1 : Int32))), (16, .int v16), (18, .int (hl_rem (v18 + (1 : Int32)) v3))]) rfl ?_
  exact hrec287 v v2 v3 v4 v5 v6 v7 v8 v9 v10 t11n t11f (kLen 0) (kByt 0) v13 v14 (v15 + (1 : Int32)) v16 (hl_rem (v18 + (1 : Int32)) v3) a11 w11 f11 hx11 hc11 _ _ hf (by omega) (by omega)
set_option maxHeartbeats 8000000 in
set_option maxRecDepth 100000 in
theorem bL_law_287_WK {p : Program} {l : Launch} {e : Env} {s : State} {m : MethodId} {args : Array Value} {below : List Frame} {meth : Method} {c : Code} {D : va_G} {cB cC cI cO : ClassId} {A : Nat → Prop} {g : LG} (C0 : gC RL cL_law 23 (some .boolean) p s m args meth c D (hTy cB cC cI cO) A) (E0 : hLw g A s) (hl0 : l.stackTraces = false) (K0 : Nat → Int32) (hK0 : fJ7_fill_53178 64 (fun _ => 0) (-1 : Int32) = some K0) {Q : State → Prop} (KE : ∀ (lv : List (Nat × Value)) (ws : va_W) (kk nn : Nat), kk ≤ room_1.cells → nn ≤ room_1.slots → gG p l e room_1 s m args below meth c D A 23 Q kk nn 1230 lv [.int 1] ws) (L0 : Nat) (ua : LA) (out : Unit) {B15a B15b : Nat} {B59a B59b : Nat} (rec15 : LV → Int32 → Option (Unit)) (rec59 : LV → Int32 → Int32 → Int32 → Int32 → Int32 → Int32 → Int32 → Int32 → Int32 → Nat → (Nat → Int32) → Nat → (Nat → Int32) → Int32 → Option (Unit)) (hrec15 : ∀ (v : LV) (v2 : Int32)  (kk nn : Nat), rec15 v v2 = some out → kk + (B15a) ≤ room_1.cells → nn + (B15b) ≤ room_1.slots → gG p l e room_1 s m args below meth c D A 23 Q kk nn 15 [(0, .ref g.2.2.1), (1, .ref L0), (2, .int v2)] [] (List.append [] (labX cB cC cI cO L0 ua v))) (hrec59 : ∀ (v : LV) (v2 : Int32) (v3 : Int32) (v4 : Int32) (v5 : Int32) (v6 : Int32) (v7 : Int32) (v8 : Int32) (v9 : Int32) (v10 : Int32) (t11n : Nat) (t11f : Nat → Int32) (_ : Nat) (_ : Nat → Int32) (v13 : Int32) (a11 w11 : Nat) (f11 : Nat → Int32) (hx11 : ∀ j, j < t11n → f11 j = t11f j) (hc11 : ascB t11n f11) (kk nn : Nat), rec59 v v2 v3 v4 v5 v6 v7 v8 v9 v10 t11n t11f (kLen 0) (kByt 0) v13 = some out → kk + (B59a) ≤ room_1.cells → nn + (B59b) ≤ room_1.slots → gG p l e room_1 s m args below meth c D A 23 Q kk nn 59 [(0, .ref g.2.2.1), (1, .ref L0), (2, .int v2), (3, .int v3), (4, .int v4), (5, .int v5), (6, .int v6), (7, .int v7), (8, .int v8), (9, .int v9), (10, .int v10), (11, .ref a11), (12, .ref (g.1 0)), (13, .int v13)] [] (List.append [(a11, .inr (0, [.ref w11, .int 0, .int 0, .int 0])), (w11, .inl (cB, t11n, .inl f11))] (labX cB cC cI cO L0 ua v))) : ∀ (n : Nat) (v : LV) (v2 : Int32) (v3 : Int32) (v4 : Int32) (v5 : Int32) (v6 : Int32) (v7 : Int32) (v8 : Int32) (v9 : Int32) (v10 : Int32) (t11n : Nat) (t11f : Nat → Int32) (_ : Nat) (_ : Nat → Int32) (v13 : Int32) (v14 : Int32) (v15 : Int32) (v16 : Int32) (v18 : Int32) (a11 w11 : Nat) (f11 : Nat → Int32) (hx11 : ∀ j, j < t11n → f11 j = t11f j) (hc11 : ascB t11n f11) (kk nn : Nat), fL_law_287 g K0 rec15 rec59 n v v2 v3 v4 v5 v6 v7 v8 v9 v10 t11n t11f (kLen 0) (kByt 0) v13 v14 v15 v16 v18 = some out → kk + (n * 2 + (219 + B59a)) ≤ room_1.cells → nn + (n * 12 + (8290 + B59b)) ≤ room_1.slots → gG p l e room_1 s m args below meth c D A 23 Q kk nn 287 [(0, .ref g.2.2.1), (1, .ref L0), (2, .int v2), (3, .int v3), (4, .int v4), (5, .int v5), (6, .int v6), (7, .int v7), (8, .int v8), (9, .int v9), (10, .int v10), (11, .ref a11), (12, .ref (g.1 0)), (13, .int v13), (14, .int v14), (15, .int v15), (16, .int v16), (18, .int v18)] [] (List.append [(a11, .inr (0, [.ref w11, .int 0, .int 0, .int 0])), (w11, .inl (cB, t11n, .inl f11))] (labX cB cC cI cO L0 ua v)) := by
  intro n
  induction n with
  | zero => intro v v2 v3 v4 v5 v6 v7 v8 v9 v10 t11n t11f _ _ v13 v14 v15 v16 v18 a11 w11 f11 hx11 hc11 kk nn hf hb1 hb2; rw [fL_law_287] at hf; cases hf
  | succ n ih =>
    intro v v2 v3 v4 v5 v6 v7 v8 v9 v10 t11n t11f _ _ v13 v14 v15 v16 v18 a11 w11 f11 hx11 hc11 kk nn hf hb1 hb2
    rw [fL_law_287] at hf
    refine g_aload_n C0 dL_law_287 rfl 1 rfl ?_
    refine g_iload C0 dL_law_288 17 rfl ?_
    obtain ⟨r613, er613, hf⟩ := hl_bd hf
    obtain ⟨z614, ez614, hf⟩ := hl_inl hf
    have kr613 := mg_isFull l hl0 D cB cC cI cO L0 ua v v18 r613 er613
    rw [ez614] at kr613
    refine g_sufNi C0 E0.1.1 (P := [(a11, .inr (0, [.ref w11, .int 0, .int 0, .int 0])), (w11, .inl (cB, t11n, .inl f11))]) (X := labX cB cC cI cO L0 ua v) (X1 := labX cB cC cI cO L0 ua v) (As := [.int v18]) (st := []) kr613 hmX6_isFull q_438 ⟨Nat.le_of_ble_eq_true rfl, Nat.le_of_ble_eq_true rfl⟩ ⟨by omega, by omega⟩ rfl rfl rfl rfl rfl 0 rfl rfl rfl (Nat.le_of_ble_eq_true rfl) dL_law_290 ?_
    refine g_if_ne C0 (tgt := 305) dL_law_293 (by decide) (fun c615 => ?_) (fun c615 => ?_)
    · rw [if_neg c615] at hf
      refine g_lv [0, 1, 2, 3, 4, 5, 6, 7, 8, 9, 10, 11, 12, 13, 14, 15, 16, 17] (lv' := [(0, .ref g.2.2.1), (1, .ref L0), (2, .int v2), (3, .int v3), (4, .int v4), (5, .int v5), (6, .int v6), (7, .int v7), (8, .int v8), (9, .int v9), (10, .int v10), (11, .ref a11), (12, .ref (g.1 0)), (13, .int v13), (14, .int v14), (15, .int v15), (16, .int v16), (18, .int v18)]) rfl ?_
      exact bL_law_305_WK C0 E0 hl0 K0 hK0 KE L0 ua out rec15 rec59 (fL_law_287 g K0 rec15 rec59 n) hrec15 hrec59 ih   v v2 v3 v4 v5 v6 v7 v8 v9 v10 t11n t11f (kLen 0) (kByt 0) v13 v14 v15 v16 v18 a11 w11 f11 hx11 hc11 _ _ hf (by omega) (by omega)
    · rw [if_pos c615] at hf
      refine g_aload_n C0 dL_law_296 rfl 1 rfl ?_
      refine g_iload C0 dL_law_297 17 rfl ?_
      obtain ⟨r616, er616, hf⟩ := hl_bd hf
      obtain ⟨z617, ez617, hf⟩ := hl_inl hf
      have kr616 := mg_isTombstone l hl0 D cB cC cI cO L0 ua v v18 r616 er616
      rw [ez617] at kr616
      refine g_sufNi C0 E0.1.1 (P := [(a11, .inr (0, [.ref w11, .int 0, .int 0, .int 0])), (w11, .inl (cB, t11n, .inl f11))]) (X := labX cB cC cI cO L0 ua v) (X1 := labX cB cC cI cO L0 ua v) (As := [.int v18]) (st := []) kr616 hmX6_isTombstone q_444 ⟨Nat.le_of_ble_eq_true rfl, Nat.le_of_ble_eq_true rfl⟩ ⟨by omega, by omega⟩ rfl rfl rfl rfl rfl 0 rfl rfl rfl (Nat.le_of_ble_eq_true rfl) dL_law_299 ?_
      refine g_if_eq C0 (tgt := 319) dL_law_302 (by decide) (fun c618 => ?_) (fun c618 => ?_)
      · rw [if_pos c618] at hf
        refine g_lv [0, 1, 2, 3, 4, 5, 6, 7, 8, 9, 10, 11, 12, 13, 14, 15, 16] (lv' := [(0, .ref g.2.2.1), (1, .ref L0), (2, .int v2), (3, .int v3), (4, .int v4), (5, .int v5), (6, .int v6), (7, .int v7), (8, .int v8), (9, .int v9), (10, .int v10), (11, .ref a11), (12, .ref (g.1 0)), (13, .int v13), (14, .int v14), (15, .int v15), (16, .int v16)]) rfl ?_
        exact bL_law_319_WK C0 E0 hl0 K0 hK0 KE L0 ua out rec15 rec59 hrec15 hrec59   v v2 v3 v4 v5 v6 v7 v8 v9 v10 t11n t11f (kLen 0) (kByt 0) v13 v14 v15 v16 a11 w11 f11 hx11 hc11 _ _ hf (by omega) (by omega)
      · rw [if_neg c618] at hf
        refine g_lv [0, 1, 2, 3, 4, 5, 6, 7, 8, 9, 10, 11, 12, 13, 14, 15, 16, 17] (lv' := [(0, .ref g.2.2.1), (1, .ref L0), (2, .int v2), (3, .int v3), (4, .int v4), (5, .int v5), (6, .int v6), (7, .int v7), (8, .int v8), (9, .int v9), (10, .int v10), (11, .ref a11), (12, .ref (g.1 0)), (13, .int v13), (14, .int v14), (15, .int v15), (16, .int v16), (18, .int v18)]) rfl ?_
        exact bL_law_305_WK C0 E0 hl0 K0 hK0 KE L0 ua out rec15 rec59 (fL_law_287 g K0 rec15 rec59 n) hrec15 hrec59 ih   v v2 v3 v4 v5 v6 v7 v8 v9 v10 t11n t11f (kLen 0) (kByt 0) v13 v14 v15 v16 v18 a11 w11 f11 hx11 hc11 _ _ hf (by omega) (by omega)
set_option maxHeartbeats 8000000 in
set_option maxRecDepth 100000 in
theorem bL_law_244_WK {p : Program} {l : Launch} {e : Env} {s : State} {m : MethodId} {args : Array Value} {below : List Frame} {meth : Method} {c : Code} {D : va_G} {cB cC cI cO : ClassId} {A : Nat → Prop} {g : LG} (C0 : gC RL cL_law 23 (some .boolean) p s m args meth c D (hTy cB cC cI cO) A) (E0 : hLw g A s) (hl0 : l.stackTraces = false) (K0 : Nat → Int32) (hK0 : fJ7_fill_53178 64 (fun _ => 0) (-1 : Int32) = some K0) {Q : State → Prop} (KE : ∀ (lv : List (Nat × Value)) (ws : va_W) (kk nn : Nat), kk ≤ room_1.cells → nn ≤ room_1.slots → gG p l e room_1 s m args below meth c D A 23 Q kk nn 1230 lv [.int 1] ws) (L0 : Nat) (ua : LA) (out : Unit) {B15a B15b : Nat} {B59a B59b : Nat} (rec15 : LV → Int32 → Option (Unit)) (rec59 : LV → Int32 → Int32 → Int32 → Int32 → Int32 → Int32 → Int32 → Int32 → Int32 → Nat → (Nat → Int32) → Nat → (Nat → Int32) → Int32 → Option (Unit)) (hrec15 : ∀ (v : LV) (v2 : Int32)  (kk nn : Nat), rec15 v v2 = some out → kk + (B15a) ≤ room_1.cells → nn + (B15b) ≤ room_1.slots → gG p l e room_1 s m args below meth c D A 23 Q kk nn 15 [(0, .ref g.2.2.1), (1, .ref L0), (2, .int v2)] [] (List.append [] (labX cB cC cI cO L0 ua v))) (hrec59 : ∀ (v : LV) (v2 : Int32) (v3 : Int32) (v4 : Int32) (v5 : Int32) (v6 : Int32) (v7 : Int32) (v8 : Int32) (v9 : Int32) (v10 : Int32) (t11n : Nat) (t11f : Nat → Int32) (_ : Nat) (_ : Nat → Int32) (v13 : Int32) (a11 w11 : Nat) (f11 : Nat → Int32) (hx11 : ∀ j, j < t11n → f11 j = t11f j) (hc11 : ascB t11n f11) (kk nn : Nat), rec59 v v2 v3 v4 v5 v6 v7 v8 v9 v10 t11n t11f (kLen 0) (kByt 0) v13 = some out → kk + (B59a) ≤ room_1.cells → nn + (B59b) ≤ room_1.slots → gG p l e room_1 s m args below meth c D A 23 Q kk nn 59 [(0, .ref g.2.2.1), (1, .ref L0), (2, .int v2), (3, .int v3), (4, .int v4), (5, .int v5), (6, .int v6), (7, .int v7), (8, .int v8), (9, .int v9), (10, .int v10), (11, .ref a11), (12, .ref (g.1 0)), (13, .int v13)] [] (List.append [(a11, .inr (0, [.ref w11, .int 0, .int 0, .int 0])), (w11, .inl (cB, t11n, .inl f11))] (labX cB cC cI cO L0 ua v))) : ∀ (n : Nat) (v : LV) (v2 : Int32) (v3 : Int32) (v4 : Int32) (v5 : Int32) (v6 : Int32) (v7 : Int32) (v8 : Int32) (v9 : Int32) (v10 : Int32) (t11n : Nat) (t11f : Nat → Int32) (_ : Nat) (_ : Nat → Int32) (v13 : Int32) (v14 : Int32) (v15 : Int32) (v16 : Int32) (v18 : Int32) (a11 w11 : Nat) (f11 : Nat → Int32) (hx11 : ∀ j, j < t11n → f11 j = t11f j) (hc11 : ascB t11n f11) (kk nn : Nat), fL_law_244 g K0 rec15 rec59 n v v2 v3 v4 v5 v6 v7 v8 v9 v10 t11n t11f (kLen 0) (kByt 0) v13 v14 v15 v16 v18 = some out → kk + (n * 2 + (353 + B59a)) ≤ room_1.cells → nn + (n * 12 + (9094 + B59b)) ≤ room_1.slots → gG p l e room_1 s m args below meth c D A 23 Q kk nn 244 [(0, .ref g.2.2.1), (1, .ref L0), (2, .int v2), (3, .int v3), (4, .int v4), (5, .int v5), (6, .int v6), (7, .int v7), (8, .int v8), (9, .int v9), (10, .int v10), (11, .ref a11), (12, .ref (g.1 0)), (13, .int v13), (14, .int v14), (15, .int v15), (16, .int v16), (18, .int v18)] [] (List.append [(a11, .inr (0, [.ref w11, .int 0, .int 0, .int 0])), (w11, .inl (cB, t11n, .inl f11))] (labX cB cC cI cO L0 ua v)) := by
  intro n
  induction n with
  | zero => intro v v2 v3 v4 v5 v6 v7 v8 v9 v10 t11n t11f _ _ v13 v14 v15 v16 v18 a11 w11 f11 hx11 hc11 kk nn hf hb1 hb2; rw [fL_law_244] at hf; cases hf
  | succ n ih =>
    intro v v2 v3 v4 v5 v6 v7 v8 v9 v10 t11n t11f _ _ v13 v14 v15 v16 v18 a11 w11 f11 hx11 hc11 kk nn hf hb1 hb2
    rw [fL_law_244] at hf
    refine g_aload_n C0 dL_law_244 rfl 1 rfl ?_
    refine g_iload C0 dL_law_245 17 rfl ?_
    refine g_iload_n C0 dL_law_247 rfl 3 rfl ?_
    refine g_iadd C0 dL_law_248 ?_
    refine g_iconst C0 (v := (1 : Int32)) dL_law_249 (by decide) ?_
    refine g_isub C0 dL_law_250 ?_
    refine g_iload_n C0 dL_law_251 rfl 3 rfl ?_
    obtain ⟨z604, hf⟩ := hl_ifN hf
    refine g_irem C0 dL_law_252 z604 ?_
    obtain ⟨r605, er605, hf⟩ := hl_bd hf
    obtain ⟨z606, ez606, hf⟩ := hl_inl hf
    have kr605 := mg_isFull l hl0 D cB cC cI cO L0 ua v (hl_rem ((v18 + v3) - (1 : Int32)) v3) r605 er605
    rw [ez606] at kr605
    refine g_sufNi C0 E0.1.1 (P := [(a11, .inr (0, [.ref w11, .int 0, .int 0, .int 0])), (w11, .inl (cB, t11n, .inl f11))]) (X := labX cB cC cI cO L0 ua v) (X1 := labX cB cC cI cO L0 ua v) (As := [.int (hl_rem ((v18 + v3) - (1 : Int32)) v3)]) (st := []) kr605 hmX6_isFull q_438 ⟨Nat.le_of_ble_eq_true rfl, Nat.le_of_ble_eq_true rfl⟩ ⟨by omega, by omega⟩ rfl rfl rfl rfl rfl 0 rfl rfl rfl (Nat.le_of_ble_eq_true rfl) dL_law_253 ?_
    refine g_if_ne C0 (tgt := 274) dL_law_256 (by decide) (fun c607 => ?_) (fun c607 => ?_)
    · rw [if_neg c607] at hf
      refine g_lv [0, 1, 2, 3, 4, 5, 6, 7, 8, 9, 10, 11, 12, 13, 14, 15, 16, 17] (lv' := [(0, .ref g.2.2.1), (1, .ref L0), (2, .int v2), (3, .int v3), (4, .int v4), (5, .int v5), (6, .int v6), (7, .int v7), (8, .int v8), (9, .int v9), (10, .int v10), (11, .ref a11), (12, .ref (g.1 0)), (13, .int v13), (14, .int v14), (15, .int v15), (16, .int v16), (18, .int v18)]) rfl ?_
      exact bL_law_274_WK C0 E0 hl0 K0 hK0 KE L0 ua out rec15 rec59 (fL_law_244 g K0 rec15 rec59 n) hrec15 hrec59 ih   v v2 v3 v4 v5 v6 v7 v8 v9 v10 t11n t11f (kLen 0) (kByt 0) v13 v14 v15 v16 v18 a11 w11 f11 hx11 hc11 _ _ hf (by omega) (by omega)
    · rw [if_pos c607] at hf
      refine g_aload_n C0 dL_law_259 rfl 1 rfl ?_
      refine g_iload C0 dL_law_260 17 rfl ?_
      refine g_iload_n C0 dL_law_262 rfl 3 rfl ?_
      refine g_iadd C0 dL_law_263 ?_
      refine g_iconst C0 (v := (1 : Int32)) dL_law_264 (by decide) ?_
      refine g_isub C0 dL_law_265 ?_
      refine g_iload_n C0 dL_law_266 rfl 3 rfl ?_
      obtain ⟨z608, hf⟩ := hl_ifN hf
      refine g_irem C0 dL_law_267 z608 ?_
      obtain ⟨r609, er609, hf⟩ := hl_bd hf
      obtain ⟨z610, ez610, hf⟩ := hl_inl hf
      have kr609 := mg_isTombstone l hl0 D cB cC cI cO L0 ua v (hl_rem ((v18 + v3) - (1 : Int32)) v3) r609 er609
      rw [ez610] at kr609
      refine g_sufNi C0 E0.1.1 (P := [(a11, .inr (0, [.ref w11, .int 0, .int 0, .int 0])), (w11, .inl (cB, t11n, .inl f11))]) (X := labX cB cC cI cO L0 ua v) (X1 := labX cB cC cI cO L0 ua v) (As := [.int (hl_rem ((v18 + v3) - (1 : Int32)) v3)]) (st := []) kr609 hmX6_isTombstone q_444 ⟨Nat.le_of_ble_eq_true rfl, Nat.le_of_ble_eq_true rfl⟩ ⟨by omega, by omega⟩ rfl rfl rfl rfl rfl 0 rfl rfl rfl (Nat.le_of_ble_eq_true rfl) dL_law_268 ?_
      refine g_if_eq C0 (tgt := 287) dL_law_271 (by decide) (fun c611 => ?_) (fun c611 => ?_)
      · rw [if_pos c611] at hf
        refine g_lv [0, 1, 2, 3, 4, 5, 6, 7, 8, 9, 10, 11, 12, 13, 14, 15, 16, 17] (lv' := [(0, .ref g.2.2.1), (1, .ref L0), (2, .int v2), (3, .int v3), (4, .int v4), (5, .int v5), (6, .int v6), (7, .int v7), (8, .int v8), (9, .int v9), (10, .int v10), (11, .ref a11), (12, .ref (g.1 0)), (13, .int v13), (14, .int v14), (15, .int v15), (16, .int v16), (18, .int v18)]) rfl ?_
        exact bL_law_287_WK C0 E0 hl0 K0 hK0 KE L0 ua out rec15 rec59 hrec15 hrec59  66  v v2 v3 v4 v5 v6 v7 v8 v9 v10 t11n t11f (kLen 0) (kByt 0) v13 v14 v15 v16 v18 a11 w11 f11 hx11 hc11 _ _ hf (by omega) (by omega)
      · rw [if_neg c611] at hf
        refine g_lv [0, 1, 2, 3, 4, 5, 6, 7, 8, 9, 10, 11, 12, 13, 14, 15, 16, 17] (lv' := [(0, .ref g.2.2.1), (1, .ref L0), (2, .int v2), (3, .int v3), (4, .int v4), (5, .int v5), (6, .int v6), (7, .int v7), (8, .int v8), (9, .int v9), (10, .int v10), (11, .ref a11), (12, .ref (g.1 0)), (13, .int v13), (14, .int v14), (15, .int v15), (16, .int v16), (18, .int v18)]) rfl ?_
        exact bL_law_274_WK C0 E0 hl0 K0 hK0 KE L0 ua out rec15 rec59 (fL_law_244 g K0 rec15 rec59 n) hrec15 hrec59 ih   v v2 v3 v4 v5 v6 v7 v8 v9 v10 t11n t11f (kLen 0) (kByt 0) v13 v14 v15 v16 v18 a11 w11 f11 hx11 hc11 _ _ hf (by omega) (by omega)
set_option maxHeartbeats 8000000 in
set_option maxRecDepth 100000 in
theorem bL_law_232_WK {p : Program} {l : Launch} {e : Env} {s : State} {m : MethodId} {args : Array Value} {below : List Frame} {meth : Method} {c : Code} {D : va_G} {cB cC cI cO : ClassId} {A : Nat → Prop} {g : LG} (C0 : gC RL cL_law 23 (some .boolean) p s m args meth c D (hTy cB cC cI cO) A) (E0 : hLw g A s) (hl0 : l.stackTraces = false) (K0 : Nat → Int32) (hK0 : fJ7_fill_53178 64 (fun _ => 0) (-1 : Int32) = some K0) {Q : State → Prop} (KE : ∀ (lv : List (Nat × Value)) (ws : va_W) (kk nn : Nat), kk ≤ room_1.cells → nn ≤ room_1.slots → gG p l e room_1 s m args below meth c D A 23 Q kk nn 1230 lv [.int 1] ws) (L0 : Nat) (ua : LA) (out : Unit) {B15a B15b : Nat} {B59a B59b : Nat} (rec15 : LV → Int32 → Option (Unit)) (rec59 : LV → Int32 → Int32 → Int32 → Int32 → Int32 → Int32 → Int32 → Int32 → Int32 → Nat → (Nat → Int32) → Nat → (Nat → Int32) → Int32 → Option (Unit)) (hrec15 : ∀ (v : LV) (v2 : Int32)  (kk nn : Nat), rec15 v v2 = some out → kk + (B15a) ≤ room_1.cells → nn + (B15b) ≤ room_1.slots → gG p l e room_1 s m args below meth c D A 23 Q kk nn 15 [(0, .ref g.2.2.1), (1, .ref L0), (2, .int v2)] [] (List.append [] (labX cB cC cI cO L0 ua v))) (hrec59 : ∀ (v : LV) (v2 : Int32) (v3 : Int32) (v4 : Int32) (v5 : Int32) (v6 : Int32) (v7 : Int32) (v8 : Int32) (v9 : Int32) (v10 : Int32) (t11n : Nat) (t11f : Nat → Int32) (_ : Nat) (_ : Nat → Int32) (v13 : Int32) (a11 w11 : Nat) (f11 : Nat → Int32) (hx11 : ∀ j, j < t11n → f11 j = t11f j) (hc11 : ascB t11n f11) (kk nn : Nat), rec59 v v2 v3 v4 v5 v6 v7 v8 v9 v10 t11n t11f (kLen 0) (kByt 0) v13 = some out → kk + (B59a) ≤ room_1.cells → nn + (B59b) ≤ room_1.slots → gG p l e room_1 s m args below meth c D A 23 Q kk nn 59 [(0, .ref g.2.2.1), (1, .ref L0), (2, .int v2), (3, .int v3), (4, .int v4), (5, .int v5), (6, .int v6), (7, .int v7), (8, .int v8), (9, .int v9), (10, .int v10), (11, .ref a11), (12, .ref (g.1 0)), (13, .int v13)] [] (List.append [(a11, .inr (0, [.ref w11, .int 0, .int 0, .int 0])), (w11, .inl (cB, t11n, .inl f11))] (labX cB cC cI cO L0 ua v))) : ∀ (v : LV) (v2 : Int32) (v3 : Int32) (v4 : Int32) (v5 : Int32) (v7 : Int32) (v8 : Int32) (v9 : Int32) (v10 : Int32) (t11n : Nat) (t11f : Nat → Int32) (_ : Nat) (_ : Nat → Int32) (v13 : Int32) (v14 : Int32) (v15 : Int32) (v16 : Int32) (k0 : Int32) (k1 : Int32) (a11 w11 : Nat) (f11 : Nat → Int32) (hx11 : ∀ j, j < t11n → f11 j = t11f j) (hc11 : ascB t11n f11) (kk nn : Nat), fL_law_232 g K0 rec15 rec59  v v2 v3 v4 v5 v7 v8 v9 v10 t11n t11f (kLen 0) (kByt 0) v13 v14 v15 v16 k0 k1 = some out → kk + (485 + B59a) ≤ room_1.cells → nn + (9886 + B59b) ≤ room_1.slots → gG p l e room_1 s m args below meth c D A 23 Q kk nn 232 [(0, .ref g.2.2.1), (1, .ref L0), (2, .int v2), (3, .int v3), (4, .int v4), (5, .int v5), (7, .int v7), (8, .int v8), (9, .int v9), (10, .int v10), (11, .ref a11), (12, .ref (g.1 0)), (13, .int v13), (14, .int v14), (15, .int v15), (16, .int v16)] [.int k0, .int k1] (List.append [(a11, .inr (0, [.ref w11, .int 0, .int 0, .int 0])), (w11, .inl (cB, t11n, .inl f11))] (labX cB cC cI cO L0 ua v)) := by
  intro v v2 v3 v4 v5 v7 v8 v9 v10 t11n t11f _ _ v13 v14 v15 v16 k0 k1 a11 w11 f11 hx11 hc11 kk nn hf hb1 hb2
  unfold fL_law_232 at hf
  refine g_iadd C0 dL_law_232 ?_
  refine g_istore C0 (lv' := [(6, .int (k1 + k0)), (0, .ref g.2.2.1), (1, .ref L0), (2, .int v2), (3, .int v3), (4, .int v4), (5, .int v5), (7, .int v7), (8, .int v8), (9, .int v9), (10, .int v10), (11, .ref a11), (12, .ref (g.1 0)), (13, .int v13), (14, .int v14), (15, .int v15), (16, .int v16)]) dL_law_233 (by decide) rfl ?_
  refine g_iload C0 dL_law_235 16 rfl ?_
  refine g_if_eq C0 (tgt := 319) dL_law_237 (by decide) (fun c569 => ?_) (fun c569 => ?_)
  · rw [if_pos c569] at hf
    refine g_lv [1, 2, 3, 4, 5, 6, 0, 7, 8, 9, 10, 11, 12, 13, 14, 15, 16] (lv' := [(0, .ref g.2.2.1), (1, .ref L0), (2, .int v2), (3, .int v3), (4, .int v4), (5, .int v5), (6, .int (k1 + k0)), (7, .int v7), (8, .int v8), (9, .int v9), (10, .int v10), (11, .ref a11), (12, .ref (g.1 0)), (13, .int v13), (14, .int v14), (15, .int v15), (16, .int v16)]) rfl ?_
    exact bL_law_319_WK C0 E0 hl0 K0 hK0 KE L0 ua out rec15 rec59 hrec15 hrec59   v v2 v3 v4 v5 (k1 + k0) v7 v8 v9 v10 t11n t11f (kLen 0) (kByt 0) v13 v14 v15 v16 a11 w11 f11 hx11 hc11 _ _ hf (by omega) (by omega)
  · rw [if_neg c569] at hf
    refine g_iload C0 dL_law_240 13 rfl ?_
    refine g_istore C0 (lv' := [(18, .int v13), (6, .int (k1 + k0)), (0, .ref g.2.2.1), (1, .ref L0), (2, .int v2), (3, .int v3), (4, .int v4), (5, .int v5), (7, .int v7), (8, .int v8), (9, .int v9), (10, .int v10), (11, .ref a11), (12, .ref (g.1 0)), (13, .int v13), (14, .int v14), (15, .int v15), (16, .int v16)]) dL_law_242 (by decide) rfl ?_
    refine g_lv [2, 3, 4, 5, 6, 7, 1, 8, 9, 10, 11, 12, 13, 14, 15, 16, 17, 0] (lv' := [(0, .ref g.2.2.1), (1, .ref L0), (2, .int v2), (3, .int v3), (4, .int v4), (5, .int v5), (6, .int (k1 + k0)), (7, .int v7), (8, .int v8), (9, .int v9), (10, .int v10), (11, .ref a11), (12, .ref (g.1 0)), (13, .int v13), (14, .int v14), (15, .int v15), (16, .int v16), (18, .int v13)]) rfl ?_
    exact bL_law_244_WK C0 E0 hl0 K0 hK0 KE L0 ua out rec15 rec59 hrec15 hrec59  66  v v2 v3 v4 v5 (k1 + k0) v7 v8 v9 v10 t11n t11f (kLen 0) (kByt 0) v13 v14 v15 v16 v13 a11 w11 f11 hx11 hc11 _ _ hf (by omega) (by omega)
set_option maxHeartbeats 8000000 in
set_option maxRecDepth 100000 in
theorem bL_law_212_WK {p : Program} {l : Launch} {e : Env} {s : State} {m : MethodId} {args : Array Value} {below : List Frame} {meth : Method} {c : Code} {D : va_G} {cB cC cI cO : ClassId} {A : Nat → Prop} {g : LG} (C0 : gC RL cL_law 23 (some .boolean) p s m args meth c D (hTy cB cC cI cO) A) (E0 : hLw g A s) (hl0 : l.stackTraces = false) (K0 : Nat → Int32) (hK0 : fJ7_fill_53178 64 (fun _ => 0) (-1 : Int32) = some K0) {Q : State → Prop} (KE : ∀ (lv : List (Nat × Value)) (ws : va_W) (kk nn : Nat), kk ≤ room_1.cells → nn ≤ room_1.slots → gG p l e room_1 s m args below meth c D A 23 Q kk nn 1230 lv [.int 1] ws) (L0 : Nat) (ua : LA) (out : Unit) {B15a B15b : Nat} {B59a B59b : Nat} (rec15 : LV → Int32 → Option (Unit)) (rec59 : LV → Int32 → Int32 → Int32 → Int32 → Int32 → Int32 → Int32 → Int32 → Int32 → Nat → (Nat → Int32) → Nat → (Nat → Int32) → Int32 → Option (Unit)) (hrec15 : ∀ (v : LV) (v2 : Int32)  (kk nn : Nat), rec15 v v2 = some out → kk + (B15a) ≤ room_1.cells → nn + (B15b) ≤ room_1.slots → gG p l e room_1 s m args below meth c D A 23 Q kk nn 15 [(0, .ref g.2.2.1), (1, .ref L0), (2, .int v2)] [] (List.append [] (labX cB cC cI cO L0 ua v))) (hrec59 : ∀ (v : LV) (v2 : Int32) (v3 : Int32) (v4 : Int32) (v5 : Int32) (v6 : Int32) (v7 : Int32) (v8 : Int32) (v9 : Int32) (v10 : Int32) (t11n : Nat) (t11f : Nat → Int32) (_ : Nat) (_ : Nat → Int32) (v13 : Int32) (a11 w11 : Nat) (f11 : Nat → Int32) (hx11 : ∀ j, j < t11n → f11 j = t11f j) (hc11 : ascB t11n f11) (kk nn : Nat), rec59 v v2 v3 v4 v5 v6 v7 v8 v9 v10 t11n t11f (kLen 0) (kByt 0) v13 = some out → kk + (B59a) ≤ room_1.cells → nn + (B59b) ≤ room_1.slots → gG p l e room_1 s m args below meth c D A 23 Q kk nn 59 [(0, .ref g.2.2.1), (1, .ref L0), (2, .int v2), (3, .int v3), (4, .int v4), (5, .int v5), (6, .int v6), (7, .int v7), (8, .int v8), (9, .int v9), (10, .int v10), (11, .ref a11), (12, .ref (g.1 0)), (13, .int v13)] [] (List.append [(a11, .inr (0, [.ref w11, .int 0, .int 0, .int 0])), (w11, .inl (cB, t11n, .inl f11))] (labX cB cC cI cO L0 ua v))) : ∀ (v : LV) (v2 : Int32) (v3 : Int32) (v4 : Int32) (v6 : Int32) (v7 : Int32) (v8 : Int32) (v9 : Int32) (v10 : Int32) (t11n : Nat) (t11f : Nat → Int32) (_ : Nat) (_ : Nat → Int32) (v13 : Int32) (v14 : Int32) (v15 : Int32) (v16 : Int32) (v17 : Int32) (k0 : Int32) (k1 : Int32) (a11 w11 : Nat) (f11 : Nat → Int32) (hx11 : ∀ j, j < t11n → f11 j = t11f j) (hc11 : ascB t11n f11) (kk nn : Nat), fL_law_212 g K0 rec15 rec59  v v2 v3 v4 v6 v7 v8 v9 v10 t11n t11f (kLen 0) (kByt 0) v13 v14 v15 v16 v17 k0 k1 = some out → kk + (485 + B59a) ≤ room_1.cells → nn + (9886 + B59b) ≤ room_1.slots → gG p l e room_1 s m args below meth c D A 23 Q kk nn 212 [(0, .ref g.2.2.1), (1, .ref L0), (2, .int v2), (3, .int v3), (4, .int v4), (6, .int v6), (7, .int v7), (8, .int v8), (9, .int v9), (10, .int v10), (11, .ref a11), (12, .ref (g.1 0)), (13, .int v13), (14, .int v14), (15, .int v15), (16, .int v16), (17, .int v17)] [.int k0, .int k1] (List.append [(a11, .inr (0, [.ref w11, .int 0, .int 0, .int 0])), (w11, .inl (cB, t11n, .inl f11))] (labX cB cC cI cO L0 ua v)) := by
  intro v v2 v3 v4 v6 v7 v8 v9 v10 t11n t11f _ _ v13 v14 v15 v16 v17 k0 k1 a11 w11 f11 hx11 hc11 kk nn hf hb1 hb2
  unfold fL_law_212 at hf
  refine g_iadd C0 dL_law_212 ?_
  refine g_istore C0 (lv' := [(5, .int (k1 + k0)), (0, .ref g.2.2.1), (1, .ref L0), (2, .int v2), (3, .int v3), (4, .int v4), (6, .int v6), (7, .int v7), (8, .int v8), (9, .int v9), (10, .int v10), (11, .ref a11), (12, .ref (g.1 0)), (13, .int v13), (14, .int v14), (15, .int v15), (16, .int v16), (17, .int v17)]) dL_law_213 (by decide) rfl ?_
  refine g_iload C0 dL_law_215 6 rfl ?_
  refine g_iload C0 dL_law_217 16 rfl ?_
  refine g_if_eq C0 (tgt := 231) dL_law_219 (by decide) (fun c567 => ?_) (fun c567 => ?_)
  · rw [if_pos c567] at hf
    refine g_iconst C0 (v := (0 : Int32)) dL_law_231 (by decide) ?_
    refine g_lv [1, 2, 3, 4, 5, 0, 7, 8, 9, 10, 11, 12, 13, 14, 15, 16] (lv' := [(0, .ref g.2.2.1), (1, .ref L0), (2, .int v2), (3, .int v3), (4, .int v4), (5, .int (k1 + k0)), (7, .int v7), (8, .int v8), (9, .int v9), (10, .int v10), (11, .ref a11), (12, .ref (g.1 0)), (13, .int v13), (14, .int v14), (15, .int v15), (16, .int v16)]) rfl ?_
    exact bL_law_232_WK C0 E0 hl0 K0 hK0 KE L0 ua out rec15 rec59 hrec15 hrec59   v v2 v3 v4 (k1 + k0) v7 v8 v9 v10 t11n t11f (kLen 0) (kByt 0) v13 v14 v15 v16 (0 : Int32) v6 a11 w11 f11 hx11 hc11 _ _ hf (by omega) (by omega)
  · rw [if_neg c567] at hf
    refine g_iload C0 dL_law_222 17 rfl ?_
    refine g_if_ne C0 (tgt := 231) dL_law_224 (by decide) (fun c568 => ?_) (fun c568 => ?_)
    · rw [if_neg c568] at hf
      refine g_iconst C0 (v := (0 : Int32)) dL_law_231 (by decide) ?_
      refine g_lv [1, 2, 3, 4, 5, 0, 7, 8, 9, 10, 11, 12, 13, 14, 15, 16] (lv' := [(0, .ref g.2.2.1), (1, .ref L0), (2, .int v2), (3, .int v3), (4, .int v4), (5, .int (k1 + k0)), (7, .int v7), (8, .int v8), (9, .int v9), (10, .int v10), (11, .ref a11), (12, .ref (g.1 0)), (13, .int v13), (14, .int v14), (15, .int v15), (16, .int v16)]) rfl ?_
      exact bL_law_232_WK C0 E0 hl0 K0 hK0 KE L0 ua out rec15 rec59 hrec15 hrec59   v v2 v3 v4 (k1 + k0) v7 v8 v9 v10 t11n t11f (kLen 0) (kByt 0) v13 v14 v15 v16 (0 : Int32) v6 a11 w11 f11 hx11 hc11 _ _ hf (by omega) (by omega)
    · rw [if_pos c568] at hf
      refine g_iconst C0 (v := (1 : Int32)) dL_law_227 (by decide) ?_
      refine g_goto C0 (tgt := 232) dL_law_228 (by decide) ?_
      refine g_lv [1, 2, 3, 4, 5, 0, 7, 8, 9, 10, 11, 12, 13, 14, 15, 16] (lv' := [(0, .ref g.2.2.1), (1, .ref L0), (2, .int v2), (3, .int v3), (4, .int v4), (5, .int (k1 + k0)), (7, .int v7), (8, .int v8), (9, .int v9), (10, .int v10), (11, .ref a11), (12, .ref (g.1 0)), (13, .int v13), (14, .int v14), (15, .int v15), (16, .int v16)]) rfl ?_
      exact bL_law_232_WK C0 E0 hl0 K0 hK0 KE L0 ua out rec15 rec59 hrec15 hrec59   v v2 v3 v4 (k1 + k0) v7 v8 v9 v10 t11n t11f (kLen 0) (kByt 0) v13 v14 v15 v16 (1 : Int32) v6 a11 w11 f11 hx11 hc11 _ _ hf (by omega) (by omega)
set_option maxHeartbeats 8000000 in
set_option maxRecDepth 100000 in
theorem bL_law_193_WK {p : Program} {l : Launch} {e : Env} {s : State} {m : MethodId} {args : Array Value} {below : List Frame} {meth : Method} {c : Code} {D : va_G} {cB cC cI cO : ClassId} {A : Nat → Prop} {g : LG} (C0 : gC RL cL_law 23 (some .boolean) p s m args meth c D (hTy cB cC cI cO) A) (E0 : hLw g A s) (hl0 : l.stackTraces = false) (K0 : Nat → Int32) (hK0 : fJ7_fill_53178 64 (fun _ => 0) (-1 : Int32) = some K0) {Q : State → Prop} (KE : ∀ (lv : List (Nat × Value)) (ws : va_W) (kk nn : Nat), kk ≤ room_1.cells → nn ≤ room_1.slots → gG p l e room_1 s m args below meth c D A 23 Q kk nn 1230 lv [.int 1] ws) (L0 : Nat) (ua : LA) (out : Unit) {B15a B15b : Nat} {B59a B59b : Nat} (rec15 : LV → Int32 → Option (Unit)) (rec59 : LV → Int32 → Int32 → Int32 → Int32 → Int32 → Int32 → Int32 → Int32 → Int32 → Nat → (Nat → Int32) → Nat → (Nat → Int32) → Int32 → Option (Unit)) (hrec15 : ∀ (v : LV) (v2 : Int32)  (kk nn : Nat), rec15 v v2 = some out → kk + (B15a) ≤ room_1.cells → nn + (B15b) ≤ room_1.slots → gG p l e room_1 s m args below meth c D A 23 Q kk nn 15 [(0, .ref g.2.2.1), (1, .ref L0), (2, .int v2)] [] (List.append [] (labX cB cC cI cO L0 ua v))) (hrec59 : ∀ (v : LV) (v2 : Int32) (v3 : Int32) (v4 : Int32) (v5 : Int32) (v6 : Int32) (v7 : Int32) (v8 : Int32) (v9 : Int32) (v10 : Int32) (t11n : Nat) (t11f : Nat → Int32) (_ : Nat) (_ : Nat → Int32) (v13 : Int32) (a11 w11 : Nat) (f11 : Nat → Int32) (hx11 : ∀ j, j < t11n → f11 j = t11f j) (hc11 : ascB t11n f11) (kk nn : Nat), rec59 v v2 v3 v4 v5 v6 v7 v8 v9 v10 t11n t11f (kLen 0) (kByt 0) v13 = some out → kk + (B59a) ≤ room_1.cells → nn + (B59b) ≤ room_1.slots → gG p l e room_1 s m args below meth c D A 23 Q kk nn 59 [(0, .ref g.2.2.1), (1, .ref L0), (2, .int v2), (3, .int v3), (4, .int v4), (5, .int v5), (6, .int v6), (7, .int v7), (8, .int v8), (9, .int v9), (10, .int v10), (11, .ref a11), (12, .ref (g.1 0)), (13, .int v13)] [] (List.append [(a11, .inr (0, [.ref w11, .int 0, .int 0, .int 0])), (w11, .inl (cB, t11n, .inl f11))] (labX cB cC cI cO L0 ua v))) : ∀ (v : LV) (v2 : Int32) (v3 : Int32) (v5 : Int32) (v6 : Int32) (v7 : Int32) (v8 : Int32) (v9 : Int32) (v10 : Int32) (t11n : Nat) (t11f : Nat → Int32) (_ : Nat) (_ : Nat → Int32) (v13 : Int32) (v14 : Int32) (v15 : Int32) (v16 : Int32) (v17 : Int32) (k0 : Int32) (k1 : Int32) (a11 w11 : Nat) (f11 : Nat → Int32) (hx11 : ∀ j, j < t11n → f11 j = t11f j) (hc11 : ascB t11n f11) (kk nn : Nat), fL_law_193 g K0 rec15 rec59  v v2 v3 v5 v6 v7 v8 v9 v10 t11n t11f (kLen 0) (kByt 0) v13 v14 v15 v16 v17 k0 k1 = some out → kk + (486 + B59a) ≤ room_1.cells → nn + (9892 + B59b) ≤ room_1.slots → gG p l e room_1 s m args below meth c D A 23 Q kk nn 193 [(0, .ref g.2.2.1), (1, .ref L0), (2, .int v2), (3, .int v3), (5, .int v5), (6, .int v6), (7, .int v7), (8, .int v8), (9, .int v9), (10, .int v10), (11, .ref a11), (12, .ref (g.1 0)), (13, .int v13), (14, .int v14), (15, .int v15), (16, .int v16), (17, .int v17)] [.int k0, .int k1] (List.append [(a11, .inr (0, [.ref w11, .int 0, .int 0, .int 0])), (w11, .inl (cB, t11n, .inl f11))] (labX cB cC cI cO L0 ua v)) := by
  intro v v2 v3 v5 v6 v7 v8 v9 v10 t11n t11f _ _ v13 v14 v15 v16 v17 k0 k1 a11 w11 f11 hx11 hc11 kk nn hf hb1 hb2
  unfold fL_law_193 at hf
  refine g_iadd C0 dL_law_193 ?_
  refine g_istore C0 (lv' := [(4, .int (k1 + k0)), (0, .ref g.2.2.1), (1, .ref L0), (2, .int v2), (3, .int v3), (5, .int v5), (6, .int v6), (7, .int v7), (8, .int v8), (9, .int v9), (10, .int v10), (11, .ref a11), (12, .ref (g.1 0)), (13, .int v13), (14, .int v14), (15, .int v15), (16, .int v16), (17, .int v17)]) dL_law_194 (by decide) rfl ?_
  refine g_iload C0 dL_law_196 5 rfl ?_
  refine g_aload_n C0 dL_law_198 rfl 2 rfl ?_
  refine g_iload C0 dL_law_199 13 rfl ?_
  obtain ⟨r564, er564, hf⟩ := hl_bd hf
  obtain ⟨z565, ez565, hf⟩ := hl_inl hf
  have kr564 := mg_isTombstone l hl0 D cB cC cI cO L0 ua v v13 r564 er564
  rw [ez565] at kr564
  refine g_sufNi C0 E0.1.1 (P := [(a11, .inr (0, [.ref w11, .int 0, .int 0, .int 0])), (w11, .inl (cB, t11n, .inl f11))]) (X := labX cB cC cI cO L0 ua v) (X1 := labX cB cC cI cO L0 ua v) (As := [.int v13]) (st := [.int v5]) kr564 hmX6_isTombstone q_444 ⟨Nat.le_of_ble_eq_true rfl, Nat.le_of_ble_eq_true rfl⟩ ⟨by omega, by omega⟩ rfl rfl rfl rfl rfl 0 rfl rfl rfl (Nat.le_of_ble_eq_true rfl) dL_law_201 ?_
  refine g_if_eq C0 (tgt := 211) dL_law_204 (by decide) (fun c566 => ?_) (fun c566 => ?_)
  · rw [if_pos c566] at hf
    refine g_iconst C0 (v := (0 : Int32)) dL_law_211 (by decide) ?_
    refine g_lv [1, 2, 3, 4, 0, 6, 7, 8, 9, 10, 11, 12, 13, 14, 15, 16, 17] (lv' := [(0, .ref g.2.2.1), (1, .ref L0), (2, .int v2), (3, .int v3), (4, .int (k1 + k0)), (6, .int v6), (7, .int v7), (8, .int v8), (9, .int v9), (10, .int v10), (11, .ref a11), (12, .ref (g.1 0)), (13, .int v13), (14, .int v14), (15, .int v15), (16, .int v16), (17, .int v17)]) rfl ?_
    exact bL_law_212_WK C0 E0 hl0 K0 hK0 KE L0 ua out rec15 rec59 hrec15 hrec59   v v2 v3 (k1 + k0) v6 v7 v8 v9 v10 t11n t11f (kLen 0) (kByt 0) v13 v14 v15 v16 v17 (0 : Int32) v5 a11 w11 f11 hx11 hc11 _ _ hf (by omega) (by omega)
  · rw [if_neg c566] at hf
    refine g_iconst C0 (v := (1 : Int32)) dL_law_207 (by decide) ?_
    refine g_goto C0 (tgt := 212) dL_law_208 (by decide) ?_
    refine g_lv [1, 2, 3, 4, 0, 6, 7, 8, 9, 10, 11, 12, 13, 14, 15, 16, 17] (lv' := [(0, .ref g.2.2.1), (1, .ref L0), (2, .int v2), (3, .int v3), (4, .int (k1 + k0)), (6, .int v6), (7, .int v7), (8, .int v8), (9, .int v9), (10, .int v10), (11, .ref a11), (12, .ref (g.1 0)), (13, .int v13), (14, .int v14), (15, .int v15), (16, .int v16), (17, .int v17)]) rfl ?_
    exact bL_law_212_WK C0 E0 hl0 K0 hK0 KE L0 ua out rec15 rec59 hrec15 hrec59   v v2 v3 (k1 + k0) v6 v7 v8 v9 v10 t11n t11f (kLen 0) (kByt 0) v13 v14 v15 v16 v17 (1 : Int32) v5 a11 w11 f11 hx11 hc11 _ _ hf (by omega) (by omega)
set_option maxHeartbeats 8000000 in
set_option maxRecDepth 100000 in
theorem bL_law_172_WK {p : Program} {l : Launch} {e : Env} {s : State} {m : MethodId} {args : Array Value} {below : List Frame} {meth : Method} {c : Code} {D : va_G} {cB cC cI cO : ClassId} {A : Nat → Prop} {g : LG} (C0 : gC RL cL_law 23 (some .boolean) p s m args meth c D (hTy cB cC cI cO) A) (E0 : hLw g A s) (hl0 : l.stackTraces = false) (K0 : Nat → Int32) (hK0 : fJ7_fill_53178 64 (fun _ => 0) (-1 : Int32) = some K0) {Q : State → Prop} (KE : ∀ (lv : List (Nat × Value)) (ws : va_W) (kk nn : Nat), kk ≤ room_1.cells → nn ≤ room_1.slots → gG p l e room_1 s m args below meth c D A 23 Q kk nn 1230 lv [.int 1] ws) (L0 : Nat) (ua : LA) (out : Unit) {B15a B15b : Nat} {B59a B59b : Nat} (rec15 : LV → Int32 → Option (Unit)) (rec59 : LV → Int32 → Int32 → Int32 → Int32 → Int32 → Int32 → Int32 → Int32 → Int32 → Nat → (Nat → Int32) → Nat → (Nat → Int32) → Int32 → Option (Unit)) (hrec15 : ∀ (v : LV) (v2 : Int32)  (kk nn : Nat), rec15 v v2 = some out → kk + (B15a) ≤ room_1.cells → nn + (B15b) ≤ room_1.slots → gG p l e room_1 s m args below meth c D A 23 Q kk nn 15 [(0, .ref g.2.2.1), (1, .ref L0), (2, .int v2)] [] (List.append [] (labX cB cC cI cO L0 ua v))) (hrec59 : ∀ (v : LV) (v2 : Int32) (v3 : Int32) (v4 : Int32) (v5 : Int32) (v6 : Int32) (v7 : Int32) (v8 : Int32) (v9 : Int32) (v10 : Int32) (t11n : Nat) (t11f : Nat → Int32) (_ : Nat) (_ : Nat → Int32) (v13 : Int32) (a11 w11 : Nat) (f11 : Nat → Int32) (hx11 : ∀ j, j < t11n → f11 j = t11f j) (hc11 : ascB t11n f11) (kk nn : Nat), rec59 v v2 v3 v4 v5 v6 v7 v8 v9 v10 t11n t11f (kLen 0) (kByt 0) v13 = some out → kk + (B59a) ≤ room_1.cells → nn + (B59b) ≤ room_1.slots → gG p l e room_1 s m args below meth c D A 23 Q kk nn 59 [(0, .ref g.2.2.1), (1, .ref L0), (2, .int v2), (3, .int v3), (4, .int v4), (5, .int v5), (6, .int v6), (7, .int v7), (8, .int v8), (9, .int v9), (10, .int v10), (11, .ref a11), (12, .ref (g.1 0)), (13, .int v13)] [] (List.append [(a11, .inr (0, [.ref w11, .int 0, .int 0, .int 0])), (w11, .inl (cB, t11n, .inl f11))] (labX cB cC cI cO L0 ua v))) : ∀ (v : LV) (v2 : Int32) (v3 : Int32) (v4 : Int32) (v5 : Int32) (v6 : Int32) (v7 : Int32) (v8 : Int32) (v9 : Int32) (v10 : Int32) (t11n : Nat) (t11f : Nat → Int32) (_ : Nat) (_ : Nat → Int32) (v13 : Int32) (v14 : Int32) (v15 : Int32) (v16 : Int32) (v17 : Int32) (k0 : Int32) (k1 : Int32) (a11 w11 : Nat) (f11 : Nat → Int32) (hx11 : ∀ j, j < t11n → f11 j = t11f j) (hc11 : ascB t11n f11) (kk nn : Nat), fL_law_172 g K0 rec15 rec59  v v2 v3 v4 v5 v6 v7 v8 v9 v10 t11n t11f (kLen 0) (kByt 0) v13 v14 v15 v16 v17 k0 k1 = some out → kk + (487 + B59a) ≤ room_1.cells → nn + (9898 + B59b) ≤ room_1.slots → gG p l e room_1 s m args below meth c D A 23 Q kk nn 172 [(0, .ref g.2.2.1), (1, .ref L0), (2, .int v2), (3, .int v3), (4, .int v4), (5, .int v5), (6, .int v6), (7, .int v7), (8, .int v8), (9, .int v9), (10, .int v10), (11, .ref a11), (12, .ref (g.1 0)), (13, .int v13), (14, .int v14), (15, .int v15), (16, .int v16), (17, .int v17)] [.int k0, .int k1] (List.append [(a11, .inr (0, [.ref w11, .int 0, .int 0, .int 0])), (w11, .inl (cB, t11n, .inl f11))] (labX cB cC cI cO L0 ua v)) := by
  intro v v2 v3 v4 v5 v6 v7 v8 v9 v10 t11n t11f _ _ v13 v14 v15 v16 v17 k0 k1 a11 w11 f11 hx11 hc11 kk nn hf hb1 hb2
  unfold fL_law_172 at hf
  refine g_icmp_eq C0 (tgt := 177) dL_law_172 (by decide) (fun c535 => ?_) (fun c535 => ?_)
  · rw [if_pos c535] at hf
    refine g_iload C0 dL_law_177 4 rfl ?_
    refine g_aload_n C0 dL_law_179 rfl 1 rfl ?_
    refine g_iload C0 dL_law_180 13 rfl ?_
    obtain ⟨r536, er536, hf⟩ := hl_bd hf
    obtain ⟨z537, ez537, hf⟩ := hl_inl hf
    have kr536 := mg_isFull l hl0 D cB cC cI cO L0 ua v v13 r536 er536
    rw [ez537] at kr536
    refine g_sufNi C0 E0.1.1 (P := [(a11, .inr (0, [.ref w11, .int 0, .int 0, .int 0])), (w11, .inl (cB, t11n, .inl f11))]) (X := labX cB cC cI cO L0 ua v) (X1 := labX cB cC cI cO L0 ua v) (As := [.int v13]) (st := [.int v4]) kr536 hmX6_isFull q_438 ⟨Nat.le_of_ble_eq_true rfl, Nat.le_of_ble_eq_true rfl⟩ ⟨by omega, by omega⟩ rfl rfl rfl rfl rfl 0 rfl rfl rfl (Nat.le_of_ble_eq_true rfl) dL_law_182 ?_
    refine g_if_eq C0 (tgt := 192) dL_law_185 (by decide) (fun c538 => ?_) (fun c538 => ?_)
    · rw [if_pos c538] at hf
      refine g_iconst C0 (v := (0 : Int32)) dL_law_192 (by decide) ?_
      refine g_lv [0, 1, 2, 3, 5, 6, 7, 8, 9, 10, 11, 12, 13, 14, 15, 16, 17] (lv' := [(0, .ref g.2.2.1), (1, .ref L0), (2, .int v2), (3, .int v3), (5, .int v5), (6, .int v6), (7, .int v7), (8, .int v8), (9, .int v9), (10, .int v10), (11, .ref a11), (12, .ref (g.1 0)), (13, .int v13), (14, .int v14), (15, .int v15), (16, .int v16), (17, .int v17)]) rfl ?_
      exact bL_law_193_WK C0 E0 hl0 K0 hK0 KE L0 ua out rec15 rec59 hrec15 hrec59   v v2 v3 v5 v6 v7 v8 v9 v10 t11n t11f (kLen 0) (kByt 0) v13 v14 v15 v16 v17 (0 : Int32) v4 a11 w11 f11 hx11 hc11 _ _ hf (by omega) (by omega)
    · rw [if_neg c538] at hf
      refine g_iconst C0 (v := (1 : Int32)) dL_law_188 (by decide) ?_
      refine g_goto C0 (tgt := 193) dL_law_189 (by decide) ?_
      refine g_lv [0, 1, 2, 3, 5, 6, 7, 8, 9, 10, 11, 12, 13, 14, 15, 16, 17] (lv' := [(0, .ref g.2.2.1), (1, .ref L0), (2, .int v2), (3, .int v3), (5, .int v5), (6, .int v6), (7, .int v7), (8, .int v8), (9, .int v9), (10, .int v10), (11, .ref a11), (12, .ref (g.1 0)), (13, .int v13), (14, .int v14), (15, .int v15), (16, .int v16), (17, .int v17)]) rfl ?_
      exact bL_law_193_WK C0 E0 hl0 K0 hK0 KE L0 ua out rec15 rec59 hrec15 hrec59   v v2 v3 v5 v6 v7 v8 v9 v10 t11n t11f (kLen 0) (kByt 0) v13 v14 v15 v16 v17 (1 : Int32) v4 a11 w11 f11 hx11 hc11 _ _ hf (by omega) (by omega)
  · rw [if_neg c535] at hf
    refine g_iconst C0 (v := (0 : Int32)) dL_law_175 (by decide) ?_
    cases hf
set_option maxHeartbeats 8000000 in
set_option maxRecDepth 100000 in
theorem bL_law_156_WK {p : Program} {l : Launch} {e : Env} {s : State} {m : MethodId} {args : Array Value} {below : List Frame} {meth : Method} {c : Code} {D : va_G} {cB cC cI cO : ClassId} {A : Nat → Prop} {g : LG} (C0 : gC RL cL_law 23 (some .boolean) p s m args meth c D (hTy cB cC cI cO) A) (E0 : hLw g A s) (hl0 : l.stackTraces = false) (K0 : Nat → Int32) (hK0 : fJ7_fill_53178 64 (fun _ => 0) (-1 : Int32) = some K0) {Q : State → Prop} (KE : ∀ (lv : List (Nat × Value)) (ws : va_W) (kk nn : Nat), kk ≤ room_1.cells → nn ≤ room_1.slots → gG p l e room_1 s m args below meth c D A 23 Q kk nn 1230 lv [.int 1] ws) (L0 : Nat) (ua : LA) (out : Unit) {B15a B15b : Nat} {B59a B59b : Nat} (rec15 : LV → Int32 → Option (Unit)) (rec59 : LV → Int32 → Int32 → Int32 → Int32 → Int32 → Int32 → Int32 → Int32 → Int32 → Nat → (Nat → Int32) → Nat → (Nat → Int32) → Int32 → Option (Unit)) (hrec15 : ∀ (v : LV) (v2 : Int32)  (kk nn : Nat), rec15 v v2 = some out → kk + (B15a) ≤ room_1.cells → nn + (B15b) ≤ room_1.slots → gG p l e room_1 s m args below meth c D A 23 Q kk nn 15 [(0, .ref g.2.2.1), (1, .ref L0), (2, .int v2)] [] (List.append [] (labX cB cC cI cO L0 ua v))) (hrec59 : ∀ (v : LV) (v2 : Int32) (v3 : Int32) (v4 : Int32) (v5 : Int32) (v6 : Int32) (v7 : Int32) (v8 : Int32) (v9 : Int32) (v10 : Int32) (t11n : Nat) (t11f : Nat → Int32) (_ : Nat) (_ : Nat → Int32) (v13 : Int32) (a11 w11 : Nat) (f11 : Nat → Int32) (hx11 : ∀ j, j < t11n → f11 j = t11f j) (hc11 : ascB t11n f11) (kk nn : Nat), rec59 v v2 v3 v4 v5 v6 v7 v8 v9 v10 t11n t11f (kLen 0) (kByt 0) v13 = some out → kk + (B59a) ≤ room_1.cells → nn + (B59b) ≤ room_1.slots → gG p l e room_1 s m args below meth c D A 23 Q kk nn 59 [(0, .ref g.2.2.1), (1, .ref L0), (2, .int v2), (3, .int v3), (4, .int v4), (5, .int v5), (6, .int v6), (7, .int v7), (8, .int v8), (9, .int v9), (10, .int v10), (11, .ref a11), (12, .ref (g.1 0)), (13, .int v13)] [] (List.append [(a11, .inr (0, [.ref w11, .int 0, .int 0, .int 0])), (w11, .inl (cB, t11n, .inl f11))] (labX cB cC cI cO L0 ua v))) : ∀ (v : LV) (v2 : Int32) (v3 : Int32) (v4 : Int32) (v5 : Int32) (v6 : Int32) (v7 : Int32) (v8 : Int32) (v9 : Int32) (v10 : Int32) (t11n : Nat) (t11f : Nat → Int32) (_ : Nat) (_ : Nat → Int32) (v13 : Int32) (v14 : Int32) (v15 : Int32) (v16 : Int32) (v17 : Int32) (a11 w11 : Nat) (f11 : Nat → Int32) (hx11 : ∀ j, j < t11n → f11 j = t11f j) (hc11 : ascB t11n f11) (kk nn : Nat), fL_law_156 g K0 rec15 rec59  v v2 v3 v4 v5 v6 v7 v8 v9 v10 t11n t11f (kLen 0) (kByt 0) v13 v14 v15 v16 v17 = some out → kk + (488 + B59a) ≤ room_1.cells → nn + (9904 + B59b) ≤ room_1.slots → gG p l e room_1 s m args below meth c D A 23 Q kk nn 156 [(0, .ref g.2.2.1), (1, .ref L0), (2, .int v2), (3, .int v3), (4, .int v4), (5, .int v5), (6, .int v6), (7, .int v7), (8, .int v8), (9, .int v9), (10, .int v10), (11, .ref a11), (12, .ref (g.1 0)), (13, .int v13), (14, .int v14), (15, .int v15), (16, .int v16), (17, .int v17)] [] (List.append [(a11, .inr (0, [.ref w11, .int 0, .int 0, .int 0])), (w11, .inl (cB, t11n, .inl f11))] (labX cB cC cI cO L0 ua v)) := by
  intro v v2 v3 v4 v5 v6 v7 v8 v9 v10 t11n t11f _ _ v13 v14 v15 v16 v17 a11 w11 f11 hx11 hc11 kk nn hf hb1 hb2
  unfold fL_law_156 at hf
  refine g_aload_n C0 dL_law_156 rfl 1 rfl ?_
  refine g_iload C0 dL_law_157 13 rfl ?_
  obtain ⟨r463, er463, hf⟩ := hl_bd hf
  obtain ⟨z464, ez464, hf⟩ := hl_inl hf
  have kr463 := mg_isFull l hl0 D cB cC cI cO L0 ua v v13 r463 er463
  rw [ez464] at kr463
  refine g_sufNi C0 E0.1.1 (P := [(a11, .inr (0, [.ref w11, .int 0, .int 0, .int 0])), (w11, .inl (cB, t11n, .inl f11))]) (X := labX cB cC cI cO L0 ua v) (X1 := labX cB cC cI cO L0 ua v) (As := [.int v13]) (st := []) kr463 hmX6_isFull q_438 ⟨Nat.le_of_ble_eq_true rfl, Nat.le_of_ble_eq_true rfl⟩ ⟨by omega, by omega⟩ rfl rfl rfl rfl rfl 0 rfl rfl rfl (Nat.le_of_ble_eq_true rfl) dL_law_159 ?_
  refine g_iload C0 dL_law_162 14 rfl ?_
  refine g_if_lt C0 (tgt := 171) dL_law_164 (by decide) (fun c465 => ?_) (fun c465 => ?_)
  · rw [if_pos c465] at hf
    refine g_iconst C0 (v := (0 : Int32)) dL_law_171 (by decide) ?_
    refine g_lv [0, 1, 2, 3, 4, 5, 6, 7, 8, 9, 10, 11, 12, 13, 14, 15, 16, 17] (lv' := [(0, .ref g.2.2.1), (1, .ref L0), (2, .int v2), (3, .int v3), (4, .int v4), (5, .int v5), (6, .int v6), (7, .int v7), (8, .int v8), (9, .int v9), (10, .int v10), (11, .ref a11), (12, .ref (g.1 0)), (13, .int v13), (14, .int v14), (15, .int v15), (16, .int v16), (17, .int v17)]) rfl ?_
    exact bL_law_172_WK C0 E0 hl0 K0 hK0 KE L0 ua out rec15 rec59 hrec15 hrec59   v v2 v3 v4 v5 v6 v7 v8 v9 v10 t11n t11f (kLen 0) (kByt 0) v13 v14 v15 v16 v17 (0 : Int32) z464 a11 w11 f11 hx11 hc11 _ _ hf (by omega) (by omega)
  · rw [if_neg c465] at hf
    refine g_iconst C0 (v := (1 : Int32)) dL_law_167 (by decide) ?_
    refine g_goto C0 (tgt := 172) dL_law_168 (by decide) ?_
    refine g_lv [0, 1, 2, 3, 4, 5, 6, 7, 8, 9, 10, 11, 12, 13, 14, 15, 16, 17] (lv' := [(0, .ref g.2.2.1), (1, .ref L0), (2, .int v2), (3, .int v3), (4, .int v4), (5, .int v5), (6, .int v6), (7, .int v7), (8, .int v8), (9, .int v9), (10, .int v10), (11, .ref a11), (12, .ref (g.1 0)), (13, .int v13), (14, .int v14), (15, .int v15), (16, .int v16), (17, .int v17)]) rfl ?_
    exact bL_law_172_WK C0 E0 hl0 K0 hK0 KE L0 ua out rec15 rec59 hrec15 hrec59   v v2 v3 v4 v5 v6 v7 v8 v9 v10 t11n t11f (kLen 0) (kByt 0) v13 v14 v15 v16 v17 (1 : Int32) z464 a11 w11 f11 hx11 hc11 _ _ hf (by omega) (by omega)
set_option maxHeartbeats 8000000 in
set_option maxRecDepth 100000 in
theorem bL_law_136_WK {p : Program} {l : Launch} {e : Env} {s : State} {m : MethodId} {args : Array Value} {below : List Frame} {meth : Method} {c : Code} {D : va_G} {cB cC cI cO : ClassId} {A : Nat → Prop} {g : LG} (C0 : gC RL cL_law 23 (some .boolean) p s m args meth c D (hTy cB cC cI cO) A) (E0 : hLw g A s) (hl0 : l.stackTraces = false) (K0 : Nat → Int32) (hK0 : fJ7_fill_53178 64 (fun _ => 0) (-1 : Int32) = some K0) {Q : State → Prop} (KE : ∀ (lv : List (Nat × Value)) (ws : va_W) (kk nn : Nat), kk ≤ room_1.cells → nn ≤ room_1.slots → gG p l e room_1 s m args below meth c D A 23 Q kk nn 1230 lv [.int 1] ws) (L0 : Nat) (ua : LA) (out : Unit) {B15a B15b : Nat} {B59a B59b : Nat} (rec15 : LV → Int32 → Option (Unit)) (rec59 : LV → Int32 → Int32 → Int32 → Int32 → Int32 → Int32 → Int32 → Int32 → Int32 → Nat → (Nat → Int32) → Nat → (Nat → Int32) → Int32 → Option (Unit)) (hrec15 : ∀ (v : LV) (v2 : Int32)  (kk nn : Nat), rec15 v v2 = some out → kk + (B15a) ≤ room_1.cells → nn + (B15b) ≤ room_1.slots → gG p l e room_1 s m args below meth c D A 23 Q kk nn 15 [(0, .ref g.2.2.1), (1, .ref L0), (2, .int v2)] [] (List.append [] (labX cB cC cI cO L0 ua v))) (hrec59 : ∀ (v : LV) (v2 : Int32) (v3 : Int32) (v4 : Int32) (v5 : Int32) (v6 : Int32) (v7 : Int32) (v8 : Int32) (v9 : Int32) (v10 : Int32) (t11n : Nat) (t11f : Nat → Int32) (_ : Nat) (_ : Nat → Int32) (v13 : Int32) (a11 w11 : Nat) (f11 : Nat → Int32) (hx11 : ∀ j, j < t11n → f11 j = t11f j) (hc11 : ascB t11n f11) (kk nn : Nat), rec59 v v2 v3 v4 v5 v6 v7 v8 v9 v10 t11n t11f (kLen 0) (kByt 0) v13 = some out → kk + (B59a) ≤ room_1.cells → nn + (B59b) ≤ room_1.slots → gG p l e room_1 s m args below meth c D A 23 Q kk nn 59 [(0, .ref g.2.2.1), (1, .ref L0), (2, .int v2), (3, .int v3), (4, .int v4), (5, .int v5), (6, .int v6), (7, .int v7), (8, .int v8), (9, .int v9), (10, .int v10), (11, .ref a11), (12, .ref (g.1 0)), (13, .int v13)] [] (List.append [(a11, .inr (0, [.ref w11, .int 0, .int 0, .int 0])), (w11, .inl (cB, t11n, .inl f11))] (labX cB cC cI cO L0 ua v))) : ∀ (v : LV) (v2 : Int32) (v3 : Int32) (v4 : Int32) (v5 : Int32) (v6 : Int32) (v7 : Int32) (v8 : Int32) (v9 : Int32) (v10 : Int32) (t11n : Nat) (t11f : Nat → Int32) (_ : Nat) (_ : Nat → Int32) (v13 : Int32) (v14 : Int32) (v15 : Int32) (v16 : Int32) (k0 : Int32) (a11 w11 : Nat) (f11 : Nat → Int32) (hx11 : ∀ j, j < t11n → f11 j = t11f j) (hc11 : ascB t11n f11) (kk nn : Nat), fL_law_136 g K0 rec15 rec59  v v2 v3 v4 v5 v6 v7 v8 v9 v10 t11n t11f (kLen 0) (kByt 0) v13 v14 v15 v16 k0 = some out → kk + (490 + B59a) ≤ room_1.cells → nn + (9916 + B59b) ≤ room_1.slots → gG p l e room_1 s m args below meth c D A 23 Q kk nn 136 [(0, .ref g.2.2.1), (1, .ref L0), (2, .int v2), (3, .int v3), (4, .int v4), (5, .int v5), (6, .int v6), (7, .int v7), (8, .int v8), (9, .int v9), (10, .int v10), (11, .ref a11), (12, .ref (g.1 0)), (13, .int v13), (14, .int v14), (15, .int v15), (16, .int v16)] [.int k0] (List.append [(a11, .inr (0, [.ref w11, .int 0, .int 0, .int 0])), (w11, .inl (cB, t11n, .inl f11))] (labX cB cC cI cO L0 ua v)) := by
  intro v v2 v3 v4 v5 v6 v7 v8 v9 v10 t11n t11f _ _ v13 v14 v15 v16 k0 a11 w11 f11 hx11 hc11 kk nn hf hb1 hb2
  unfold fL_law_136 at hf
  refine g_istore C0 (lv' := [(17, .int k0), (0, .ref g.2.2.1), (1, .ref L0), (2, .int v2), (3, .int v3), (4, .int v4), (5, .int v5), (6, .int v6), (7, .int v7), (8, .int v8), (9, .int v9), (10, .int v10), (11, .ref a11), (12, .ref (g.1 0)), (13, .int v13), (14, .int v14), (15, .int v15), (16, .int v16)]) dL_law_136 (by decide) rfl ?_
  refine g_aload_n C0 dL_law_138 rfl 2 rfl ?_
  refine g_iload C0 dL_law_139 14 rfl ?_
  obtain ⟨r425, er425, hf⟩ := hl_bd hf
  obtain ⟨z426, ez426, hf⟩ := hl_inl hf
  have kr425 := mg_isFull l hl0 D cB cC cI cO L0 ua v v13 r425 er425
  rw [ez426] at kr425
  refine g_sufNi C0 E0.1.1 (P := [(a11, .inr (0, [.ref w11, .int 0, .int 0, .int 0])), (w11, .inl (cB, t11n, .inl f11))]) (X := labX cB cC cI cO L0 ua v) (X1 := labX cB cC cI cO L0 ua v) (As := [.int v13]) (st := []) kr425 hmX6_isFull q_438 ⟨Nat.le_of_ble_eq_true rfl, Nat.le_of_ble_eq_true rfl⟩ ⟨by omega, by omega⟩ rfl rfl rfl rfl rfl 0 rfl rfl rfl (Nat.le_of_ble_eq_true rfl) dL_law_141 ?_
  refine g_if_eq C0 (tgt := 156) dL_law_144 (by decide) (fun c427 => ?_) (fun c427 => ?_)
  · rw [if_pos c427] at hf
    refine g_lv [1, 2, 3, 4, 5, 6, 7, 8, 9, 10, 11, 12, 13, 14, 15, 16, 17, 0] (lv' := [(0, .ref g.2.2.1), (1, .ref L0), (2, .int v2), (3, .int v3), (4, .int v4), (5, .int v5), (6, .int v6), (7, .int v7), (8, .int v8), (9, .int v9), (10, .int v10), (11, .ref a11), (12, .ref (g.1 0)), (13, .int v13), (14, .int v14), (15, .int v15), (16, .int v16), (17, .int k0)]) rfl ?_
    exact bL_law_156_WK C0 E0 hl0 K0 hK0 KE L0 ua out rec15 rec59 hrec15 hrec59   v v2 v3 v4 v5 v6 v7 v8 v9 v10 t11n t11f (kLen 0) (kByt 0) v13 v14 v15 v16 k0 a11 w11 f11 hx11 hc11 _ _ hf (by omega) (by omega)
  · rw [if_neg c427] at hf
    refine g_aload_n C0 dL_law_147 rfl 2 rfl ?_
    refine g_iload C0 dL_law_148 14 rfl ?_
    obtain ⟨r428, er428, hf⟩ := hl_bd hf
    obtain ⟨z429, ez429, hf⟩ := hl_inl hf
    have kr428 := mg_isTombstone l hl0 D cB cC cI cO L0 ua v v13 r428 er428
    rw [ez429] at kr428
    refine g_sufNi C0 E0.1.1 (P := [(a11, .inr (0, [.ref w11, .int 0, .int 0, .int 0])), (w11, .inl (cB, t11n, .inl f11))]) (X := labX cB cC cI cO L0 ua v) (X1 := labX cB cC cI cO L0 ua v) (As := [.int v13]) (st := []) kr428 hmX6_isTombstone q_444 ⟨Nat.le_of_ble_eq_true rfl, Nat.le_of_ble_eq_true rfl⟩ ⟨by omega, by omega⟩ rfl rfl rfl rfl rfl 0 rfl rfl rfl (Nat.le_of_ble_eq_true rfl) dL_law_150 ?_
    refine g_if_ne C0 (tgt := 175) dL_law_153 (by decide) (fun c430 => ?_) (fun c430 => ?_)
    · rw [if_neg c430] at hf
      refine g_iconst C0 (v := (0 : Int32)) dL_law_175 (by decide) ?_
      cases hf
    · rw [if_pos c430] at hf
      refine g_lv [1, 2, 3, 4, 5, 6, 7, 8, 9, 10, 11, 12, 13, 14, 15, 16, 17, 0] (lv' := [(0, .ref g.2.2.1), (1, .ref L0), (2, .int v2), (3, .int v3), (4, .int v4), (5, .int v5), (6, .int v6), (7, .int v7), (8, .int v8), (9, .int v9), (10, .int v10), (11, .ref a11), (12, .ref (g.1 0)), (13, .int v13), (14, .int v14), (15, .int v15), (16, .int v16), (17, .int k0)]) rfl ?_
      exact bL_law_156_WK C0 E0 hl0 K0 hK0 KE L0 ua out rec15 rec59 hrec15 hrec59   v v2 v3 v4 v5 v6 v7 v8 v9 v10 t11n t11f (kLen 0) (kByt 0) v13 v14 v15 v16 k0 a11 w11 f11 hx11 hc11 _ _ hf (by omega) (by omega)
set_option maxHeartbeats 8000000 in
set_option maxRecDepth 100000 in
theorem bL_law_99_WK {p : Program} {l : Launch} {e : Env} {s : State} {m : MethodId} {args : Array Value} {below : List Frame} {meth : Method} {c : Code} {D : va_G} {cB cC cI cO : ClassId} {A : Nat → Prop} {g : LG} (C0 : gC RL cL_law 23 (some .boolean) p s m args meth c D (hTy cB cC cI cO) A) (E0 : hLw g A s) (hl0 : l.stackTraces = false) (K0 : Nat → Int32) (hK0 : fJ7_fill_53178 64 (fun _ => 0) (-1 : Int32) = some K0) {Q : State → Prop} (KE : ∀ (lv : List (Nat × Value)) (ws : va_W) (kk nn : Nat), kk ≤ room_1.cells → nn ≤ room_1.slots → gG p l e room_1 s m args below meth c D A 23 Q kk nn 1230 lv [.int 1] ws) (L0 : Nat) (ua : LA) (out : Unit) {B15a B15b : Nat} {B59a B59b : Nat} (rec15 : LV → Int32 → Option (Unit)) (rec59 : LV → Int32 → Int32 → Int32 → Int32 → Int32 → Int32 → Int32 → Int32 → Int32 → Nat → (Nat → Int32) → Nat → (Nat → Int32) → Int32 → Option (Unit)) (hrec15 : ∀ (v : LV) (v2 : Int32)  (kk nn : Nat), rec15 v v2 = some out → kk + (B15a) ≤ room_1.cells → nn + (B15b) ≤ room_1.slots → gG p l e room_1 s m args below meth c D A 23 Q kk nn 15 [(0, .ref g.2.2.1), (1, .ref L0), (2, .int v2)] [] (List.append [] (labX cB cC cI cO L0 ua v))) (hrec59 : ∀ (v : LV) (v2 : Int32) (v3 : Int32) (v4 : Int32) (v5 : Int32) (v6 : Int32) (v7 : Int32) (v8 : Int32) (v9 : Int32) (v10 : Int32) (t11n : Nat) (t11f : Nat → Int32) (_ : Nat) (_ : Nat → Int32) (v13 : Int32) (a11 w11 : Nat) (f11 : Nat → Int32) (hx11 : ∀ j, j < t11n → f11 j = t11f j) (hc11 : ascB t11n f11) (kk nn : Nat), rec59 v v2 v3 v4 v5 v6 v7 v8 v9 v10 t11n t11f (kLen 0) (kByt 0) v13 = some out → kk + (B59a) ≤ room_1.cells → nn + (B59b) ≤ room_1.slots → gG p l e room_1 s m args below meth c D A 23 Q kk nn 59 [(0, .ref g.2.2.1), (1, .ref L0), (2, .int v2), (3, .int v3), (4, .int v4), (5, .int v5), (6, .int v6), (7, .int v7), (8, .int v8), (9, .int v9), (10, .int v10), (11, .ref a11), (12, .ref (g.1 0)), (13, .int v13)] [] (List.append [(a11, .inr (0, [.ref w11, .int 0, .int 0, .int 0])), (w11, .inl (cB, t11n, .inl f11))] (labX cB cC cI cO L0 ua v))) : ∀ (v : LV) (v2 : Int32) (v3 : Int32) (v4 : Int32) (v5 : Int32) (v6 : Int32) (v7 : Int32) (v8 : Int32) (v9 : Int32) (v10 : Int32) (t11n : Nat) (t11f : Nat → Int32) (_ : Nat) (_ : Nat → Int32) (v13 : Int32) (v14 : Int32) (v15 : Int32) (k0 : Int32) (a11 w11 : Nat) (f11 : Nat → Int32) (hx11 : ∀ j, j < t11n → f11 j = t11f j) (hc11 : ascB t11n f11) (kk nn : Nat), fL_law_99 g K0 rec15 rec59  v v2 v3 v4 v5 v6 v7 v8 v9 v10 t11n t11f (kLen 0) (kByt 0) v13 v14 v15 k0 = some out → kk + (492 + B59a) ≤ room_1.cells → nn + (9928 + B59b) ≤ room_1.slots → gG p l e room_1 s m args below meth c D A 23 Q kk nn 99 [(0, .ref g.2.2.1), (1, .ref L0), (2, .int v2), (3, .int v3), (4, .int v4), (5, .int v5), (6, .int v6), (7, .int v7), (8, .int v8), (9, .int v9), (10, .int v10), (11, .ref a11), (12, .ref (g.1 0)), (13, .int v13), (14, .int v14), (15, .int v15)] [.int k0] (List.append [(a11, .inr (0, [.ref w11, .int 0, .int 0, .int 0])), (w11, .inl (cB, t11n, .inl f11))] (labX cB cC cI cO L0 ua v)) := by
  intro v v2 v3 v4 v5 v6 v7 v8 v9 v10 t11n t11f _ _ v13 v14 v15 k0 a11 w11 f11 hx11 hc11 kk nn hf hb1 hb2
  unfold fL_law_99 at hf
  refine g_istore C0 (lv' := [(16, .int k0), (0, .ref g.2.2.1), (1, .ref L0), (2, .int v2), (3, .int v3), (4, .int v4), (5, .int v5), (6, .int v6), (7, .int v7), (8, .int v8), (9, .int v9), (10, .int v10), (11, .ref a11), (12, .ref (g.1 0)), (13, .int v13), (14, .int v14), (15, .int v15)]) dL_law_99 (by decide) rfl ?_
  refine g_aload_n C0 dL_law_101 rfl 2 rfl ?_
  refine g_iload C0 dL_law_102 14 rfl ?_
  refine g_iload_n C0 dL_law_104 rfl 4 rfl ?_
  refine g_iadd C0 dL_law_105 ?_
  refine g_iconst C0 (v := (1 : Int32)) dL_law_106 (by decide) ?_
  refine g_isub C0 dL_law_107 ?_
  refine g_iload_n C0 dL_law_108 rfl 4 rfl ?_
  obtain ⟨z348, hf⟩ := hl_ifN hf
  refine g_irem C0 dL_law_109 z348 ?_
  obtain ⟨r349, er349, hf⟩ := hl_bd hf
  obtain ⟨z350, ez350, hf⟩ := hl_inl hf
  have kr349 := mg_isFull l hl0 D cB cC cI cO L0 ua v (hl_rem ((v13 + v3) - (1 : Int32)) v3) r349 er349
  rw [ez350] at kr349
  refine g_sufNi C0 E0.1.1 (P := [(a11, .inr (0, [.ref w11, .int 0, .int 0, .int 0])), (w11, .inl (cB, t11n, .inl f11))]) (X := labX cB cC cI cO L0 ua v) (X1 := labX cB cC cI cO L0 ua v) (As := [.int (hl_rem ((v13 + v3) - (1 : Int32)) v3)]) (st := []) kr349 hmX6_isFull q_438 ⟨Nat.le_of_ble_eq_true rfl, Nat.le_of_ble_eq_true rfl⟩ ⟨by omega, by omega⟩ rfl rfl rfl rfl rfl 0 rfl rfl rfl (Nat.le_of_ble_eq_true rfl) dL_law_110 ?_
  refine g_if_ne C0 (tgt := 131) dL_law_113 (by decide) (fun c351 => ?_) (fun c351 => ?_)
  · rw [if_neg c351] at hf
    refine g_iconst C0 (v := (1 : Int32)) dL_law_131 (by decide) ?_
    refine g_goto C0 (tgt := 136) dL_law_132 (by decide) ?_
    refine g_lv [1, 2, 3, 4, 5, 6, 7, 8, 9, 10, 11, 12, 13, 14, 15, 16, 0] (lv' := [(0, .ref g.2.2.1), (1, .ref L0), (2, .int v2), (3, .int v3), (4, .int v4), (5, .int v5), (6, .int v6), (7, .int v7), (8, .int v8), (9, .int v9), (10, .int v10), (11, .ref a11), (12, .ref (g.1 0)), (13, .int v13), (14, .int v14), (15, .int v15), (16, .int k0)]) rfl ?_
    exact bL_law_136_WK C0 E0 hl0 K0 hK0 KE L0 ua out rec15 rec59 hrec15 hrec59   v v2 v3 v4 v5 v6 v7 v8 v9 v10 t11n t11f (kLen 0) (kByt 0) v13 v14 v15 k0 (1 : Int32) a11 w11 f11 hx11 hc11 _ _ hf (by omega) (by omega)
  · rw [if_pos c351] at hf
    refine g_aload_n C0 dL_law_116 rfl 2 rfl ?_
    refine g_iload C0 dL_law_117 14 rfl ?_
    refine g_iload_n C0 dL_law_119 rfl 4 rfl ?_
    refine g_iadd C0 dL_law_120 ?_
    refine g_iconst C0 (v := (1 : Int32)) dL_law_121 (by decide) ?_
    refine g_isub C0 dL_law_122 ?_
    refine g_iload_n C0 dL_law_123 rfl 4 rfl ?_
    obtain ⟨z352, hf⟩ := hl_ifN hf
    refine g_irem C0 dL_law_124 z352 ?_
    obtain ⟨r353, er353, hf⟩ := hl_bd hf
    obtain ⟨z354, ez354, hf⟩ := hl_inl hf
    have kr353 := mg_isTombstone l hl0 D cB cC cI cO L0 ua v (hl_rem ((v13 + v3) - (1 : Int32)) v3) r353 er353
    rw [ez354] at kr353
    refine g_sufNi C0 E0.1.1 (P := [(a11, .inr (0, [.ref w11, .int 0, .int 0, .int 0])), (w11, .inl (cB, t11n, .inl f11))]) (X := labX cB cC cI cO L0 ua v) (X1 := labX cB cC cI cO L0 ua v) (As := [.int (hl_rem ((v13 + v3) - (1 : Int32)) v3)]) (st := []) kr353 hmX6_isTombstone q_444 ⟨Nat.le_of_ble_eq_true rfl, Nat.le_of_ble_eq_true rfl⟩ ⟨by omega, by omega⟩ rfl rfl rfl rfl rfl 0 rfl rfl rfl (Nat.le_of_ble_eq_true rfl) dL_law_125 ?_
    refine g_if_eq C0 (tgt := 135) dL_law_128 (by decide) (fun c355 => ?_) (fun c355 => ?_)
    · rw [if_pos c355] at hf
      refine g_iconst C0 (v := (0 : Int32)) dL_law_135 (by decide) ?_
      refine g_lv [1, 2, 3, 4, 5, 6, 7, 8, 9, 10, 11, 12, 13, 14, 15, 16, 0] (lv' := [(0, .ref g.2.2.1), (1, .ref L0), (2, .int v2), (3, .int v3), (4, .int v4), (5, .int v5), (6, .int v6), (7, .int v7), (8, .int v8), (9, .int v9), (10, .int v10), (11, .ref a11), (12, .ref (g.1 0)), (13, .int v13), (14, .int v14), (15, .int v15), (16, .int k0)]) rfl ?_
      exact bL_law_136_WK C0 E0 hl0 K0 hK0 KE L0 ua out rec15 rec59 hrec15 hrec59   v v2 v3 v4 v5 v6 v7 v8 v9 v10 t11n t11f (kLen 0) (kByt 0) v13 v14 v15 k0 (0 : Int32) a11 w11 f11 hx11 hc11 _ _ hf (by omega) (by omega)
    · rw [if_neg c355] at hf
      refine g_iconst C0 (v := (1 : Int32)) dL_law_131 (by decide) ?_
      refine g_goto C0 (tgt := 136) dL_law_132 (by decide) ?_
      refine g_lv [1, 2, 3, 4, 5, 6, 7, 8, 9, 10, 11, 12, 13, 14, 15, 16, 0] (lv' := [(0, .ref g.2.2.1), (1, .ref L0), (2, .int v2), (3, .int v3), (4, .int v4), (5, .int v5), (6, .int v6), (7, .int v7), (8, .int v8), (9, .int v9), (10, .int v10), (11, .ref a11), (12, .ref (g.1 0)), (13, .int v13), (14, .int v14), (15, .int v15), (16, .int k0)]) rfl ?_
      exact bL_law_136_WK C0 E0 hl0 K0 hK0 KE L0 ua out rec15 rec59 hrec15 hrec59   v v2 v3 v4 v5 v6 v7 v8 v9 v10 t11n t11f (kLen 0) (kByt 0) v13 v14 v15 k0 (1 : Int32) a11 w11 f11 hx11 hc11 _ _ hf (by omega) (by omega)
set_option maxHeartbeats 8000000 in
set_option maxRecDepth 100000 in
theorem bL_law_59_WK {p : Program} {l : Launch} {e : Env} {s : State} {m : MethodId} {args : Array Value} {below : List Frame} {meth : Method} {c : Code} {D : va_G} {cB cC cI cO : ClassId} {A : Nat → Prop} {g : LG} (C0 : gC RL cL_law 23 (some .boolean) p s m args meth c D (hTy cB cC cI cO) A) (E0 : hLw g A s) (hl0 : l.stackTraces = false) (K0 : Nat → Int32) (hK0 : fJ7_fill_53178 64 (fun _ => 0) (-1 : Int32) = some K0) {Q : State → Prop} (KE : ∀ (lv : List (Nat × Value)) (ws : va_W) (kk nn : Nat), kk ≤ room_1.cells → nn ≤ room_1.slots → gG p l e room_1 s m args below meth c D A 23 Q kk nn 1230 lv [.int 1] ws) (L0 : Nat) (ua : LA) (out : Unit) {B15a B15b : Nat} (rec15 : LV → Int32 → Option (Unit)) (hrec15 : ∀ (v : LV) (v2 : Int32)  (kk nn : Nat), rec15 v v2 = some out → kk + (B15a) ≤ room_1.cells → nn + (B15b) ≤ room_1.slots → gG p l e room_1 s m args below meth c D A 23 Q kk nn 15 [(0, .ref g.2.2.1), (1, .ref L0), (2, .int v2)] [] (List.append [] (labX cB cC cI cO L0 ua v))) : ∀ (n : Nat) (v : LV) (v2 : Int32) (v3 : Int32) (v4 : Int32) (v5 : Int32) (v6 : Int32) (v7 : Int32) (v8 : Int32) (v9 : Int32) (v10 : Int32) (t11n : Nat) (t11f : Nat → Int32) (_ : Nat) (_ : Nat → Int32) (v13 : Int32) (a11 w11 : Nat) (f11 : Nat → Int32) (hx11 : ∀ j, j < t11n → f11 j = t11f j) (hc11 : ascB t11n f11) (kk nn : Nat), fL_law_59 g K0 rec15 n v v2 v3 v4 v5 v6 v7 v8 v9 v10 t11n t11f (kLen 0) (kByt 0) v13 = some out → kk + (n * 495 + (4052 + B15a)) ≤ room_1.cells → nn + (n * 9946 + (537686 + B15b)) ≤ room_1.slots → gG p l e room_1 s m args below meth c D A 23 Q kk nn 59 [(0, .ref g.2.2.1), (1, .ref L0), (2, .int v2), (3, .int v3), (4, .int v4), (5, .int v5), (6, .int v6), (7, .int v7), (8, .int v8), (9, .int v9), (10, .int v10), (11, .ref a11), (12, .ref (g.1 0)), (13, .int v13)] [] (List.append [(a11, .inr (0, [.ref w11, .int 0, .int 0, .int 0])), (w11, .inl (cB, t11n, .inl f11))] (labX cB cC cI cO L0 ua v)) := by
  intro n
  induction n with
  | zero => intro v v2 v3 v4 v5 v6 v7 v8 v9 v10 t11n t11f _ _ v13 a11 w11 f11 hx11 hc11 kk nn hf hb1 hb2; rw [fL_law_59] at hf; cases hf
  | succ n ih =>
    intro v v2 v3 v4 v5 v6 v7 v8 v9 v10 t11n t11f _ _ v13 a11 w11 f11 hx11 hc11 kk nn hf hb1 hb2
    rw [fL_law_59] at hf
    refine g_iload C0 dL_law_59 13 rfl ?_
    refine g_iload_n C0 dL_law_61 rfl 3 rfl ?_
    refine g_icmp_ge C0 (tgt := 552) dL_law_62 (by decide) (fun c332 => ?_) (fun c332 => ?_)
    · rw [if_pos c332] at hf
      refine g_iconst C0 (v := (0 : Int32)) dL_law_552 (by decide) ?_
      refine g_istore C0 (lv' := [(13, .int (0 : Int32)), (0, .ref g.2.2.1), (1, .ref L0), (2, .int v2), (3, .int v3), (4, .int v4), (5, .int v5), (6, .int v6), (7, .int v7), (8, .int v8), (9, .int v9), (10, .int v10), (11, .ref a11), (12, .ref (g.1 0))]) dL_law_553 (by decide) rfl ?_
      refine g_lv [1, 2, 3, 4, 5, 6, 7, 8, 9, 10, 12, 13, 0] (lv' := [(0, .ref g.2.2.1), (1, .ref L0), (2, .int v2), (3, .int v3), (4, .int v4), (5, .int v5), (6, .int v6), (7, .int v7), (8, .int v8), (9, .int v9), (11, .ref a11), (12, .ref (g.1 0)), (13, .int (0 : Int32))]) rfl ?_
      exact bL_law_555_WK C0 E0 hl0 K0 hK0 KE L0 ua out rec15 hrec15  65  v v2 v3 v4 v5 v6 v7 v8 v9 t11n t11f (kLen 0) (kByt 0) (0 : Int32) a11 w11 f11 hx11 hc11 _ _ hf (by omega) (by omega)
    · rw [if_neg c332] at hf
      refine g_aload_n C0 dL_law_65 rfl 1 rfl ?_
      refine g_iload C0 dL_law_66 13 rfl ?_
      obtain ⟨r333, er333, hf⟩ := hl_bd hf
      refine g_hSi C0 E0 (P := [(a11, .inr (0, [.ref w11, .int 0, .int 0, .int 0])), (w11, .inl (cB, t11n, .inl f11))]) (X := labX cB cC cI cO L0 ua v) (X1 := labX cB cC cI cO L0 ua v) (As := [.ref L0, .int v13]) (st := []) (mL_keyIn l hl0 D cB cC cI cO g L0 ua v v13 r333 er333) hmL_keyIn q_735 ⟨Nat.le_of_ble_eq_true rfl, Nat.le_of_ble_eq_true rfl⟩ rfl rfl ⟨by omega, by omega⟩ rfl rfl rfl rfl (Nat.le_of_ble_eq_true rfl) dL_law_68 ?_
      refine g_istore C0 (lv' := [(14, .int r333), (0, .ref g.2.2.1), (1, .ref L0), (2, .int v2), (3, .int v3), (4, .int v4), (5, .int v5), (6, .int v6), (7, .int v7), (8, .int v8), (9, .int v9), (10, .int v10), (11, .ref a11), (12, .ref (g.1 0)), (13, .int v13)]) dL_law_71 (by decide) rfl ?_
      refine g_iconst C0 (v := (0 : Int32)) dL_law_73 (by decide) ?_
      refine g_istore C0 (lv' := [(15, .int (0 : Int32)), (14, .int r333), (0, .ref g.2.2.1), (1, .ref L0), (2, .int v2), (3, .int v3), (4, .int v4), (5, .int v5), (6, .int v6), (7, .int v7), (8, .int v8), (9, .int v9), (10, .int v10), (11, .ref a11), (12, .ref (g.1 0)), (13, .int v13)]) dL_law_74 (by decide) rfl ?_
      refine g_aload_n C0 dL_law_76 rfl 3 rfl ?_
      refine g_iload C0 dL_law_77 15 rfl ?_
      obtain ⟨r334, er334, hf⟩ := hl_bd hf
      obtain ⟨z335, ez335, hf⟩ := hl_inl hf
      have kr334 := mg_isFull l hl0 D cB cC cI cO L0 ua v v13 r334 er334
      rw [ez335] at kr334
      refine g_sufNi C0 E0.1.1 (P := [(a11, .inr (0, [.ref w11, .int 0, .int 0, .int 0])), (w11, .inl (cB, t11n, .inl f11))]) (X := labX cB cC cI cO L0 ua v) (X1 := labX cB cC cI cO L0 ua v) (As := [.int v13]) (st := []) kr334 hmX6_isFull q_438 ⟨Nat.le_of_ble_eq_true rfl, Nat.le_of_ble_eq_true rfl⟩ ⟨by omega, by omega⟩ rfl rfl rfl rfl rfl 0 rfl rfl rfl (Nat.le_of_ble_eq_true rfl) dL_law_79 ?_
      refine g_if_ne C0 (tgt := 94) dL_law_82 (by decide) (fun c336 => ?_) (fun c336 => ?_)
      · rw [if_neg c336] at hf
        refine g_iconst C0 (v := (1 : Int32)) dL_law_94 (by decide) ?_
        refine g_goto C0 (tgt := 99) dL_law_95 (by decide) ?_
        refine g_lv [2, 3, 4, 5, 6, 7, 8, 9, 10, 11, 12, 13, 14, 15, 1, 0] (lv' := [(0, .ref g.2.2.1), (1, .ref L0), (2, .int v2), (3, .int v3), (4, .int v4), (5, .int v5), (6, .int v6), (7, .int v7), (8, .int v8), (9, .int v9), (10, .int v10), (11, .ref a11), (12, .ref (g.1 0)), (13, .int v13), (14, .int r333), (15, .int (0 : Int32))]) rfl ?_
        exact bL_law_99_WK C0 E0 hl0 K0 hK0 KE L0 ua out rec15 (fL_law_59 g K0 rec15 n) hrec15 ih   v v2 v3 v4 v5 v6 v7 v8 v9 v10 t11n t11f (kLen 0) (kByt 0) v13 r333 (0 : Int32) (1 : Int32) a11 w11 f11 hx11 hc11 _ _ hf (by omega) (by omega)
      · rw [if_pos c336] at hf
        refine g_aload_n C0 dL_law_85 rfl 3 rfl ?_
        refine g_iload C0 dL_law_86 15 rfl ?_
        obtain ⟨r337, er337, hf⟩ := hl_bd hf
        obtain ⟨z338, ez338, hf⟩ := hl_inl hf
        have kr337 := mg_isTombstone l hl0 D cB cC cI cO L0 ua v v13 r337 er337
        rw [ez338] at kr337
        refine g_sufNi C0 E0.1.1 (P := [(a11, .inr (0, [.ref w11, .int 0, .int 0, .int 0])), (w11, .inl (cB, t11n, .inl f11))]) (X := labX cB cC cI cO L0 ua v) (X1 := labX cB cC cI cO L0 ua v) (As := [.int v13]) (st := []) kr337 hmX6_isTombstone q_444 ⟨Nat.le_of_ble_eq_true rfl, Nat.le_of_ble_eq_true rfl⟩ ⟨by omega, by omega⟩ rfl rfl rfl rfl rfl 0 rfl rfl rfl (Nat.le_of_ble_eq_true rfl) dL_law_88 ?_
        refine g_if_eq C0 (tgt := 98) dL_law_91 (by decide) (fun c339 => ?_) (fun c339 => ?_)
        · rw [if_pos c339] at hf
          refine g_iconst C0 (v := (0 : Int32)) dL_law_98 (by decide) ?_
          refine g_lv [2, 3, 4, 5, 6, 7, 8, 9, 10, 11, 12, 13, 14, 15, 1, 0] (lv' := [(0, .ref g.2.2.1), (1, .ref L0), (2, .int v2), (3, .int v3), (4, .int v4), (5, .int v5), (6, .int v6), (7, .int v7), (8, .int v8), (9, .int v9), (10, .int v10), (11, .ref a11), (12, .ref (g.1 0)), (13, .int v13), (14, .int r333), (15, .int (0 : Int32))]) rfl ?_
          exact bL_law_99_WK C0 E0 hl0 K0 hK0 KE L0 ua out rec15 (fL_law_59 g K0 rec15 n) hrec15 ih   v v2 v3 v4 v5 v6 v7 v8 v9 v10 t11n t11f (kLen 0) (kByt 0) v13 r333 (0 : Int32) (0 : Int32) a11 w11 f11 hx11 hc11 _ _ hf (by omega) (by omega)
        · rw [if_neg c339] at hf
          refine g_iconst C0 (v := (1 : Int32)) dL_law_94 (by decide) ?_
          refine g_goto C0 (tgt := 99) dL_law_95 (by decide) ?_
          refine g_lv [2, 3, 4, 5, 6, 7, 8, 9, 10, 11, 12, 13, 14, 15, 1, 0] (lv' := [(0, .ref g.2.2.1), (1, .ref L0), (2, .int v2), (3, .int v3), (4, .int v4), (5, .int v5), (6, .int v6), (7, .int v7), (8, .int v8), (9, .int v9), (10, .int v10), (11, .ref a11), (12, .ref (g.1 0)), (13, .int v13), (14, .int r333), (15, .int (0 : Int32))]) rfl ?_
          exact bL_law_99_WK C0 E0 hl0 K0 hK0 KE L0 ua out rec15 (fL_law_59 g K0 rec15 n) hrec15 ih   v v2 v3 v4 v5 v6 v7 v8 v9 v10 t11n t11f (kLen 0) (kByt 0) v13 r333 (0 : Int32) (1 : Int32) a11 w11 f11 hx11 hc11 _ _ hf (by omega) (by omega)
set_option maxHeartbeats 8000000 in
set_option maxRecDepth 100000 in
theorem bL_law_887_KW {p : Program} {l : Launch} {e : Env} {s : State} {m : MethodId} {args : Array Value} {below : List Frame} {meth : Method} {c : Code} {D : va_G} {cB cC cI cO : ClassId} {A : Nat → Prop} {g : LG} (C0 : gC RL cL_law 23 (some .boolean) p s m args meth c D (hTy cB cC cI cO) A) (E0 : hLw g A s) (hl0 : l.stackTraces = false) (K0 : Nat → Int32) (hK0 : fJ7_fill_53178 64 (fun _ => 0) (-1 : Int32) = some K0) {Q : State → Prop} (KE : ∀ (lv : List (Nat × Value)) (ws : va_W) (kk nn : Nat), kk ≤ room_1.cells → nn ≤ room_1.slots → gG p l e room_1 s m args below meth c D A 23 Q kk nn 1230 lv [.int 1] ws) (L0 : Nat) (ua : LA) (out : Unit) {B15a B15b : Nat} (rec15 : LV → Int32 → Option (Unit)) (hrec15 : ∀ (v : LV) (v2 : Int32)  (kk nn : Nat), rec15 v v2 = some out → kk + (B15a) ≤ room_1.cells → nn + (B15b) ≤ room_1.slots → gG p l e room_1 s m args below meth c D A 23 Q kk nn 15 [(0, .ref g.2.2.1), (1, .ref L0), (2, .int v2)] [] (List.append [] (labX cB cC cI cO L0 ua v))) : ∀ (v : LV) (v2 : Int32) (v3 : Int32) (v4 : Int32) (v8 : Int32) (_ : Nat) (_ : Nat → Int32) (t12n : Nat) (t12f : Nat → Int32) (k0 : Int32) (k1 : Int32) (a12 w12 : Nat) (f12 : Nat → Int32) (hx12 : ∀ j, j < t12n → f12 j = t12f j) (hc12 : ascB t12n f12) (kk nn : Nat), fL_law_887 g K0 rec15  v v2 v3 v4 v8 (kLen 0) (kByt 0) t12n t12f k0 k1 = some out → kk + (1828 + B15a) ≤ room_1.cells → nn + (25792 + B15b) ≤ room_1.slots → gG p l e room_1 s m args below meth c D A 23 Q kk nn 887 [(0, .ref g.2.2.1), (1, .ref L0), (2, .int v2), (3, .int v3), (4, .int v4), (8, .int v8), (11, .ref (g.1 0)), (12, .ref a12)] [.int k0, .int k1] (List.append [(a12, .inr (0, [.ref w12, .int 0, .int 0, .int 0])), (w12, .inl (cB, t12n, .inl f12))] (labX cB cC cI cO L0 ua v)) := by
  intro v v2 v3 v4 v8 _ _ t12n t12f k0 k1 a12 w12 f12 hx12 hc12 kk nn hf hb1 hb2
  unfold fL_law_887 at hf
  refine g_icmp_ne C0 (tgt := 944) dL_law_887 (by decide) (fun c226 => ?_) (fun c226 => ?_)
  · rw [if_neg c226] at hf
    refine g_iconst C0 (v := (0 : Int32)) dL_law_944 (by decide) ?_
    cases hf
  · rw [if_pos c226] at hf
    refine g_aload_n C0 dL_law_890 rfl 1 rfl ?_
    obtain ⟨r227, er227, hf⟩ := hl_bd hf
    refine g_suff C0 (P := [(a12, .inr (0, [.ref w12, .int 0, .int 0, .int 0])), (w12, .inl (cB, t12n, .inl f12))]) (X := labX cB cC cI cO L0 ua v) (X1 := labX cB cC cI cO L0 ua v) (As := []) (st := []) (mg_load l D cB cC cI cO L0 ua v  r227 er227) hmX6_load q_529 ⟨Nat.le_of_ble_eq_true rfl, Nat.le_of_ble_eq_true rfl⟩ ⟨by omega, by omega⟩ rfl rfl rfl rfl rfl 0 rfl rfl rfl (Nat.le_of_ble_eq_true rfl) dL_law_891 ?_
    refine g_iload C0 dL_law_894 4 rfl ?_
    refine g_i2f C0 dL_law_896 ?_
    refine g_iload_n C0 dL_law_897 rfl 3 rfl ?_
    refine g_i2f C0 dL_law_898 ?_
    obtain ⟨n228, hf⟩ := hl_ifS hf
    refine g_fdiv C0 dL_law_899 (hl_n32P n228) ?_
    refine g_fcmp C0 dL_law_900 ?_
    refine g_if_ne C0 (tgt := 944) dL_law_901 (by decide) (fun c229 => ?_) (fun c229 => ?_)
    · rw [if_neg c229] at hf
      refine g_iconst C0 (v := (0 : Int32)) dL_law_944 (by decide) ?_
      cases hf
    · rw [if_pos c229] at hf
      refine g_aload_n C0 dL_law_904 rfl 1 rfl ?_
      obtain ⟨r230, er230, hf⟩ := hl_bd hf
      refine g_sufi C0 (P := [(a12, .inr (0, [.ref w12, .int 0, .int 0, .int 0])), (w12, .inl (cB, t12n, .inl f12))]) (X := labX cB cC cI cO L0 ua v) (X1 := labX cB cC cI cO L0 ua v) (As := []) (st := []) (mg_loadBits l D cB cC cI cO L0 ua v  r230 er230) hmX6_loadBits q_537 ⟨Nat.le_of_ble_eq_true rfl, Nat.le_of_ble_eq_true rfl⟩ ⟨by omega, by omega⟩ rfl rfl rfl rfl rfl 0 rfl rfl rfl (Nat.le_of_ble_eq_true rfl) dL_law_905 ?_
      refine g_aload_n C0 dL_law_908 rfl 1 rfl ?_
      obtain ⟨r231, er231, hf⟩ := hl_bd hf
      refine g_suff C0 (P := [(a12, .inr (0, [.ref w12, .int 0, .int 0, .int 0])), (w12, .inl (cB, t12n, .inl f12))]) (X := labX cB cC cI cO L0 ua v) (X1 := labX cB cC cI cO L0 ua v) (As := []) (st := [.int r230]) (mg_load l D cB cC cI cO L0 ua v  r231 er231) hmX6_load q_529 ⟨Nat.le_of_ble_eq_true rfl, Nat.le_of_ble_eq_true rfl⟩ ⟨by omega, by omega⟩ rfl rfl rfl rfl rfl 0 rfl rfl rfl (Nat.le_of_ble_eq_true rfl) dL_law_909 ?_
      obtain ⟨r232, er232, hf⟩ := hl_bd hf
      refine g_l0pi C0 (mJxf58ca_floatToIntBits_5c35a l D cB cC cI cO r231 r232 er232) hmJxf58ca_floatToIntBits_5c35a q_902 ⟨Nat.le_of_ble_eq_true rfl, Nat.le_of_ble_eq_true rfl⟩ ⟨by omega, by omega⟩ rfl rfl rfl rfl (Nat.le_of_ble_eq_true rfl) dL_law_912 ?_
      refine g_icmp_ne C0 (tgt := 944) dL_law_915 (by decide) (fun c233 => ?_) (fun c233 => ?_)
      · rw [if_neg c233] at hf
        refine g_iconst C0 (v := (0 : Int32)) dL_law_944 (by decide) ?_
        cases hf
      · rw [if_pos c233] at hf
        refine g_aload_n C0 dL_law_918 rfl 1 rfl ?_
        refine g_aload_n C0 dL_law_919 rfl 1 rfl ?_
        obtain ⟨r234, er234, hf⟩ := hl_bd hf
        refine g_sufi C0 (P := [(a12, .inr (0, [.ref w12, .int 0, .int 0, .int 0])), (w12, .inl (cB, t12n, .inl f12))]) (X := labX cB cC cI cO L0 ua v) (X1 := labX cB cC cI cO L0 ua r234.2) (As := []) (st := [.ref L0]) (mg_writeSlots l D cB cC cI cO L0 ua v  r234 er234) hmX6_writeSlots q_639 ⟨Nat.le_of_ble_eq_true rfl, Nat.le_of_ble_eq_true rfl⟩ ⟨by omega, by omega⟩ rfl rfl rfl rfl rfl 0 rfl rfl rfl (Nat.le_of_ble_eq_true rfl) dL_law_920 ?_
        refine g_aload C0 dL_law_923 6 rfl ?_
        obtain ⟨r235, er235, hf⟩ := hl_bd hf
        have lr235 : fL_isLine r234.2 (kLen 0) (kByt 0) r234.1 = some r235 := (line_cong (fun _ _ => rfl)).trans er235
        refine g_lineS C0 (hLt_ok g _ _ _ _) (xl_K E0 (by decide : 0 < 6)) (P := [(a12, .inr (0, [.ref w12, .int 0, .int 0, .int 0])), (w12, .inl (cB, t12n, .inl f12))]) (X := labX cB cC cI cO L0 ua r234.2) (X1 := labX cB cC cI cO L0 ua r234.2) (As := [.ref L0, .int r234.1, .ref (g.1 0)]) (st := []) (mL_isLine l hl0 D cB cC cI cO g L0 ua r234.2 (g.1 0) (g.2.1 0) (kLen 0) (kByt 0) r234.1 r235 (by decide) (kAsc 0 (by decide)) lr235) hmL_isLine q_832 ⟨Nat.le_of_ble_eq_true rfl, Nat.le_of_ble_eq_true rfl⟩ rfl rfl ⟨by omega, by omega⟩ rfl rfl rfl rfl (Nat.le_of_ble_eq_true rfl) dL_law_925 ?_
        refine g_if_eq C0 (tgt := 944) dL_law_928 (by decide) (fun c236 => ?_) (fun c236 => ?_)
        · rw [if_pos c236] at hf
          refine g_iconst C0 (v := (0 : Int32)) dL_law_944 (by decide) ?_
          cases hf
        · rw [if_neg c236] at hf
          refine g_aload_n C0 dL_law_931 rfl 1 rfl ?_
          refine g_aload_n C0 dL_law_932 rfl 1 rfl ?_
          obtain ⟨r237, er237, hf⟩ := hl_bd hf
          refine g_sufi C0 (P := [(a12, .inr (0, [.ref w12, .int 0, .int 0, .int 0])), (w12, .inl (cB, t12n, .inl f12))]) (X := labX cB cC cI cO L0 ua r234.2) (X1 := labX cB cC cI cO L0 ua r237.2) (As := []) (st := [.ref L0]) (mg_writeKeys l D cB cC cI cO L0 ua r234.2  r237 er237) hmX6_writeKeys q_655 ⟨Nat.le_of_ble_eq_true rfl, Nat.le_of_ble_eq_true rfl⟩ ⟨by omega, by omega⟩ rfl rfl rfl rfl rfl 0 rfl rfl rfl (Nat.le_of_ble_eq_true rfl) dL_law_933 ?_
          refine g_aload C0 dL_law_936 7 rfl ?_
          obtain ⟨r238, er238, hf⟩ := hl_bd hf
          have lr238 : fL_isLine r237.2 t12n f12 r237.1 = some r238 := (line_cong hx12).trans er238
          refine g_lineS C0 (hLt_ok g _ _ _ _) (xl_W C0 E0 0 1 rfl rfl 3 rfl) (P := [(a12, .inr (0, [.ref w12, .int 0, .int 0, .int 0])), (w12, .inl (cB, t12n, .inl f12))]) (X := labX cB cC cI cO L0 ua r237.2) (X1 := labX cB cC cI cO L0 ua r237.2) (As := [.ref L0, .int r237.1, .ref a12]) (st := []) (mL_isLine l hl0 D cB cC cI cO g L0 ua r237.2 a12 w12 t12n f12 r237.1 r238 (Nat.lt_of_le_of_lt hc12.1 (by decide)) hc12.2 lr238) hmL_isLine q_832 ⟨Nat.le_of_ble_eq_true rfl, Nat.le_of_ble_eq_true rfl⟩ rfl rfl ⟨by omega, by omega⟩ rfl rfl rfl rfl (Nat.le_of_ble_eq_true rfl) dL_law_938 ?_
          refine g_if_ne C0 (tgt := 946) dL_law_941 (by decide) (fun c239 => ?_) (fun c239 => ?_)
          · rw [if_neg c239] at hf
            refine g_iload C0 dL_law_946 4 rfl ?_
            refine g_if_le C0 (tgt := 983) dL_law_948 (by decide) (fun c240 => ?_) (fun c240 => ?_)
            · rw [if_pos c240] at hf
              refine g_ordP (P := [(a12, .inr (0, [.ref w12, .int 0, .int 0, .int 0])), (w12, .inl (cB, t12n, .inl f12))]) (P' := []) (X := labX cB cC cI cO L0 ua r237.2) [] rfl rfl rfl ?_
              refine g_lv [0, 1, 2] (lv' := [(0, .ref g.2.2.1), (1, .ref L0), (2, .int v2)]) rfl ?_
              exact bL_law_983 C0 E0 hl0 K0 hK0 KE L0 ua out rec15 hrec15   r237.2 v2  _ _ hf (by omega) (by omega)
            · rw [if_neg c240] at hf
              refine g_aload_n C0 dL_law_951 rfl 1 rfl ?_
              obtain ⟨r241, er241, hf⟩ := hl_bd hf
              obtain ⟨z242, ez242, hf⟩ := hl_inl hf
              have kr241 := mg_meanProbes l hl0 D cB cC cI cO L0 ua r237.2  r241 er241
              rw [ez242] at kr241
              refine g_sufNd C0 E0.1.1 (P := [(a12, .inr (0, [.ref w12, .int 0, .int 0, .int 0])), (w12, .inl (cB, t12n, .inl f12))]) (X := labX cB cC cI cO L0 ua r237.2) (X1 := labX cB cC cI cO L0 ua r237.2) (As := []) (st := []) kr241 hmX6_meanProbes q_494 ⟨Nat.le_of_ble_eq_true rfl, Nat.le_of_ble_eq_true rfl⟩ ⟨by omega, by omega⟩ rfl rfl rfl rfl rfl 0 rfl rfl rfl (Nat.le_of_ble_eq_true rfl) dL_law_952 ?_
              refine g_iload C0 dL_law_955 5 rfl ?_
              refine g_i2d C0 dL_law_957 ?_
              refine g_iload C0 dL_law_958 4 rfl ?_
              refine g_i2d C0 dL_law_960 ?_
              obtain ⟨n243, hf⟩ := hl_ifS hf
              refine g_ddiv C0 dL_law_961 (hl_n64P n243) ?_
              refine g_dcmp C0 dL_law_962 ?_
              refine g_if_ne C0 (tgt := 981) dL_law_963 (by decide) (fun c244 => ?_) (fun c244 => ?_)
              · rw [if_neg c244] at hf
                refine g_iconst C0 (v := (0 : Int32)) dL_law_981 (by decide) ?_
                cases hf
              · rw [if_pos c244] at hf
                refine g_aload_n C0 dL_law_966 rfl 1 rfl ?_
                obtain ⟨r245, er245, hf⟩ := hl_bd hf
                obtain ⟨z246, ez246, hf⟩ := hl_inl hf
                have kr245 := mg_meanProbesBits l hl0 D cB cC cI cO L0 ua r237.2  r245 er245
                rw [ez246] at kr245
                refine g_sufNl C0 E0.1.1 (P := [(a12, .inr (0, [.ref w12, .int 0, .int 0, .int 0])), (w12, .inl (cB, t12n, .inl f12))]) (X := labX cB cC cI cO L0 ua r237.2) (X1 := labX cB cC cI cO L0 ua r237.2) (As := []) (st := []) kr245 hmX6_meanProbesBits q_518 ⟨Nat.le_of_ble_eq_true rfl, Nat.le_of_ble_eq_true rfl⟩ ⟨by omega, by omega⟩ rfl rfl rfl rfl rfl 0 rfl rfl rfl (Nat.le_of_ble_eq_true rfl) dL_law_967 ?_
                refine g_aload_n C0 dL_law_970 rfl 1 rfl ?_
                obtain ⟨r247, er247, hf⟩ := hl_bd hf
                obtain ⟨z248, ez248, hf⟩ := hl_inl hf
                have kr247 := mg_meanProbes l hl0 D cB cC cI cO L0 ua r237.2  r247 er247
                rw [ez248] at kr247
                refine g_sufNd C0 E0.1.1 (P := [(a12, .inr (0, [.ref w12, .int 0, .int 0, .int 0])), (w12, .inl (cB, t12n, .inl f12))]) (X := labX cB cC cI cO L0 ua r237.2) (X1 := labX cB cC cI cO L0 ua r237.2) (As := []) (st := [.long z246]) kr247 hmX6_meanProbes q_494 ⟨Nat.le_of_ble_eq_true rfl, Nat.le_of_ble_eq_true rfl⟩ ⟨by omega, by omega⟩ rfl rfl rfl rfl rfl 0 rfl rfl rfl (Nat.le_of_ble_eq_true rfl) dL_law_971 ?_
                obtain ⟨r249, er249, hf⟩ := hl_bd hf
                refine g_l0pl C0 (mJxe99ae_doubleToLongBits_ccdee l D cB cC cI cO z248 r249 er249) hmJxe99ae_doubleToLongBits_ccdee q_892 ⟨Nat.le_of_ble_eq_true rfl, Nat.le_of_ble_eq_true rfl⟩ ⟨by omega, by omega⟩ rfl rfl rfl rfl (Nat.le_of_ble_eq_true rfl) dL_law_974 ?_
                refine g_lcmp C0 dL_law_977 ?_
                refine g_if_eq C0 (tgt := 983) dL_law_978 (by decide) (fun c250 => ?_) (fun c250 => ?_)
                · rw [if_pos c250] at hf
                  refine g_ordP (P := [(a12, .inr (0, [.ref w12, .int 0, .int 0, .int 0])), (w12, .inl (cB, t12n, .inl f12))]) (P' := []) (X := labX cB cC cI cO L0 ua r237.2) [] rfl rfl rfl ?_
                  refine g_lv [0, 1, 2] (lv' := [(0, .ref g.2.2.1), (1, .ref L0), (2, .int v2)]) rfl ?_
                  exact bL_law_983 C0 E0 hl0 K0 hK0 KE L0 ua out rec15 hrec15   r237.2 v2  _ _ hf (by omega) (by omega)
                · rw [if_neg c250] at hf
                  refine g_iconst C0 (v := (0 : Int32)) dL_law_981 (by decide) ?_
                  cases hf
          · rw [if_pos c239] at hf
            refine g_iconst C0 (v := (0 : Int32)) dL_law_944 (by decide) ?_
            cases hf
set_option maxHeartbeats 8000000 in
set_option maxRecDepth 100000 in
theorem bL_law_769_KW {p : Program} {l : Launch} {e : Env} {s : State} {m : MethodId} {args : Array Value} {below : List Frame} {meth : Method} {c : Code} {D : va_G} {cB cC cI cO : ClassId} {A : Nat → Prop} {g : LG} (C0 : gC RL cL_law 23 (some .boolean) p s m args meth c D (hTy cB cC cI cO) A) (E0 : hLw g A s) (hl0 : l.stackTraces = false) (K0 : Nat → Int32) (hK0 : fJ7_fill_53178 64 (fun _ => 0) (-1 : Int32) = some K0) {Q : State → Prop} (KE : ∀ (lv : List (Nat × Value)) (ws : va_W) (kk nn : Nat), kk ≤ room_1.cells → nn ≤ room_1.slots → gG p l e room_1 s m args below meth c D A 23 Q kk nn 1230 lv [.int 1] ws) (L0 : Nat) (ua : LA) (out : Unit) {B15a B15b : Nat} {B650a B650b : Nat} (rec15 : LV → Int32 → Option (Unit)) (rec650 : LV → Int32 → Int32 → Int32 → Int32 → Int32 → Int32 → Int32 → Int32 → Nat → (Nat → Int32) → Nat → (Nat → Int32) → Int32 → Option (Unit)) (hrec15 : ∀ (v : LV) (v2 : Int32)  (kk nn : Nat), rec15 v v2 = some out → kk + (B15a) ≤ room_1.cells → nn + (B15b) ≤ room_1.slots → gG p l e room_1 s m args below meth c D A 23 Q kk nn 15 [(0, .ref g.2.2.1), (1, .ref L0), (2, .int v2)] [] (List.append [] (labX cB cC cI cO L0 ua v))) (hrec650 : ∀ (v : LV) (v2 : Int32) (v3 : Int32) (v4 : Int32) (v5 : Int32) (v6 : Int32) (v7 : Int32) (v8 : Int32) (v9 : Int32) (_ : Nat) (_ : Nat → Int32) (t12n : Nat) (t12f : Nat → Int32) (v13 : Int32) (a12 w12 : Nat) (f12 : Nat → Int32) (hx12 : ∀ j, j < t12n → f12 j = t12f j) (hc12 : ascB t12n f12) (kk nn : Nat), rec650 v v2 v3 v4 v5 v6 v7 v8 v9 (kLen 0) (kByt 0) t12n t12f v13 = some out → kk + (B650a) ≤ room_1.cells → nn + (B650b) ≤ room_1.slots → gG p l e room_1 s m args below meth c D A 23 Q kk nn 650 [(0, .ref g.2.2.1), (1, .ref L0), (2, .int v2), (3, .int v3), (4, .int v4), (5, .int v5), (6, .int v6), (7, .int v7), (8, .int v8), (9, .int v9), (11, .ref (g.1 0)), (12, .ref a12), (13, .int v13)] [] (List.append [(a12, .inr (0, [.ref w12, .int 0, .int 0, .int 0])), (w12, .inl (cB, t12n, .inl f12))] (labX cB cC cI cO L0 ua v))) : ∀ (v : LV) (v2 : Int32) (v3 : Int32) (v4 : Int32) (v5 : Int32) (v6 : Int32) (v7 : Int32) (v8 : Int32) (v9 : Int32) (_ : Nat) (_ : Nat → Int32) (t12n : Nat) (t12f : Nat → Int32) (v13 : Int32) (a12 w12 : Nat) (f12 : Nat → Int32) (hx12 : ∀ j, j < t12n → f12 j = t12f j) (hc12 : ascB t12n f12) (kk nn : Nat), fL_law_769 g K0 rec15 rec650  v v2 v3 v4 v5 v6 v7 v8 v9 (kLen 0) (kByt 0) t12n t12f v13 = some out → kk + (0 + B650a) ≤ room_1.cells → nn + (0 + B650b) ≤ room_1.slots → gG p l e room_1 s m args below meth c D A 23 Q kk nn 769 [(0, .ref g.2.2.1), (1, .ref L0), (2, .int v2), (3, .int v3), (4, .int v4), (5, .int v5), (6, .int v6), (7, .int v7), (8, .int v8), (9, .int v9), (11, .ref (g.1 0)), (12, .ref a12), (13, .int v13)] [] (List.append [(a12, .inr (0, [.ref w12, .int 0, .int 0, .int 0])), (w12, .inl (cB, t12n, .inl f12))] (labX cB cC cI cO L0 ua v)) := by
  intro v v2 v3 v4 v5 v6 v7 v8 v9 _ _ t12n t12f v13 a12 w12 f12 hx12 hc12 kk nn hf hb1 hb2
  unfold fL_law_769 at hf
  refine g_iinc C0 (lv' := [(13, .int (v13 + (1 : Int32))), (0, .ref g.2.2.1), (1, .ref L0), (2, .int v2), (3, .int v3), (4, .int v4), (5, .int v5), (6, .int v6), (7, .int v7), (8, .int v8), (9, .int v9), (11, .ref (g.1 0)), (12, .ref a12)]) dL_law_769 12 rfl rfl (by decide) rfl ?_
  refine g_goto C0 (tgt := 650) dL_law_772 (by decide) ?_
  refine g_lv [1, 2, 3, 4, 5, 6, 7, 8, 9, 10, 11, 12, 0] (lv' := [(0, .ref g.2.2.1), (1, .ref L0), (2, .int v2), (3, .int v3), (4, .int v4), (5, .int v5), (6, .int v6), (7, .int v7), (8, .int v8), (9, .int v9), (11, .ref (g.1 0)), (12, .ref a12), (13, .int (v13 + (1 : Int32)))]) rfl ?_
  exact hrec650 v v2 v3 v4 v5 v6 v7 v8 v9 (kLen 0) (kByt 0) t12n t12f (v13 + (1 : Int32)) a12 w12 f12 hx12 hc12 _ _ hf (by omega) (by omega)
set_option maxHeartbeats 8000000 in
set_option maxRecDepth 100000 in
theorem bL_law_650_KW {p : Program} {l : Launch} {e : Env} {s : State} {m : MethodId} {args : Array Value} {below : List Frame} {meth : Method} {c : Code} {D : va_G} {cB cC cI cO : ClassId} {A : Nat → Prop} {g : LG} (C0 : gC RL cL_law 23 (some .boolean) p s m args meth c D (hTy cB cC cI cO) A) (E0 : hLw g A s) (hl0 : l.stackTraces = false) (K0 : Nat → Int32) (hK0 : fJ7_fill_53178 64 (fun _ => 0) (-1 : Int32) = some K0) {Q : State → Prop} (KE : ∀ (lv : List (Nat × Value)) (ws : va_W) (kk nn : Nat), kk ≤ room_1.cells → nn ≤ room_1.slots → gG p l e room_1 s m args below meth c D A 23 Q kk nn 1230 lv [.int 1] ws) (L0 : Nat) (ua : LA) (out : Unit) {B15a B15b : Nat} (rec15 : LV → Int32 → Option (Unit)) (hrec15 : ∀ (v : LV) (v2 : Int32)  (kk nn : Nat), rec15 v v2 = some out → kk + (B15a) ≤ room_1.cells → nn + (B15b) ≤ room_1.slots → gG p l e room_1 s m args below meth c D A 23 Q kk nn 15 [(0, .ref g.2.2.1), (1, .ref L0), (2, .int v2)] [] (List.append [] (labX cB cC cI cO L0 ua v))) : ∀ (n : Nat) (v : LV) (v2 : Int32) (v3 : Int32) (v4 : Int32) (v5 : Int32) (v6 : Int32) (v7 : Int32) (v8 : Int32) (v9 : Int32) (_ : Nat) (_ : Nat → Int32) (t12n : Nat) (t12f : Nat → Int32) (v13 : Int32) (a12 w12 : Nat) (f12 : Nat → Int32) (hx12 : ∀ j, j < t12n → f12 j = t12f j) (hc12 : ascB t12n f12) (kk nn : Nat), fL_law_650 g K0 rec15 n v v2 v3 v4 v5 v6 v7 v8 v9 (kLen 0) (kByt 0) t12n t12f v13 = some out → kk + (n * 206 + (1830 + B15a)) ≤ room_1.cells → nn + (n * 1236 + (25804 + B15b)) ≤ room_1.slots → gG p l e room_1 s m args below meth c D A 23 Q kk nn 650 [(0, .ref g.2.2.1), (1, .ref L0), (2, .int v2), (3, .int v3), (4, .int v4), (5, .int v5), (6, .int v6), (7, .int v7), (8, .int v8), (9, .int v9), (11, .ref (g.1 0)), (12, .ref a12), (13, .int v13)] [] (List.append [(a12, .inr (0, [.ref w12, .int 0, .int 0, .int 0])), (w12, .inl (cB, t12n, .inl f12))] (labX cB cC cI cO L0 ua v)) := by
  intro n
  induction n with
  | zero => intro v v2 v3 v4 v5 v6 v7 v8 v9 _ _ t12n t12f v13 a12 w12 f12 hx12 hc12 kk nn hf hb1 hb2; rw [fL_law_650] at hf; cases hf
  | succ n ih =>
    intro v v2 v3 v4 v5 v6 v7 v8 v9 _ _ t12n t12f v13 a12 w12 f12 hx12 hc12 kk nn hf hb1 hb2
    rw [fL_law_650] at hf
    refine g_iload C0 dL_law_650 12 rfl ?_
    refine g_bipush C0 (v := (6 : Int32)) dL_law_652 (by decide) ?_
    refine g_icmp_ge C0 (tgt := 775) dL_law_654 (by decide) (fun c141 => ?_) (fun c141 => ?_)
    · rw [if_pos c141] at hf
      refine g_aload_n C0 dL_law_775 rfl 1 rfl ?_
      obtain ⟨r142, er142, hf⟩ := hl_bd hf
      refine g_sufi C0 (P := [(a12, .inr (0, [.ref w12, .int 0, .int 0, .int 0])), (w12, .inl (cB, t12n, .inl f12))]) (X := labX cB cC cI cO L0 ua v) (X1 := labX cB cC cI cO L0 ua v) (As := []) (st := []) (mg_size l D cB cC cI cO L0 ua v  r142 er142) hmX6_size q_197 ⟨Nat.le_of_ble_eq_true rfl, Nat.le_of_ble_eq_true rfl⟩ ⟨by omega, by omega⟩ rfl rfl rfl rfl rfl 0 rfl rfl rfl (Nat.le_of_ble_eq_true rfl) dL_law_776 ?_
      refine g_iload C0 dL_law_779 4 rfl ?_
      refine g_icmp_ne C0 (tgt := 944) dL_law_781 (by decide) (fun c143 => ?_) (fun c143 => ?_)
      · rw [if_neg c143] at hf
        refine g_iconst C0 (v := (0 : Int32)) dL_law_944 (by decide) ?_
        cases hf
      · rw [if_pos c143] at hf
        refine g_aload_n C0 dL_law_784 rfl 1 rfl ?_
        obtain ⟨r144, er144, hf⟩ := hl_bd hf
        refine g_sufi C0 (P := [(a12, .inr (0, [.ref w12, .int 0, .int 0, .int 0])), (w12, .inl (cB, t12n, .inl f12))]) (X := labX cB cC cI cO L0 ua v) (X1 := labX cB cC cI cO L0 ua v) (As := []) (st := []) (mg_tombstones l D cB cC cI cO L0 ua v  r144 er144) hmX6_tombstones q_205 ⟨Nat.le_of_ble_eq_true rfl, Nat.le_of_ble_eq_true rfl⟩ ⟨by omega, by omega⟩ rfl rfl rfl rfl rfl 0 rfl rfl rfl (Nat.le_of_ble_eq_true rfl) dL_law_785 ?_
        refine g_iload C0 dL_law_788 5 rfl ?_
        refine g_icmp_ne C0 (tgt := 944) dL_law_790 (by decide) (fun c145 => ?_) (fun c145 => ?_)
        · rw [if_neg c145] at hf
          refine g_iconst C0 (v := (0 : Int32)) dL_law_944 (by decide) ?_
          cases hf
        · rw [if_pos c145] at hf
          refine g_aload_n C0 dL_law_793 rfl 1 rfl ?_
          obtain ⟨r146, er146, hf⟩ := hl_bd hf
          refine g_sufi C0 (P := [(a12, .inr (0, [.ref w12, .int 0, .int 0, .int 0])), (w12, .inl (cB, t12n, .inl f12))]) (X := labX cB cC cI cO L0 ua v) (X1 := labX cB cC cI cO L0 ua v) (As := []) (st := []) (mg_clusters l D cB cC cI cO L0 ua v  r146 er146) hmX6_clusters q_449 ⟨Nat.le_of_ble_eq_true rfl, Nat.le_of_ble_eq_true rfl⟩ ⟨by omega, by omega⟩ rfl rfl rfl rfl rfl 0 rfl rfl rfl (Nat.le_of_ble_eq_true rfl) dL_law_794 ?_
          refine g_iload C0 dL_law_797 6 rfl ?_
          refine g_icmp_ne C0 (tgt := 944) dL_law_799 (by decide) (fun c147 => ?_) (fun c147 => ?_)
          · rw [if_neg c147] at hf
            refine g_iconst C0 (v := (0 : Int32)) dL_law_944 (by decide) ?_
            cases hf
          · rw [if_pos c147] at hf
            refine g_aload_n C0 dL_law_802 rfl 1 rfl ?_
            obtain ⟨r148, er148, hf⟩ := hl_bd hf
            refine g_sufi C0 (P := [(a12, .inr (0, [.ref w12, .int 0, .int 0, .int 0])), (w12, .inl (cB, t12n, .inl f12))]) (X := labX cB cC cI cO L0 ua v) (X1 := labX cB cC cI cO L0 ua v) (As := []) (st := []) (mg_largestCluster l D cB cC cI cO L0 ua v  r148 er148) hmX6_largestCluster q_468 ⟨Nat.le_of_ble_eq_true rfl, Nat.le_of_ble_eq_true rfl⟩ ⟨by omega, by omega⟩ rfl rfl rfl rfl rfl 0 rfl rfl rfl (Nat.le_of_ble_eq_true rfl) dL_law_803 ?_
            refine g_iload C0 dL_law_806 7 rfl ?_
            refine g_icmp_ne C0 (tgt := 944) dL_law_808 (by decide) (fun c149 => ?_) (fun c149 => ?_)
            · rw [if_neg c149] at hf
              refine g_iconst C0 (v := (0 : Int32)) dL_law_944 (by decide) ?_
              cases hf
            · rw [if_pos c149] at hf
              refine g_aload_n C0 dL_law_811 rfl 1 rfl ?_
              obtain ⟨r150, er150, hf⟩ := hl_bd hf
              refine g_sufi C0 (P := [(a12, .inr (0, [.ref w12, .int 0, .int 0, .int 0])), (w12, .inl (cB, t12n, .inl f12))]) (X := labX cB cC cI cO L0 ua v) (X1 := labX cB cC cI cO L0 ua v) (As := []) (st := []) (mg_largestClusterByHalves l D cB cC cI cO L0 ua v  r150 er150) hmX6_largestClusterByHalves q_478 ⟨Nat.le_of_ble_eq_true rfl, Nat.le_of_ble_eq_true rfl⟩ ⟨by omega, by omega⟩ rfl rfl rfl rfl rfl 0 rfl rfl rfl (Nat.le_of_ble_eq_true rfl) dL_law_812 ?_
              refine g_iload C0 dL_law_815 7 rfl ?_
              refine g_icmp_ne C0 (tgt := 944) dL_law_817 (by decide) (fun c151 => ?_) (fun c151 => ?_)
              · rw [if_neg c151] at hf
                refine g_iconst C0 (v := (0 : Int32)) dL_law_944 (by decide) ?_
                cases hf
              · rw [if_pos c151] at hf
                refine g_aload_n C0 dL_law_820 rfl 1 rfl ?_
                obtain ⟨r152, er152, hf⟩ := hl_bd hf
                refine g_hSi C0 E0 (P := [(a12, .inr (0, [.ref w12, .int 0, .int 0, .int 0])), (w12, .inl (cB, t12n, .inl f12))]) (X := labX cB cC cI cO L0 ua v) (X1 := labX cB cC cI cO L0 ua v) (As := [.ref L0]) (st := []) (mL_hardestKey l hl0 D cB cC cI cO g L0 ua v  r152 er152) hmL_hardestKey q_728 ⟨Nat.le_of_ble_eq_true rfl, Nat.le_of_ble_eq_true rfl⟩ rfl rfl ⟨by omega, by omega⟩ rfl rfl rfl rfl (Nat.le_of_ble_eq_true rfl) dL_law_821 ?_
                refine g_iload C0 dL_law_824 9 rfl ?_
                refine g_icmp_ne C0 (tgt := 944) dL_law_826 (by decide) (fun c153 => ?_) (fun c153 => ?_)
                · rw [if_neg c153] at hf
                  refine g_iconst C0 (v := (0 : Int32)) dL_law_944 (by decide) ?_
                  cases hf
                · rw [if_pos c153] at hf
                  refine g_aload_n C0 dL_law_829 rfl 1 rfl ?_
                  refine g_iload C0 dL_law_830 4 rfl ?_
                  obtain ⟨r154, er154, hf⟩ := hl_bd hf
                  refine g_hSi C0 E0 (P := [(a12, .inr (0, [.ref w12, .int 0, .int 0, .int 0])), (w12, .inl (cB, t12n, .inl f12))]) (X := labX cB cC cI cO L0 ua v) (X1 := labX cB cC cI cO L0 ua v) (As := [.ref L0, .int v4]) (st := []) (mL_keyAt l hl0 D cB cC cI cO g L0 ua v v4 r154 er154) hmL_keyAt q_725 ⟨Nat.le_of_ble_eq_true rfl, Nat.le_of_ble_eq_true rfl⟩ rfl rfl ⟨by omega, by omega⟩ rfl rfl rfl rfl (Nat.le_of_ble_eq_true rfl) dL_law_832 ?_
                  refine g_sipush C0 (v := (-30000 : Int32)) dL_law_835 (by decide) ?_
                  refine g_icmp_ne C0 (tgt := 944) dL_law_838 (by decide) (fun c155 => ?_) (fun c155 => ?_)
                  · rw [if_neg c155] at hf
                    refine g_iconst C0 (v := (0 : Int32)) dL_law_944 (by decide) ?_
                    cases hf
                  · rw [if_pos c155] at hf
                    refine g_aload_n C0 dL_law_841 rfl 1 rfl ?_
                    obtain ⟨r156, er156, hf⟩ := hl_bd hf
                    refine g_sufi C0 (P := [(a12, .inr (0, [.ref w12, .int 0, .int 0, .int 0])), (w12, .inl (cB, t12n, .inl f12))]) (X := labX cB cC cI cO L0 ua v) (X1 := labX cB cC cI cO L0 ua r156.2) (As := []) (st := []) (mg_isConsistent l D cB cC cI cO L0 ua v  r156 er156) hmX6_isConsistent q_600 ⟨Nat.le_of_ble_eq_true rfl, Nat.le_of_ble_eq_true rfl⟩ ⟨by omega, by omega⟩ rfl rfl rfl rfl rfl 0 rfl rfl rfl (Nat.le_of_ble_eq_true rfl) dL_law_842 ?_
                    refine g_if_eq C0 (tgt := 944) dL_law_845 (by decide) (fun c157 => ?_) (fun c157 => ?_)
                    · rw [if_pos c157] at hf
                      refine g_iconst C0 (v := (0 : Int32)) dL_law_944 (by decide) ?_
                      cases hf
                    · rw [if_neg c157] at hf
                      refine g_aload_n C0 dL_law_848 rfl 1 rfl ?_
                      obtain ⟨r158, er158, hf⟩ := hl_bd hf
                      refine g_sufi C0 (P := [(a12, .inr (0, [.ref w12, .int 0, .int 0, .int 0])), (w12, .inl (cB, t12n, .inl f12))]) (X := labX cB cC cI cO L0 ua r156.2) (X1 := labX cB cC cI cO L0 ua r156.2) (As := []) (st := []) (mg_growths l D cB cC cI cO L0 ua r156.2  r158 er158) hmX6_growths q_221 ⟨Nat.le_of_ble_eq_true rfl, Nat.le_of_ble_eq_true rfl⟩ ⟨by omega, by omega⟩ rfl rfl rfl rfl rfl 0 rfl rfl rfl (Nat.le_of_ble_eq_true rfl) dL_law_849 ?_
                      refine g_aload_n C0 dL_law_852 rfl 1 rfl ?_
                      obtain ⟨r159, er159, hf⟩ := hl_bd hf
                      refine g_sufi C0 (P := [(a12, .inr (0, [.ref w12, .int 0, .int 0, .int 0])), (w12, .inl (cB, t12n, .inl f12))]) (X := labX cB cC cI cO L0 ua r156.2) (X1 := labX cB cC cI cO L0 ua r156.2) (As := []) (st := [.int r158]) (mg_rebuilds l D cB cC cI cO L0 ua r156.2  r159 er159) hmX6_rebuilds q_217 ⟨Nat.le_of_ble_eq_true rfl, Nat.le_of_ble_eq_true rfl⟩ ⟨by omega, by omega⟩ rfl rfl rfl rfl rfl 0 rfl rfl rfl (Nat.le_of_ble_eq_true rfl) dL_law_853 ?_
                      refine g_icmp_gt C0 (tgt := 944) dL_law_856 (by decide) (fun c160 => ?_) (fun c160 => ?_)
                      · rw [if_pos c160] at hf
                        refine g_iconst C0 (v := (0 : Int32)) dL_law_944 (by decide) ?_
                        cases hf
                      · rw [if_neg c160] at hf
                        refine g_aload_n C0 dL_law_859 rfl 1 rfl ?_
                        obtain ⟨r161, er161, hf⟩ := hl_bd hf
                        refine g_sufi C0 (P := [(a12, .inr (0, [.ref w12, .int 0, .int 0, .int 0])), (w12, .inl (cB, t12n, .inl f12))]) (X := labX cB cC cI cO L0 ua r156.2) (X1 := labX cB cC cI cO L0 ua r156.2) (As := []) (st := []) (mg_isNearLimit l D cB cC cI cO L0 ua r156.2  r161 er161) hmX6_isNearLimit q_225 ⟨Nat.le_of_ble_eq_true rfl, Nat.le_of_ble_eq_true rfl⟩ ⟨by omega, by omega⟩ rfl rfl rfl rfl rfl 0 rfl rfl rfl (Nat.le_of_ble_eq_true rfl) dL_law_860 ?_
                        refine g_bipush C0 (v := (100 : Int32)) dL_law_863 (by decide) ?_
                        refine g_iload C0 dL_law_865 4 rfl ?_
                        refine g_iload C0 dL_law_867 5 rfl ?_
                        refine g_iadd C0 dL_law_869 ?_
                        refine g_iconst C0 (v := (1 : Int32)) dL_law_870 (by decide) ?_
                        refine g_iadd C0 dL_law_871 ?_
                        refine g_imul C0 dL_law_872 ?_
                        refine g_aload_n C0 dL_law_873 rfl 1 rfl ?_
                        obtain ⟨r162, er162, hf⟩ := hl_bd hf
                        refine g_sufi C0 (P := [(a12, .inr (0, [.ref w12, .int 0, .int 0, .int 0])), (w12, .inl (cB, t12n, .inl f12))]) (X := labX cB cC cI cO L0 ua r156.2) (X1 := labX cB cC cI cO L0 ua r156.2) (As := []) (st := [.int ((100 : Int32) * ((v4 + v5) + (1 : Int32))), .int r161]) (mg_limit l D cB cC cI cO L0 ua r156.2  r162 er162) hmX6_limit q_213 ⟨Nat.le_of_ble_eq_true rfl, Nat.le_of_ble_eq_true rfl⟩ ⟨by omega, by omega⟩ rfl rfl rfl rfl rfl 0 rfl rfl rfl (Nat.le_of_ble_eq_true rfl) dL_law_874 ?_
                        refine g_iload_n C0 dL_law_877 rfl 3 rfl ?_
                        refine g_imul C0 dL_law_878 ?_
                        refine g_icmp_le C0 (tgt := 886) dL_law_879 (by decide) (fun c163 => ?_) (fun c163 => ?_)
                        · rw [if_pos c163] at hf
                          refine g_iconst C0 (v := (0 : Int32)) dL_law_886 (by decide) ?_
                          refine g_lv [0, 1, 2, 3, 4, 8, 10, 11] (lv' := [(0, .ref g.2.2.1), (1, .ref L0), (2, .int v2), (3, .int v3), (4, .int v4), (8, .int v8), (11, .ref (g.1 0)), (12, .ref a12)]) rfl ?_
                          exact bL_law_887_KW C0 E0 hl0 K0 hK0 KE L0 ua out rec15 hrec15   r156.2 v2 v3 v4 v8 (kLen 0) (kByt 0) t12n t12f (0 : Int32) r161 a12 w12 f12 hx12 hc12 _ _ hf (by omega) (by omega)
                        · rw [if_neg c163] at hf
                          refine g_iconst C0 (v := (1 : Int32)) dL_law_882 (by decide) ?_
                          refine g_goto C0 (tgt := 887) dL_law_883 (by decide) ?_
                          refine g_lv [0, 1, 2, 3, 4, 8, 10, 11] (lv' := [(0, .ref g.2.2.1), (1, .ref L0), (2, .int v2), (3, .int v3), (4, .int v4), (8, .int v8), (11, .ref (g.1 0)), (12, .ref a12)]) rfl ?_
                          exact bL_law_887_KW C0 E0 hl0 K0 hK0 KE L0 ua out rec15 hrec15   r156.2 v2 v3 v4 v8 (kLen 0) (kByt 0) t12n t12f (1 : Int32) r161 a12 w12 f12 hx12 hc12 _ _ hf (by omega) (by omega)
    · rw [if_neg c141] at hf
      refine g_aload_n C0 dL_law_657 rfl 0 rfl ?_
      refine g_bipush C0 (v := (90 : Int32)) dL_law_658 (by decide) ?_
      refine g_bipush C0 (v := (6 : Int32)) dL_law_660 (by decide) ?_
      refine g_iload_n C0 dL_law_662 rfl 2 rfl ?_
      refine g_imul C0 dL_law_663 ?_
      refine g_iadd C0 dL_law_664 ?_
      refine g_iload C0 dL_law_665 12 rfl ?_
      refine g_iadd C0 dL_law_667 ?_
      refine g_sipush C0 (v := (10000 : Int32)) dL_law_668 (by decide) ?_
      obtain ⟨r164, er164, hf⟩ := hl_bd hf
      refine g_l0i C0 E0 (mL_some l hl0 D cB cC cI cO g (((90 : Int32) + ((6 : Int32) * v2)) + v13) (10000 : Int32) r164 er164) hmL_some q_667 ⟨Nat.le_of_ble_eq_true rfl, Nat.le_of_ble_eq_true rfl⟩ rfl rfl ⟨by omega, by omega⟩ rfl rfl (Nat.le_of_ble_eq_true rfl) dL_law_671 ?_
      refine g_istore C0 (lv' := [(14, .int r164), (0, .ref g.2.2.1), (1, .ref L0), (2, .int v2), (3, .int v3), (4, .int v4), (5, .int v5), (6, .int v6), (7, .int v7), (8, .int v8), (9, .int v9), (11, .ref (g.1 0)), (12, .ref a12), (13, .int v13)]) dL_law_674 (by decide) rfl ?_
      refine g_aload_n C0 dL_law_676 rfl 1 rfl ?_
      refine g_bipush C0 (v := (110 : Int32)) dL_law_677 (by decide) ?_
      refine g_iload C0 dL_law_679 13 rfl ?_
      refine g_iadd C0 dL_law_681 ?_
      refine g_iload_n C0 dL_law_682 rfl 4 rfl ?_
      obtain ⟨r165, er165, hf⟩ := hl_bd hf
      refine g_l0i C0 E0 (mL_some l hl0 D cB cC cI cO g ((110 : Int32) + v13) v3 r165 er165) hmL_some q_667 ⟨Nat.le_of_ble_eq_true rfl, Nat.le_of_ble_eq_true rfl⟩ rfl rfl ⟨by omega, by omega⟩ rfl rfl (Nat.le_of_ble_eq_true rfl) dL_law_683 ?_
      refine g_istore C0 (lv' := [(15, .int r165), (14, .int r164), (0, .ref g.2.2.1), (1, .ref L0), (2, .int v2), (3, .int v3), (4, .int v4), (5, .int v5), (6, .int v6), (7, .int v7), (8, .int v8), (9, .int v9), (11, .ref (g.1 0)), (12, .ref a12), (13, .int v13)]) dL_law_686 (by decide) rfl ?_
      refine g_aload_n C0 dL_law_688 rfl 3 rfl ?_
      refine g_iload C0 dL_law_689 1 rfl ?_
      refine g_iload C0 dL_law_691 0 rfl ?_
      obtain ⟨r166, er166, hf⟩ := hl_bd hf
      obtain ⟨z167, ez167, hf⟩ := hl_inl hf
      have kr166 := mg_probe l hl0 D cB cC cI cO L0 ua v r164 r165 r166 er166
      rw [ez167] at kr166
      refine g_sufNi C0 E0.1.1 (P := [(a12, .inr (0, [.ref w12, .int 0, .int 0, .int 0])), (w12, .inl (cB, t12n, .inl f12))]) (X := labX cB cC cI cO L0 ua v) (X1 := labX cB cC cI cO L0 ua v) (As := [.int r164, .int r165]) (st := []) kr166 hmX6_probe q_364 ⟨Nat.le_of_ble_eq_true rfl, Nat.le_of_ble_eq_true rfl⟩ ⟨by omega, by omega⟩ rfl rfl rfl rfl rfl 0 rfl rfl rfl (Nat.le_of_ble_eq_true rfl) dL_law_693 ?_
      refine g_aload_n C0 dL_law_696 rfl 3 rfl ?_
      refine g_iload C0 dL_law_697 1 rfl ?_
      refine g_iload C0 dL_law_699 0 rfl ?_
      obtain ⟨r168, er168, hf⟩ := hl_bd hf
      refine g_lSi C0 E0 (P := [(a12, .inr (0, [.ref w12, .int 0, .int 0, .int 0])), (w12, .inl (cB, t12n, .inl f12))]) (X := labX cB cC cI cO L0 ua v) (X1 := labX cB cC cI cO L0 ua v) (As := [.ref L0, .int r164, .int r165]) (st := [.int z167]) (mL_slot l hl0 D cB cC cI cO g L0 ua v r164 r165 r168 er168) hmL_slot q_820 ⟨Nat.le_of_ble_eq_true rfl, Nat.le_of_ble_eq_true rfl⟩ rfl rfl ⟨by omega, by omega⟩ rfl rfl rfl rfl (Nat.le_of_ble_eq_true rfl) dL_law_701 ?_
      refine g_icmp_ne C0 (tgt := 767) dL_law_704 (by decide) (fun c169 => ?_) (fun c169 => ?_)
      · rw [if_neg c169] at hf
        refine g_iconst C0 (v := (0 : Int32)) dL_law_767 (by decide) ?_
        cases hf
      · rw [if_pos c169] at hf
        refine g_aload_n C0 dL_law_707 rfl 3 rfl ?_
        refine g_iload C0 dL_law_708 1 rfl ?_
        obtain ⟨r170, er170, hf⟩ := hl_bd hf
        obtain ⟨z171, ez171, hf⟩ := hl_inl hf
        have kr170 := mg_probes l hl0 D cB cC cI cO L0 ua v r164 r170 er170
        rw [ez171] at kr170
        refine g_sufNi C0 E0.1.1 (P := [(a12, .inr (0, [.ref w12, .int 0, .int 0, .int 0])), (w12, .inl (cB, t12n, .inl f12))]) (X := labX cB cC cI cO L0 ua v) (X1 := labX cB cC cI cO L0 ua v) (As := [.int r164]) (st := []) kr170 hmX6_probes q_412 ⟨Nat.le_of_ble_eq_true rfl, Nat.le_of_ble_eq_true rfl⟩ ⟨by omega, by omega⟩ rfl rfl rfl rfl rfl 0 rfl rfl rfl (Nat.le_of_ble_eq_true rfl) dL_law_710 ?_
        refine g_aload_n C0 dL_law_713 rfl 3 rfl ?_
        refine g_iload C0 dL_law_714 1 rfl ?_
        obtain ⟨r172, er172, hf⟩ := hl_bd hf
        refine g_lSi C0 E0 (P := [(a12, .inr (0, [.ref w12, .int 0, .int 0, .int 0])), (w12, .inl (cB, t12n, .inl f12))]) (X := labX cB cC cI cO L0 ua v) (X1 := labX cB cC cI cO L0 ua v) (As := [.ref L0, .int r164]) (st := [.int z171]) (mL_examined l hl0 D cB cC cI cO g L0 ua v r164 r172 er172) hmL_examined q_829 ⟨Nat.le_of_ble_eq_true rfl, Nat.le_of_ble_eq_true rfl⟩ rfl rfl ⟨by omega, by omega⟩ rfl rfl rfl rfl (Nat.le_of_ble_eq_true rfl) dL_law_716 ?_
        refine g_icmp_ne C0 (tgt := 767) dL_law_719 (by decide) (fun c173 => ?_) (fun c173 => ?_)
        · rw [if_neg c173] at hf
          refine g_iconst C0 (v := (0 : Int32)) dL_law_767 (by decide) ?_
          cases hf
        · rw [if_pos c173] at hf
          refine g_aload_n C0 dL_law_722 rfl 3 rfl ?_
          refine g_iload C0 dL_law_723 1 rfl ?_
          obtain ⟨r174, er174, hf⟩ := hl_bd hf
          obtain ⟨z175, ez175, hf⟩ := hl_inl hf
          have kr174 := mg_step l hl0 D cB cC cI cO L0 ua v r164 r174 er174
          rw [ez175] at kr174
          refine g_sufNi C0 E0.1.1 (P := [(a12, .inr (0, [.ref w12, .int 0, .int 0, .int 0])), (w12, .inl (cB, t12n, .inl f12))]) (X := labX cB cC cI cO L0 ua v) (X1 := labX cB cC cI cO L0 ua v) (As := [.int r164]) (st := []) kr174 hmX6_step q_406 ⟨Nat.le_of_ble_eq_true rfl, Nat.le_of_ble_eq_true rfl⟩ ⟨by omega, by omega⟩ rfl rfl rfl rfl rfl 0 rfl rfl rfl (Nat.le_of_ble_eq_true rfl) dL_law_725 ?_
          refine g_iconst C0 (v := (2 : Int32)) dL_law_728 (by decide) ?_
          refine g_irem C0 dL_law_729 (by decide) ?_
          refine g_iconst C0 (v := (1 : Int32)) dL_law_730 (by decide) ?_
          refine g_icmp_ne C0 (tgt := 767) dL_law_731 (by decide) (fun c176 => ?_) (fun c176 => ?_)
          · rw [if_neg c176] at hf
            refine g_iconst C0 (v := (0 : Int32)) dL_law_767 (by decide) ?_
            cases hf
          · rw [if_pos c176] at hf
            refine g_aload_n C0 dL_law_734 rfl 3 rfl ?_
            refine g_iload C0 dL_law_735 1 rfl ?_
            obtain ⟨r177, er177, hf⟩ := hl_bd hf
            refine g_sufi C0 (P := [(a12, .inr (0, [.ref w12, .int 0, .int 0, .int 0])), (w12, .inl (cB, t12n, .inl f12))]) (X := labX cB cC cI cO L0 ua v) (X1 := labX cB cC cI cO L0 ua v) (As := [.int r164]) (st := []) (mg_contains l D cB cC cI cO L0 ua v r164 r177 er177) hmX6_contains q_237 ⟨Nat.le_of_ble_eq_true rfl, Nat.le_of_ble_eq_true rfl⟩ ⟨by omega, by omega⟩ rfl rfl rfl rfl rfl 0 rfl rfl rfl (Nat.le_of_ble_eq_true rfl) dL_law_737 ?_
            refine g_if_ne C0 (tgt := 769) dL_law_740 (by decide) (fun c178 => ?_) (fun c178 => ?_)
            · rw [if_neg c178] at hf
              refine g_lv [2, 3, 4, 5, 6, 7, 8, 9, 10, 11, 12, 13, 14] (lv' := [(0, .ref g.2.2.1), (1, .ref L0), (2, .int v2), (3, .int v3), (4, .int v4), (5, .int v5), (6, .int v6), (7, .int v7), (8, .int v8), (9, .int v9), (11, .ref (g.1 0)), (12, .ref a12), (13, .int v13)]) rfl ?_
              exact bL_law_769_KW C0 E0 hl0 K0 hK0 KE L0 ua out rec15 (fL_law_650 g K0 rec15 n) hrec15 ih   v v2 v3 v4 v5 v6 v7 v8 v9 (kLen 0) (kByt 0) t12n t12f v13 a12 w12 f12 hx12 hc12 _ _ hf (by omega) (by omega)
            · rw [if_pos c178] at hf
              refine g_aload_n C0 dL_law_743 rfl 3 rfl ?_
              refine g_iload C0 dL_law_744 1 rfl ?_
              obtain ⟨r179, er179, hf⟩ := hl_bd hf
              refine g_hSi C0 E0 (P := [(a12, .inr (0, [.ref w12, .int 0, .int 0, .int 0])), (w12, .inl (cB, t12n, .inl f12))]) (X := labX cB cC cI cO L0 ua v) (X1 := labX cB cC cI cO L0 ua v) (As := [.ref L0, .int r164]) (st := []) (mL_get l hl0 D cB cC cI cO g L0 ua v r164 r179 er179) hmL_get q_718 ⟨Nat.le_of_ble_eq_true rfl, Nat.le_of_ble_eq_true rfl⟩ rfl rfl ⟨by omega, by omega⟩ rfl rfl rfl rfl (Nat.le_of_ble_eq_true rfl) dL_law_746 ?_
              refine g_sipush C0 (v := (-30000 : Int32)) dL_law_749 (by decide) ?_
              refine g_icmp_ne C0 (tgt := 767) dL_law_752 (by decide) (fun c180 => ?_) (fun c180 => ?_)
              · rw [if_neg c180] at hf
                refine g_iconst C0 (v := (0 : Int32)) dL_law_767 (by decide) ?_
                cases hf
              · rw [if_pos c180] at hf
                refine g_aload_n C0 dL_law_755 rfl 3 rfl ?_
                refine g_iload C0 dL_law_756 1 rfl ?_
                obtain ⟨r181, er181, hf⟩ := hl_bd hf
                refine g_hSi C0 E0 (P := [(a12, .inr (0, [.ref w12, .int 0, .int 0, .int 0])), (w12, .inl (cB, t12n, .inl f12))]) (X := labX cB cC cI cO L0 ua v) (X1 := labX cB cC cI cO L0 ua v) (As := [.ref L0, .int r164]) (st := []) (mL_probesBySlot l hl0 D cB cC cI cO g L0 ua v r164 r181 er181) hmL_probesBySlot q_722 ⟨Nat.le_of_ble_eq_true rfl, Nat.le_of_ble_eq_true rfl⟩ rfl rfl ⟨by omega, by omega⟩ rfl rfl rfl rfl (Nat.le_of_ble_eq_true rfl) dL_law_758 ?_
                refine g_sipush C0 (v := (-30000 : Int32)) dL_law_761 (by decide) ?_
                refine g_icmp_eq C0 (tgt := 769) dL_law_764 (by decide) (fun c182 => ?_) (fun c182 => ?_)
                · rw [if_pos c182] at hf
                  refine g_lv [2, 3, 4, 5, 6, 7, 8, 9, 10, 11, 12, 13, 14] (lv' := [(0, .ref g.2.2.1), (1, .ref L0), (2, .int v2), (3, .int v3), (4, .int v4), (5, .int v5), (6, .int v6), (7, .int v7), (8, .int v8), (9, .int v9), (11, .ref (g.1 0)), (12, .ref a12), (13, .int v13)]) rfl ?_
                  exact bL_law_769_KW C0 E0 hl0 K0 hK0 KE L0 ua out rec15 (fL_law_650 g K0 rec15 n) hrec15 ih   v v2 v3 v4 v5 v6 v7 v8 v9 (kLen 0) (kByt 0) t12n t12f v13 a12 w12 f12 hx12 hc12 _ _ hf (by omega) (by omega)
                · rw [if_neg c182] at hf
                  refine g_iconst C0 (v := (0 : Int32)) dL_law_767 (by decide) ?_
                  cases hf
