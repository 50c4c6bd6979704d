/-! the law, walked: 13 -/
set_option maxHeartbeats 8000000 in
set_option maxRecDepth 100000 in
theorem bL_law_476_WK {p : Program} {l : Launch} {e : Env} {s : State} {m : MethodId} {args : Array Value} {below : List Frame} {meth : Method} {c : Code} {D : va_G} {cB cC cI cO : ClassId} {A : Nat → Prop} {g : LG} (C0 : gC RL cL_law 23 (some .boolean) p s m args meth c D (hTy cB cC cI cO) A) (E0 : hLw g A s) (hl0 : l.stackTraces = false) (K0 : Nat → Int32) (hK0 : fJ7_fill_53178 64 (fun _ => 0) (-1 : Int32) = some K0) {Q : State → Prop} (KE : ∀ (lv : List (Nat × Value)) (ws : va_W) (kk nn : Nat), kk ≤ room_1.cells → nn ≤ room_1.slots → gG p l e room_1 s m args below meth c D A 23 Q kk nn 1230 lv [.int 1] ws) (L0 : Nat) (ua : LA) (out : Unit) {B15a B15b : Nat} {B59a B59b : Nat} (rec15 : LV → Int32 → Option (Unit)) (rec59 : LV → Int32 → Int32 → Int32 → Int32 → Int32 → Int32 → Int32 → Int32 → Int32 → Nat → (Nat → Int32) → Nat → (Nat → Int32) → Int32 → Option (Unit)) (hrec15 : ∀ (v : LV) (v2 : Int32)  (kk nn : Nat), rec15 v v2 = some out → kk + (B15a) ≤ room_1.cells → nn + (B15b) ≤ room_1.slots → gG p l e room_1 s m args below meth c D A 23 Q kk nn 15 [(0, .ref g.2.2.1), (1, .ref L0), (2, .int v2)] [] (List.append [] (labX cB cC cI cO L0 ua v))) (hrec59 : ∀ (v : LV) (v2 : Int32) (v3 : Int32) (v4 : Int32) (v5 : Int32) (v6 : Int32) (v7 : Int32) (v8 : Int32) (v9 : Int32) (v10 : Int32) (t11n : Nat) (t11f : Nat → Int32) (_ : Nat) (_ : Nat → Int32) (v13 : Int32) (a11 w11 : Nat) (f11 : Nat → Int32) (hx11 : ∀ j, j < t11n → f11 j = t11f j) (hc11 : ascB t11n f11) (kk nn : Nat), rec59 v v2 v3 v4 v5 v6 v7 v8 v9 v10 t11n t11f (kLen 0) (kByt 0) v13 = some out → kk + (B59a) ≤ room_1.cells → nn + (B59b) ≤ room_1.slots → gG p l e room_1 s m args below meth c D A 23 Q kk nn 59 [(0, .ref g.2.2.1), (1, .ref L0), (2, .int v2), (3, .int v3), (4, .int v4), (5, .int v5), (6, .int v6), (7, .int v7), (8, .int v8), (9, .int v9), (10, .int v10), (11, .ref a11), (12, .ref (g.1 0)), (13, .int v13)] [] (List.append [(a11, .inr (0, [.ref w11, .int 0, .int 0, .int 0])), (w11, .inl (cB, t11n, .inl f11))] (labX cB cC cI cO L0 ua v))) : ∀ (v : LV) (v2 : Int32) (v3 : Int32) (v4 : Int32) (v5 : Int32) (v6 : Int32) (v7 : Int32) (v8 : Int32) (v10 : Int32) (t11n : Nat) (t11f : Nat → Int32) (_ : Nat) (_ : Nat → Int32) (v13 : Int32) (v14 : Int32) (v18 : Int32) (k0 : Int32) (a11 w11 : Nat) (f11 : Nat → Int32) (hx11 : ∀ j, j < t11n → f11 j = t11f j) (hc11 : ascB t11n f11) (kk nn : Nat), fL_law_476 g K0 rec15 rec59  v v2 v3 v4 v5 v6 v7 v8 v10 t11n t11f (kLen 0) (kByt 0) v13 v14 v18 k0 = some out → kk + (3 + B59a) ≤ room_1.cells → nn + (18 + B59b) ≤ room_1.slots → gG p l e room_1 s m args below meth c D A 23 Q kk nn 476 [(0, .ref g.2.2.1), (1, .ref L0), (2, .int v2), (3, .int v3), (4, .int v4), (5, .int v5), (6, .int v6), (7, .int v7), (8, .int v8), (10, .int v10), (11, .ref a11), (12, .ref (g.1 0)), (13, .int v13), (14, .int v14), (18, .int v18)] [.int k0] (List.append [(a11, .inr (0, [.ref w11, .int 0, .int 0, .int 0])), (w11, .inl (cB, t11n, .inl f11))] (labX cB cC cI cO L0 ua v)) := by
  intro v v2 v3 v4 v5 v6 v7 v8 v10 t11n t11f _ _ v13 v14 v18 k0 a11 w11 f11 hx11 hc11 kk nn hf hb1 hb2
  unfold fL_law_476 at hf
  refine g_istore C0 (lv' := [(9, .int k0), (0, .ref g.2.2.1), (1, .ref L0), (2, .int v2), (3, .int v3), (4, .int v4), (5, .int v5), (6, .int v6), (7, .int v7), (8, .int v8), (10, .int v10), (11, .ref a11), (12, .ref (g.1 0)), (13, .int v13), (14, .int v14), (18, .int v18)]) dL_law_476 (by decide) rfl ?_
  refine g_iload C0 dL_law_478 10 rfl ?_
  refine g_iload C0 dL_law_480 15 rfl ?_
  refine g_mmax C0 q_912 q_476 q_22 q_477 (Nat.le_of_ble_eq_true rfl) ⟨by omega, by omega⟩ (Nat.le_of_ble_eq_true rfl) dL_law_482 ?_
  refine g_istore C0 (lv' := [(10, .int (if v10 < v18 then v18 else v10)), (9, .int k0), (0, .ref g.2.2.1), (1, .ref L0), (2, .int v2), (3, .int v3), (4, .int v4), (5, .int v5), (6, .int v6), (7, .int v7), (8, .int v8), (11, .ref a11), (12, .ref (g.1 0)), (13, .int v13), (14, .int v14), (18, .int v18)]) dL_law_485 (by decide) rfl ?_
  refine g_aload_n C0 dL_law_487 rfl 3 rfl ?_
  refine g_iload C0 dL_law_488 14 rfl ?_
  obtain ⟨r319, er319, hf⟩ := hl_bd hf
  obtain ⟨z320, ez320, hf⟩ := hl_inl hf
  have kr319 := mg_slotOf l hl0 D cB cC cI cO L0 ua v v14 r319 er319
  rw [ez320] at kr319
  refine g_sufNi C0 E0.1.1 (P := [(a11, .inr (0, [.ref w11, .int 0, .int 0, .int 0])), (w11, .inl (cB, t11n, .inl f11))]) (X := labX cB cC cI cO L0 ua v) (X1 := labX cB cC cI cO L0 ua v) (As := [.int v14]) (st := []) kr319 hmX6_slotOf q_360 ⟨Nat.le_of_ble_eq_true rfl, Nat.le_of_ble_eq_true rfl⟩ ⟨by omega, by omega⟩ rfl rfl rfl rfl rfl 0 rfl rfl rfl (Nat.le_of_ble_eq_true rfl) dL_law_490 ?_
  refine g_iload C0 dL_law_493 13 rfl ?_
  refine g_icmp_ne C0 (tgt := 544) dL_law_495 (by decide) (fun c321 => ?_) (fun c321 => ?_)
  · rw [if_neg c321] at hf
    refine g_iconst C0 (v := (0 : Int32)) dL_law_544 (by decide) ?_
    cases hf
  · rw [if_pos c321] at hf
    refine g_aload_n C0 dL_law_498 rfl 3 rfl ?_
    refine g_iload C0 dL_law_499 14 rfl ?_
    refine g_iload C0 dL_law_501 15 rfl ?_
    refine g_iconst C0 (v := (1 : Int32)) dL_law_503 (by decide) ?_
    refine g_isub C0 dL_law_504 ?_
    obtain ⟨r322, er322, hf⟩ := hl_bd hf
    refine g_lSi C0 E0 (P := [(a11, .inr (0, [.ref w11, .int 0, .int 0, .int 0])), (w11, .inl (cB, t11n, .inl f11))]) (X := labX cB cC cI cO L0 ua v) (X1 := labX cB cC cI cO L0 ua v) (As := [.ref L0, .int v14, .int (v18 - (1 : Int32))]) (st := []) (mL_slot l hl0 D cB cC cI cO g L0 ua v v14 (v18 - (1 : Int32)) r322 er322) hmL_slot q_820 ⟨Nat.le_of_ble_eq_true rfl, Nat.le_of_ble_eq_true rfl⟩ rfl rfl ⟨by omega, by omega⟩ rfl rfl rfl rfl (Nat.le_of_ble_eq_true rfl) dL_law_505 ?_
    refine g_iload C0 dL_law_508 13 rfl ?_
    refine g_icmp_ne C0 (tgt := 544) dL_law_510 (by decide) (fun c323 => ?_) (fun c323 => ?_)
    · rw [if_neg c323] at hf
      refine g_iconst C0 (v := (0 : Int32)) dL_law_544 (by decide) ?_
      cases hf
    · rw [if_pos c323] at hf
      refine g_aload_n C0 dL_law_513 rfl 3 rfl ?_
      refine g_iload C0 dL_law_514 14 rfl ?_
      obtain ⟨r324, er324, hf⟩ := hl_bd hf
      obtain ⟨z325, ez325, hf⟩ := hl_inl hf
      have kr324 := mg_probes l hl0 D cB cC cI cO L0 ua v v14 r324 er324
      rw [ez325] at kr324
      refine g_sufNi C0 E0.1.1 (P := [(a11, .inr (0, [.ref w11, .int 0, .int 0, .int 0])), (w11, .inl (cB, t11n, .inl f11))]) (X := labX cB cC cI cO L0 ua v) (X1 := labX cB cC cI cO L0 ua v) (As := [.int v14]) (st := []) kr324 hmX6_probes q_412 ⟨Nat.le_of_ble_eq_true rfl, Nat.le_of_ble_eq_true rfl⟩ ⟨by omega, by omega⟩ rfl rfl rfl rfl rfl 0 rfl rfl rfl (Nat.le_of_ble_eq_true rfl) dL_law_516 ?_
      refine g_iload C0 dL_law_519 15 rfl ?_
      refine g_icmp_ne C0 (tgt := 544) dL_law_521 (by decide) (fun c326 => ?_) (fun c326 => ?_)
      · rw [if_neg c326] at hf
        refine g_iconst C0 (v := (0 : Int32)) dL_law_544 (by decide) ?_
        cases hf
      · rw [if_pos c326] at hf
        refine g_aload_n C0 dL_law_524 rfl 3 rfl ?_
        refine g_iload C0 dL_law_525 14 rfl ?_
        obtain ⟨r327, er327, hf⟩ := hl_bd hf
        obtain ⟨z328, ez328, hf⟩ := hl_inl hf
        have kr327 := mg_probesBySlot l hl0 D cB cC cI cO L0 ua v v14 r327 er327
        rw [ez328] at kr327
        refine g_sufNi C0 E0.1.1 (P := [(a11, .inr (0, [.ref w11, .int 0, .int 0, .int 0])), (w11, .inl (cB, t11n, .inl f11))]) (X := labX cB cC cI cO L0 ua v) (X1 := labX cB cC cI cO L0 ua v) (As := [.int v14]) (st := []) kr327 hmX6_probesBySlot q_417 ⟨Nat.le_of_ble_eq_true rfl, Nat.le_of_ble_eq_true rfl⟩ ⟨by omega, by omega⟩ rfl rfl rfl rfl rfl 0 rfl rfl rfl (Nat.le_of_ble_eq_true rfl) dL_law_527 ?_
        refine g_iload C0 dL_law_530 15 rfl ?_
        refine g_icmp_ne C0 (tgt := 544) dL_law_532 (by decide) (fun c329 => ?_) (fun c329 => ?_)
        · rw [if_neg c329] at hf
          refine g_iconst C0 (v := (0 : Int32)) dL_law_544 (by decide) ?_
          cases hf
        · rw [if_pos c329] at hf
          refine g_aload_n C0 dL_law_535 rfl 3 rfl ?_
          refine g_iload C0 dL_law_536 14 rfl ?_
          obtain ⟨r330, er330, hf⟩ := hl_bd hf
          refine g_sufi C0 (P := [(a11, .inr (0, [.ref w11, .int 0, .int 0, .int 0])), (w11, .inl (cB, t11n, .inl f11))]) (X := labX cB cC cI cO L0 ua v) (X1 := labX cB cC cI cO L0 ua v) (As := [.int v14]) (st := []) (mg_contains l D cB cC cI cO L0 ua v v14 r330 er330) hmX6_contains q_237 ⟨Nat.le_of_ble_eq_true rfl, Nat.le_of_ble_eq_true rfl⟩ ⟨by omega, by omega⟩ rfl rfl rfl rfl rfl 0 rfl rfl rfl (Nat.le_of_ble_eq_true rfl) dL_law_538 ?_
          refine g_if_ne C0 (tgt := 546) dL_law_541 (by decide) (fun c331 => ?_) (fun c331 => ?_)
          · rw [if_neg c331] at hf
            refine g_lv [2, 3, 4, 5, 6, 7, 8, 9, 10, 1, 0, 11, 12, 13] (lv' := [(0, .ref g.2.2.1), (1, .ref L0), (2, .int v2), (3, .int v3), (4, .int v4), (5, .int v5), (6, .int v6), (7, .int v7), (8, .int v8), (9, .int k0), (10, .int (if v10 < v18 then v18 else v10)), (11, .ref a11), (12, .ref (g.1 0)), (13, .int v13)]) rfl ?_
            exact bL_law_546_WK C0 E0 hl0 K0 hK0 KE L0 ua out rec15 rec59 hrec15 hrec59   v v2 v3 v4 v5 v6 v7 v8 k0 (if v10 < v18 then v18 else v10) t11n t11f (kLen 0) (kByt 0) v13 a11 w11 f11 hx11 hc11 _ _ hf (by omega) (by omega)
          · rw [if_pos c331] at hf
            refine g_iconst C0 (v := (0 : Int32)) dL_law_544 (by decide) ?_
            cases hf
set_option maxHeartbeats 8000000 in
set_option maxRecDepth 100000 in
theorem bL_law_448_WK {p : Program} {l : Launch} {e : Env} {s : State} {m : MethodId} {args : Array Value} {below : List Frame} {meth : Method} {c : Code} {D : va_G} {cB cC cI cO : ClassId} {A : Nat → Prop} {g : LG} (C0 : gC RL cL_law 23 (some .boolean) p s m args meth c D (hTy cB cC cI cO) A) (E0 : hLw g A s) (hl0 : l.stackTraces = false) (K0 : Nat → Int32) (hK0 : fJ7_fill_53178 64 (fun _ => 0) (-1 : Int32) = some K0) {Q : State → Prop} (KE : ∀ (lv : List (Nat × Value)) (ws : va_W) (kk nn : Nat), kk ≤ room_1.cells → nn ≤ room_1.slots → gG p l e room_1 s m args below meth c D A 23 Q kk nn 1230 lv [.int 1] ws) (L0 : Nat) (ua : LA) (out : Unit) {B15a B15b : Nat} {B59a B59b : Nat} (rec15 : LV → Int32 → Option (Unit)) (rec59 : LV → Int32 → Int32 → Int32 → Int32 → Int32 → Int32 → Int32 → Int32 → Int32 → Nat → (Nat → Int32) → Nat → (Nat → Int32) → Int32 → Option (Unit)) (hrec15 : ∀ (v : LV) (v2 : Int32)  (kk nn : Nat), rec15 v v2 = some out → kk + (B15a) ≤ room_1.cells → nn + (B15b) ≤ room_1.slots → gG p l e room_1 s m args below meth c D A 23 Q kk nn 15 [(0, .ref g.2.2.1), (1, .ref L0), (2, .int v2)] [] (List.append [] (labX cB cC cI cO L0 ua v))) (hrec59 : ∀ (v : LV) (v2 : Int32) (v3 : Int32) (v4 : Int32) (v5 : Int32) (v6 : Int32) (v7 : Int32) (v8 : Int32) (v9 : Int32) (v10 : Int32) (t11n : Nat) (t11f : Nat → Int32) (_ : Nat) (_ : Nat → Int32) (v13 : Int32) (a11 w11 : Nat) (f11 : Nat → Int32) (hx11 : ∀ j, j < t11n → f11 j = t11f j) (hc11 : ascB t11n f11) (kk nn : Nat), rec59 v v2 v3 v4 v5 v6 v7 v8 v9 v10 t11n t11f (kLen 0) (kByt 0) v13 = some out → kk + (B59a) ≤ room_1.cells → nn + (B59b) ≤ room_1.slots → gG p l e room_1 s m args below meth c D A 23 Q kk nn 59 [(0, .ref g.2.2.1), (1, .ref L0), (2, .int v2), (3, .int v3), (4, .int v4), (5, .int v5), (6, .int v6), (7, .int v7), (8, .int v8), (9, .int v9), (10, .int v10), (11, .ref a11), (12, .ref (g.1 0)), (13, .int v13)] [] (List.append [(a11, .inr (0, [.ref w11, .int 0, .int 0, .int 0])), (w11, .inl (cB, t11n, .inl f11))] (labX cB cC cI cO L0 ua v))) : ∀ (v : LV) (v2 : Int32) (v3 : Int32) (v4 : Int32) (v5 : Int32) (v6 : Int32) (v7 : Int32) (v8 : Int32) (v9 : Int32) (v10 : Int32) (t11n : Nat) (t11f : Nat → Int32) (_ : Nat) (_ : Nat → Int32) (v13 : Int32) (v14 : Int32) (v18 : Int32) (a11 w11 : Nat) (f11 : Nat → Int32) (hx11 : ∀ j, j < t11n → f11 j = t11f j) (hc11 : ascB t11n f11) (kk nn : Nat), fL_law_448 g K0 rec15 rec59  v v2 v3 v4 v5 v6 v7 v8 v9 v10 t11n t11f (kLen 0) (kByt 0) v13 v14 v18 = some out → kk + (3 + B59a) ≤ room_1.cells → nn + (18 + B59b) ≤ room_1.slots → gG p l e room_1 s m args below meth c D A 23 Q kk nn 448 [(0, .ref g.2.2.1), (1, .ref L0), (2, .int v2), (3, .int v3), (4, .int v4), (5, .int v5), (6, .int v6), (7, .int v7), (8, .int v8), (9, .int v9), (10, .int v10), (11, .ref a11), (12, .ref (g.1 0)), (13, .int v13), (14, .int v14), (18, .int v18)] [] (List.append [(a11, .inr (0, [.ref w11, .int 0, .int 0, .int 0])), (w11, .inl (cB, t11n, .inl f11))] (labX cB cC cI cO L0 ua v)) := by
  intro v v2 v3 v4 v5 v6 v7 v8 v9 v10 t11n t11f _ _ v13 v14 v18 a11 w11 f11 hx11 hc11 kk nn hf hb1 hb2
  unfold fL_law_448 at hf
  refine g_iload C0 dL_law_448 15 rfl ?_
  refine g_iload C0 dL_law_450 10 rfl ?_
  refine g_icmp_gt C0 (tgt := 469) dL_law_452 (by decide) (fun c309 => ?_) (fun c309 => ?_)
  · rw [if_pos c309] at hf
    refine g_iload C0 dL_law_469 14 rfl ?_
    refine g_goto C0 (tgt := 476) dL_law_471 (by decide) ?_
    refine g_lv [0, 1, 2, 3, 4, 5, 6, 7, 8, 10, 11, 12, 13, 14, 15] (lv' := [(0, .ref g.2.2.1), (1, .ref L0), (2, .int v2), (3, .int v3), (4, .int v4), (5, .int v5), (6, .int v6), (7, .int v7), (8, .int v8), (10, .int v10), (11, .ref a11), (12, .ref (g.1 0)), (13, .int v13), (14, .int v14), (18, .int v18)]) rfl ?_
    exact bL_law_476_WK C0 E0 hl0 K0 hK0 KE L0 ua out rec15 rec59 hrec15 hrec59   v v2 v3 v4 v5 v6 v7 v8 v10 t11n t11f (kLen 0) (kByt 0) v13 v14 v18 v14 a11 w11 f11 hx11 hc11 _ _ hf (by omega) (by omega)
  · rw [if_neg c309] at hf
    refine g_iload C0 dL_law_455 15 rfl ?_
    refine g_iload C0 dL_law_457 10 rfl ?_
    refine g_icmp_ne C0 (tgt := 474) dL_law_459 (by decide) (fun c310 => ?_) (fun c310 => ?_)
    · rw [if_neg c310] at hf
      refine g_iload C0 dL_law_474 9 rfl ?_
      refine g_lv [0, 1, 2, 3, 4, 5, 6, 7, 8, 10, 11, 12, 13, 14, 15] (lv' := [(0, .ref g.2.2.1), (1, .ref L0), (2, .int v2), (3, .int v3), (4, .int v4), (5, .int v5), (6, .int v6), (7, .int v7), (8, .int v8), (10, .int v10), (11, .ref a11), (12, .ref (g.1 0)), (13, .int v13), (14, .int v14), (18, .int v18)]) rfl ?_
      exact bL_law_476_WK C0 E0 hl0 K0 hK0 KE L0 ua out rec15 rec59 hrec15 hrec59   v v2 v3 v4 v5 v6 v7 v8 v10 t11n t11f (kLen 0) (kByt 0) v13 v14 v18 v9 a11 w11 f11 hx11 hc11 _ _ hf (by omega) (by omega)
    · rw [if_pos c310] at hf
      refine g_iload C0 dL_law_462 14 rfl ?_
      refine g_iload C0 dL_law_464 9 rfl ?_
      refine g_icmp_ge C0 (tgt := 474) dL_law_466 (by decide) (fun c311 => ?_) (fun c311 => ?_)
      · rw [if_pos c311] at hf
        refine g_iload C0 dL_law_474 9 rfl ?_
        refine g_lv [0, 1, 2, 3, 4, 5, 6, 7, 8, 10, 11, 12, 13, 14, 15] (lv' := [(0, .ref g.2.2.1), (1, .ref L0), (2, .int v2), (3, .int v3), (4, .int v4), (5, .int v5), (6, .int v6), (7, .int v7), (8, .int v8), (10, .int v10), (11, .ref a11), (12, .ref (g.1 0)), (13, .int v13), (14, .int v14), (18, .int v18)]) rfl ?_
        exact bL_law_476_WK C0 E0 hl0 K0 hK0 KE L0 ua out rec15 rec59 hrec15 hrec59   v v2 v3 v4 v5 v6 v7 v8 v10 t11n t11f (kLen 0) (kByt 0) v13 v14 v18 v9 a11 w11 f11 hx11 hc11 _ _ hf (by omega) (by omega)
      · rw [if_neg c311] at hf
        refine g_iload C0 dL_law_469 14 rfl ?_
        refine g_goto C0 (tgt := 476) dL_law_471 (by decide) ?_
        refine g_lv [0, 1, 2, 3, 4, 5, 6, 7, 8, 10, 11, 12, 13, 14, 15] (lv' := [(0, .ref g.2.2.1), (1, .ref L0), (2, .int v2), (3, .int v3), (4, .int v4), (5, .int v5), (6, .int v6), (7, .int v7), (8, .int v8), (10, .int v10), (11, .ref a11), (12, .ref (g.1 0)), (13, .int v13), (14, .int v14), (18, .int v18)]) rfl ?_
        exact bL_law_476_WK C0 E0 hl0 K0 hK0 KE L0 ua out rec15 rec59 hrec15 hrec59   v v2 v3 v4 v5 v6 v7 v8 v10 t11n t11f (kLen 0) (kByt 0) v13 v14 v18 v14 a11 w11 f11 hx11 hc11 _ _ hf (by omega) (by omega)
