/-! the law, walked: 4 -/
set_option maxHeartbeats 8000000 in
set_option maxRecDepth 100000 in
theorem bL_law_590_KW {p : Program} {l : Launch} {e : Env} {s : State} {m : MethodId} {args : Array Value} {below : List Frame} {meth : Method} {c : Code} {D : va_G} {cB cC cI cO : ClassId} {A : Nat → Prop} {g : LG} (C0 : gC RL cL_law 23 (some .boolean) p s m args meth c D (hTy cB cC cI cO) A) (E0 : hLw g A s) (hl0 : l.stackTraces = false) (K0 : Nat → Int32) (hK0 : fJ7_fill_53178 64 (fun _ => 0) (-1 : Int32) = some K0) {Q : State → Prop} (KE : ∀ (lv : List (Nat × Value)) (ws : va_W) (kk nn : Nat), kk ≤ room_1.cells → nn ≤ room_1.slots → gG p l e room_1 s m args below meth c D A 23 Q kk nn 1230 lv [.int 1] ws) (L0 : Nat) (ua : LA) (out : Unit) {B15a B15b : Nat} {B555a B555b : Nat} (rec15 : LV → Int32 → Option (Unit)) (rec555 : LV → Int32 → Int32 → Int32 → Int32 → Int32 → Int32 → Int32 → Int32 → Nat → (Nat → Int32) → Nat → (Nat → Int32) → Int32 → Option (Unit)) (hrec15 : ∀ (v : LV) (v2 : Int32)  (kk nn : Nat), rec15 v v2 = some out → kk + (B15a) ≤ room_1.cells → nn + (B15b) ≤ room_1.slots → gG p l e room_1 s m args below meth c D A 23 Q kk nn 15 [(0, .ref g.2.2.1), (1, .ref L0), (2, .int v2)] [] (List.append [] (labX cB cC cI cO L0 ua v))) (hrec555 : ∀ (v : LV) (v2 : Int32) (v3 : Int32) (v4 : Int32) (v5 : Int32) (v6 : Int32) (v7 : Int32) (v8 : Int32) (v9 : Int32) (_ : Nat) (_ : Nat → Int32) (t12n : Nat) (t12f : Nat → Int32) (v13 : Int32) (a12 w12 : Nat) (f12 : Nat → Int32) (hx12 : ∀ j, j < t12n → f12 j = t12f j) (hc12 : ascB t12n f12) (kk nn : Nat), rec555 v v2 v3 v4 v5 v6 v7 v8 v9 (kLen 0) (kByt 0) t12n t12f v13 = some out → kk + (B555a) ≤ room_1.cells → nn + (B555b) ≤ room_1.slots → gG p l e room_1 s m args below meth c D A 23 Q kk nn 555 [(0, .ref g.2.2.1), (1, .ref L0), (2, .int v2), (3, .int v3), (4, .int v4), (5, .int v5), (6, .int v6), (7, .int v7), (8, .int v8), (9, .int v9), (11, .ref (g.1 0)), (12, .ref a12), (13, .int v13)] [] (List.append [(a12, .inr (0, [.ref w12, .int 0, .int 0, .int 0])), (w12, .inl (cB, t12n, .inl f12))] (labX cB cC cI cO L0 ua v))) : ∀ (v : LV) (v2 : Int32) (v3 : Int32) (v4 : Int32) (v5 : Int32) (v6 : Int32) (v7 : Int32) (v8 : Int32) (v9 : Int32) (_ : Nat) (_ : Nat → Int32) (t12n : Nat) (t12f : Nat → Int32) (v13 : Int32) (v14 : Int32) (a12 w12 : Nat) (f12 : Nat → Int32) (hx12 : ∀ j, j < t12n → f12 j = t12f j) (hc12 : ascB t12n f12) (kk nn : Nat), fL_law_590 g K0 rec15 rec555  v v2 v3 v4 v5 v6 v7 v8 v9 (kLen 0) (kByt 0) t12n t12f v13 v14 = some out → kk + (10 + B555a) ≤ room_1.cells → nn + (7730 + B555b) ≤ room_1.slots → gG p l e room_1 s m args below meth c D A 23 Q kk nn 590 [(0, .ref g.2.2.1), (1, .ref L0), (2, .int v2), (3, .int v3), (4, .int v4), (5, .int v5), (6, .int v6), (7, .int v7), (8, .int v8), (9, .int v9), (11, .ref (g.1 0)), (12, .ref a12), (13, .int v13), (14, .int v14)] [] (List.append [(a12, .inr (0, [.ref w12, .int 0, .int 0, .int 0])), (w12, .inl (cB, t12n, .inl f12))] (labX cB cC cI cO L0 ua v)) := by
  intro v v2 v3 v4 v5 v6 v7 v8 v9 _ _ t12n t12f v13 v14 a12 w12 f12 hx12 hc12 kk nn hf hb1 hb2
  unfold fL_law_590 at hf
  refine g_new (ci := 1) (fs := [.null, .int 0, .int 0, .int 0]) C0 hinJ4 tyJ4_ok q_914 q_915 q_31 rfl (fun z hz => hl_dB z hz) (by omega) (by omega) dL_law_590 (fun b183 => ?_)
  refine g_rot ?_
  refine g_eq (ws' := (List.append [(a12, .inr (0, [.ref w12, .int 0, .int 0, .int 0])), (w12, .inl (cB, t12n, .inl f12)), (b183, .inr (1, [.null, .int 0, .int 0, .int 0]))] (labX cB cC cI cO L0 ua v))) rfl rfl rfl ?_
  refine g_dup C0 dL_law_593 rfl ?_
  refine g_xIv (ret := none) (X := [(a12, .inr (0, [.ref w12, .int 0, .int 0, .int 0])), (w12, .inl (cB, t12n, .inl f12)), (b183, .inr (1, [.null, .int 0, .int 0, .int 0]))]) (pl := labX cB cC cI cO L0 ua v) (wr := [(a12, .inr (0, [.ref w12, .int 0, .int 0, .int 0])), (w12, .inl (cB, t12n, .inl f12))]) (As := []) (st := [.ref b183]) (b := b183) C0 jE_ok (xe_of C0 jE_ok E0.1.2) (mJ4_init_da8c8 l D cB cC cI cO b183) hmJ4_init_da8c8 q_916 ⟨Nat.le_of_ble_eq_true rfl, Nat.le_of_ble_eq_true rfl⟩ rfl rfl ⟨by omega, by omega⟩ rfl [2] [0, 1] rfl rfl rfl rfl (by decide) rfl rfl (Nat.le_of_ble_eq_true rfl) dL_law_594 (fun w184 => ?_)
  refine g_eq (ws' := (List.append [(a12, .inr (0, [.ref w12, .int 0, .int 0, .int 0])), (w12, .inl (cB, t12n, .inl f12)), (b183, .inr (1, [.ref w184, .int 0, .int 0, .int (Int32.ofNat 0)])), (w184, .inl (cB, 16, .inl (fun _ => 0)))] (labX cB cC cI cO L0 ua v))) rfl rfl rfl ?_
  refine g_aload C0 dL_law_597 11 rfl ?_
  obtain ⟨h185, hf⟩ := hl_ifS hf
  refine g_xVr (X := [(a12, .inr (0, [.ref w12, .int 0, .int 0, .int 0])), (w12, .inl (cB, t12n, .inl f12)), (b183, .inr (1, [.ref w184, .int 0, .int 0, .int (Int32.ofNat 0)])), (w184, .inl (cB, 16, .inl (fun _ => 0)))]) (pl := labX cB cC cI cO L0 ua v) (wr := [(a12, .inr (0, [.ref w12, .int 0, .int 0, .int 0])), (w12, .inl (cB, t12n, .inl f12))]) (As := [.ref a12]) (st := []) (b := b183) C0 (jT_ok _ _ _ _) (xe_W (g := 0) C0 E0.1.2 0 1 rfl rfl 3 rfl [2, 3] rfl (by decide) (by decide)) (xr_w C0 2 rfl rfl) (mJ4_append_15ec4 l D cB cC cI cO a12 w12 t12n f12 b183 w184 0 0 16 (fun _ => 0) (fun _ => 0) (by omega) (by omega) hc12.2 (sbP0 w184)) hmJ4_append_15ec4 q_944 ⟨Nat.le_of_ble_eq_true rfl, Nat.le_of_ble_eq_true rfl⟩ rfl rfl ⟨by omega, by omega⟩ rfl [2, 3] [0, 1] rfl rfl rfl rfl (by decide) rfl rfl (Nat.le_of_ble_eq_true rfl) dL_law_599 (fun u186 => ?_)
  refine g_widen (kk1 := kk + 3) (nn1 := nn + 1420) (by omega) (by omega) ?_
  have qu186 : asc (0 + t12n) (tcat 0 (fun _ => 0) f12) := asc_cat (asc0 _) hc12.2
  have eu186 : ∀ j, j < 0 + t12n → (tcat 0 (fun _ => 0) f12) j = (tcat 0 (fun _ => 0) t12f) j := tcat_eq (fun _ _ => rfl) hx12
  refine g_eq (ws' := (List.append [(a12, .inr (0, [.ref w12, .int 0, .int 0, .int 0])), (w12, .inl (cB, t12n, .inl f12)), (b183, .inr (1, [.ref u186.1.1, .int 0, .int 0, .int (Int32.ofNat (0 + t12n))])), (u186.1.1, .inl (cB, u186.1.2.1, .inl u186.1.2.2))] (labX cB cC cI cO L0 ua v))) rfl rfl rfl ?_
  refine g_iload C0 dL_law_602 12 rfl ?_
  refine g_if_le C0 (tgt := 612) dL_law_604 (by decide) (fun c187 => ?_) (fun c187 => ?_)
  · rw [if_pos c187] at hf
    refine g_ldcS C0 (E0.2.1.2 0 (123, "") rfl) dL_law_612 ?_
    obtain ⟨h188, hf⟩ := hl_ifS hf
    refine g_xVr (X := [(a12, .inr (0, [.ref w12, .int 0, .int 0, .int 0])), (w12, .inl (cB, t12n, .inl f12)), (b183, .inr (1, [.ref u186.1.1, .int 0, .int 0, .int (Int32.ofNat (0 + t12n))])), (u186.1.1, .inl (cB, u186.1.2.1, .inl u186.1.2.2))]) (pl := labX cB cC cI cO L0 ua v) (wr := [(a12, .inr (0, [.ref w12, .int 0, .int 0, .int 0])), (w12, .inl (cB, t12n, .inl f12))]) (As := [.ref (g.1 0)]) (st := []) (b := b183) C0 (jT_ok _ _ _ _) (xe_of C0 (jT_ok _ _ _ _) ⟨E0.1.2, hKt_tx E0.2.1 (by decide : 0 < 6)⟩) (xr_w C0 2 rfl rfl) (mJ4_append_15ec4 l D cB cC cI cO (g.1 0) (g.2.1 0) (kLen 0) (kByt 0) b183 u186.1.1 0 (0 + t12n) u186.1.2.1 u186.1.2.2 (tcat 0 (fun _ => 0) f12) (by omega) (by omega) (kAsc 0 (by decide)) u186.2) hmJ4_append_15ec4 q_944 ⟨Nat.le_of_ble_eq_true rfl, Nat.le_of_ble_eq_true rfl⟩ rfl rfl ⟨by omega, by omega⟩ rfl [2, 3] [0, 1] rfl rfl rfl rfl (by decide) rfl rfl (Nat.le_of_ble_eq_true rfl) dL_law_614 (fun u189 => ?_)
    refine g_widen (kk1 := kk + 4) (nn1 := nn + 2820) (by omega) (by omega) ?_
    have qu189 : asc ((0 + t12n) + (kLen 0)) (tcat (0 + t12n) (tcat 0 (fun _ => 0) f12) (kByt 0)) := asc_cat qu186 (kAsc 0 (by decide))
    have eu189 : ∀ j, j < (0 + t12n) + (kLen 0) → (tcat (0 + t12n) (tcat 0 (fun _ => 0) f12) (kByt 0)) j = (tcat (0 + t12n) (tcat 0 (fun _ => 0) t12f) (kByt 0)) j := tcat_eq eu186 (fun _ _ => rfl)
    refine g_eq (ws' := (List.append [(a12, .inr (0, [.ref w12, .int 0, .int 0, .int 0])), (w12, .inl (cB, t12n, .inl f12)), (b183, .inr (1, [.ref u189.1.1, .int 0, .int 0, .int (Int32.ofNat ((0 + t12n) + (kLen 0)))])), (u189.1.1, .inl (cB, u189.1.2.1, .inl u189.1.2.2))] (labX cB cC cI cO L0 ua v))) rfl rfl rfl ?_
    refine g_iload C0 dL_law_617 13 rfl ?_
    obtain ⟨h190, hf⟩ := hl_ifS hf
    refine g_xVr (X := [(a12, .inr (0, [.ref w12, .int 0, .int 0, .int 0])), (w12, .inl (cB, t12n, .inl f12)), (b183, .inr (1, [.ref u189.1.1, .int 0, .int 0, .int (Int32.ofNat ((0 + t12n) + (kLen 0)))])), (u189.1.1, .inl (cB, u189.1.2.1, .inl u189.1.2.2))]) (pl := labX cB cC cI cO L0 ua v) (wr := [(a12, .inr (0, [.ref w12, .int 0, .int 0, .int 0])), (w12, .inl (cB, t12n, .inl f12))]) (As := [.int v14]) (st := []) (b := b183) C0 jE_ok (xe_of C0 jE_ok E0.1.2) (xr_w C0 2 rfl rfl) (mJ4_append_bf812 l D cB cC cI cO v14 (nLen v14) (nDig v14) b183 u189.1.1 0 ((0 + t12n) + (kLen 0)) u189.1.2.1 u189.1.2.2 (tcat (0 + t12n) (tcat 0 (fun _ => 0) f12) (kByt 0)) (by omega) (by omega) (numOK_T h190.2) u189.2) hmJ4_append_bf812 q_1039 ⟨Nat.le_of_ble_eq_true rfl, Nat.le_of_ble_eq_true rfl⟩ rfl rfl ⟨by omega, by omega⟩ rfl [2, 3] [0, 1] rfl rfl rfl rfl (by decide) rfl rfl (Nat.le_of_ble_eq_true rfl) dL_law_619 (fun u191 => ?_)
    refine g_widen (kk1 := kk + 5) (nn1 := nn + 4220) (by omega) (by omega) ?_
    have qu191 : asc (((0 + t12n) + (kLen 0)) + (nLen v14)) (tcat ((0 + t12n) + (kLen 0)) (tcat (0 + t12n) (tcat 0 (fun _ => 0) f12) (kByt 0)) (nDig v14)) := asc_cat qu189 (numOK_asc h190.2)
    have eu191 : ∀ j, j < ((0 + t12n) + (kLen 0)) + (nLen v14) → (tcat ((0 + t12n) + (kLen 0)) (tcat (0 + t12n) (tcat 0 (fun _ => 0) f12) (kByt 0)) (nDig v14)) j = (tcat ((0 + t12n) + (kLen 0)) (tcat (0 + t12n) (tcat 0 (fun _ => 0) t12f) (kByt 0)) (nDig v14)) j := tcat_eq eu189 (fun _ _ => rfl)
    refine g_eq (ws' := (List.append [(a12, .inr (0, [.ref w12, .int 0, .int 0, .int 0])), (w12, .inl (cB, t12n, .inl f12)), (b183, .inr (1, [.ref u191.1.1, .int 0, .int 0, .int (Int32.ofNat (((0 + t12n) + (kLen 0)) + (nLen v14)))])), (u191.1.1, .inl (cB, u191.1.2.1, .inl u191.1.2.2))] (labX cB cC cI cO L0 ua v))) rfl rfl rfl ?_
    refine g_ldcS C0 (E0.2.1.2 5 (168, "=") rfl) dL_law_622 ?_
    obtain ⟨h192, hf⟩ := hl_ifS hf
    refine g_xVr (X := [(a12, .inr (0, [.ref w12, .int 0, .int 0, .int 0])), (w12, .inl (cB, t12n, .inl f12)), (b183, .inr (1, [.ref u191.1.1, .int 0, .int 0, .int (Int32.ofNat (((0 + t12n) + (kLen 0)) + (nLen v14)))])), (u191.1.1, .inl (cB, u191.1.2.1, .inl u191.1.2.2))]) (pl := labX cB cC cI cO L0 ua v) (wr := [(a12, .inr (0, [.ref w12, .int 0, .int 0, .int 0])), (w12, .inl (cB, t12n, .inl f12))]) (As := [.ref (g.1 5)]) (st := []) (b := b183) C0 (jT_ok _ _ _ _) (xe_of C0 (jT_ok _ _ _ _) ⟨E0.1.2, hKt_tx E0.2.1 (by decide : 5 < 6)⟩) (xr_w C0 2 rfl rfl) (mJ4_append_15ec4 l D cB cC cI cO (g.1 5) (g.2.1 5) (kLen 5) (kByt 5) b183 u191.1.1 0 (((0 + t12n) + (kLen 0)) + (nLen v14)) u191.1.2.1 u191.1.2.2 (tcat ((0 + t12n) + (kLen 0)) (tcat (0 + t12n) (tcat 0 (fun _ => 0) f12) (kByt 0)) (nDig v14)) (by omega) (by omega) (kAsc 5 (by decide)) u191.2) hmJ4_append_15ec4 q_944 ⟨Nat.le_of_ble_eq_true rfl, Nat.le_of_ble_eq_true rfl⟩ rfl rfl ⟨by omega, by omega⟩ rfl [2, 3] [0, 1] rfl rfl rfl rfl (by decide) rfl rfl (Nat.le_of_ble_eq_true rfl) dL_law_624 (fun u193 => ?_)
    refine g_widen (kk1 := kk + 6) (nn1 := nn + 5620) (by omega) (by omega) ?_
    have qu193 : asc ((((0 + t12n) + (kLen 0)) + (nLen v14)) + (kLen 5)) (tcat (((0 + t12n) + (kLen 0)) + (nLen v14)) (tcat ((0 + t12n) + (kLen 0)) (tcat (0 + t12n) (tcat 0 (fun _ => 0) f12) (kByt 0)) (nDig v14)) (kByt 5)) := asc_cat qu191 (kAsc 5 (by decide))
    have eu193 : ∀ j, j < (((0 + t12n) + (kLen 0)) + (nLen v14)) + (kLen 5) → (tcat (((0 + t12n) + (kLen 0)) + (nLen v14)) (tcat ((0 + t12n) + (kLen 0)) (tcat (0 + t12n) (tcat 0 (fun _ => 0) f12) (kByt 0)) (nDig v14)) (kByt 5)) j = (tcat (((0 + t12n) + (kLen 0)) + (nLen v14)) (tcat ((0 + t12n) + (kLen 0)) (tcat (0 + t12n) (tcat 0 (fun _ => 0) t12f) (kByt 0)) (nDig v14)) (kByt 5)) j := tcat_eq eu191 (fun _ _ => rfl)
    refine g_eq (ws' := (List.append [(a12, .inr (0, [.ref w12, .int 0, .int 0, .int 0])), (w12, .inl (cB, t12n, .inl f12)), (b183, .inr (1, [.ref u193.1.1, .int 0, .int 0, .int (Int32.ofNat ((((0 + t12n) + (kLen 0)) + (nLen v14)) + (kLen 5)))])), (u193.1.1, .inl (cB, u193.1.2.1, .inl u193.1.2.2))] (labX cB cC cI cO L0 ua v))) rfl rfl rfl ?_
    refine g_aload_n C0 dL_law_627 rfl 1 rfl ?_
    refine g_iload C0 dL_law_628 13 rfl ?_
    obtain ⟨r194, er194, hf⟩ := hl_bd hf
    obtain ⟨z195, ez195, hf⟩ := hl_inl hf
    have kr194 := mg_get l hl0 D cB cC cI cO L0 ua v v14 r194 er194
    rw [ez195] at kr194
    refine g_sufNi C0 E0.1.1 (P := [(a12, .inr (0, [.ref w12, .int 0, .int 0, .int 0])), (w12, .inl (cB, t12n, .inl f12)), (b183, .inr (1, [.ref u193.1.1, .int 0, .int 0, .int (Int32.ofNat ((((0 + t12n) + (kLen 0)) + (nLen v14)) + (kLen 5)))])), (u193.1.1, .inl (cB, u193.1.2.1, .inl u193.1.2.2))]) (X := labX cB cC cI cO L0 ua v) (X1 := labX cB cC cI cO L0 ua v) (As := [.int v14]) (st := [.ref b183]) kr194 hmX6_get q_281 ⟨Nat.le_of_ble_eq_true rfl, Nat.le_of_ble_eq_true rfl⟩ ⟨by omega, by omega⟩ rfl rfl rfl rfl rfl 0 rfl rfl rfl (Nat.le_of_ble_eq_true rfl) dL_law_630 ?_
    obtain ⟨h196, hf⟩ := hl_ifS hf
    refine g_xVr (X := [(a12, .inr (0, [.ref w12, .int 0, .int 0, .int 0])), (w12, .inl (cB, t12n, .inl f12)), (b183, .inr (1, [.ref u193.1.1, .int 0, .int 0, .int (Int32.ofNat ((((0 + t12n) + (kLen 0)) + (nLen v14)) + (kLen 5)))])), (u193.1.1, .inl (cB, u193.1.2.1, .inl u193.1.2.2))]) (pl := labX cB cC cI cO L0 ua v) (wr := [(a12, .inr (0, [.ref w12, .int 0, .int 0, .int 0])), (w12, .inl (cB, t12n, .inl f12))]) (As := [.int z195]) (st := []) (b := b183) C0 jE_ok (xe_of C0 jE_ok E0.1.2) (xr_w C0 2 rfl rfl) (mJ4_append_bf812 l D cB cC cI cO z195 (nLen z195) (nDig z195) b183 u193.1.1 0 ((((0 + t12n) + (kLen 0)) + (nLen v14)) + (kLen 5)) u193.1.2.1 u193.1.2.2 (tcat (((0 + t12n) + (kLen 0)) + (nLen v14)) (tcat ((0 + t12n) + (kLen 0)) (tcat (0 + t12n) (tcat 0 (fun _ => 0) f12) (kByt 0)) (nDig v14)) (kByt 5)) (by omega) (by omega) (numOK_T h196.2) u193.2) hmJ4_append_bf812 q_1039 ⟨Nat.le_of_ble_eq_true rfl, Nat.le_of_ble_eq_true rfl⟩ rfl rfl ⟨by omega, by omega⟩ rfl [2, 3] [0, 1] rfl rfl rfl rfl (by decide) rfl rfl (Nat.le_of_ble_eq_true rfl) dL_law_633 (fun u197 => ?_)
    refine g_widen (kk1 := kk + 8) (nn1 := nn + 7026) (by omega) (by omega) ?_
    have qu197 : asc (((((0 + t12n) + (kLen 0)) + (nLen v14)) + (kLen 5)) + (nLen z195)) (tcat ((((0 + t12n) + (kLen 0)) + (nLen v14)) + (kLen 5)) (tcat (((0 + t12n) + (kLen 0)) + (nLen v14)) (tcat ((0 + t12n) + (kLen 0)) (tcat (0 + t12n) (tcat 0 (fun _ => 0) f12) (kByt 0)) (nDig v14)) (kByt 5)) (nDig z195)) := asc_cat qu193 (numOK_asc h196.2)
    have eu197 : ∀ j, j < ((((0 + t12n) + (kLen 0)) + (nLen v14)) + (kLen 5)) + (nLen z195) → (tcat ((((0 + t12n) + (kLen 0)) + (nLen v14)) + (kLen 5)) (tcat (((0 + t12n) + (kLen 0)) + (nLen v14)) (tcat ((0 + t12n) + (kLen 0)) (tcat (0 + t12n) (tcat 0 (fun _ => 0) f12) (kByt 0)) (nDig v14)) (kByt 5)) (nDig z195)) j = (tcat ((((0 + t12n) + (kLen 0)) + (nLen v14)) + (kLen 5)) (tcat (((0 + t12n) + (kLen 0)) + (nLen v14)) (tcat ((0 + t12n) + (kLen 0)) (tcat (0 + t12n) (tcat 0 (fun _ => 0) t12f) (kByt 0)) (nDig v14)) (kByt 5)) (nDig z195)) j := tcat_eq eu193 (fun _ _ => rfl)
    refine g_eq (ws' := (List.append [(a12, .inr (0, [.ref w12, .int 0, .int 0, .int 0])), (w12, .inl (cB, t12n, .inl f12)), (b183, .inr (1, [.ref u197.1.1, .int 0, .int 0, .int (Int32.ofNat (((((0 + t12n) + (kLen 0)) + (nLen v14)) + (kLen 5)) + (nLen z195)))])), (u197.1.1, .inl (cB, u197.1.2.1, .inl u197.1.2.2))] (labX cB cC cI cO L0 ua v))) rfl rfl rfl ?_
    refine g_xVr (X := [(a12, .inr (0, [.ref w12, .int 0, .int 0, .int 0])), (w12, .inl (cB, t12n, .inl f12)), (b183, .inr (1, [.ref u197.1.1, .int 0, .int 0, .int (Int32.ofNat (((((0 + t12n) + (kLen 0)) + (nLen v14)) + (kLen 5)) + (nLen z195)))])), (u197.1.1, .inl (cB, u197.1.2.1, .inl u197.1.2.2))]) (pl := labX cB cC cI cO L0 ua v) (wr := [(a12, .inr (0, [.ref w12, .int 0, .int 0, .int 0])), (w12, .inl (cB, t12n, .inl f12))]) (As := []) (st := []) (b := b183) C0 jE_ok (xe_of C0 jE_ok E0.1.2) (xr_w C0 2 rfl rfl) (mJ4_toString_0e30d l D cB cC cI cO b183 u197.1.1 0 (((((0 + t12n) + (kLen 0)) + (nLen v14)) + (kLen 5)) + (nLen z195)) u197.1.2.1 u197.1.2.2 (tcat ((((0 + t12n) + (kLen 0)) + (nLen v14)) + (kLen 5)) (tcat (((0 + t12n) + (kLen 0)) + (nLen v14)) (tcat ((0 + t12n) + (kLen 0)) (tcat (0 + t12n) (tcat 0 (fun _ => 0) f12) (kByt 0)) (nDig v14)) (kByt 5)) (nDig z195)) (by omega) u197.2) hmJ4_toString_0e30d q_1064 ⟨Nat.le_of_ble_eq_true rfl, Nat.le_of_ble_eq_true rfl⟩ rfl rfl ⟨by omega, by omega⟩ rfl [2, 3] [0, 1] rfl rfl rfl rfl (by decide) rfl rfl (Nat.le_of_ble_eq_true rfl) dL_law_636 (fun u198 => ?_)
    refine g_widen (kk1 := kk + 10) (nn1 := nn + 7730) (by omega) (by omega) ?_
    obtain ⟨⟨tau198, twu198, tfu198⟩, hfitu198, hyu198⟩ := u198
    have hxu198 : ∀ j, j < (((((0 + t12n) + (kLen 0)) + (nLen v14)) + (kLen 5)) + (nLen z195)) → tfu198 j = (tcat ((((0 + t12n) + (kLen 0)) + (nLen v14)) + (kLen 5)) (tcat (((0 + t12n) + (kLen 0)) + (nLen v14)) (tcat ((0 + t12n) + (kLen 0)) (tcat (0 + t12n) (tcat 0 (fun _ => 0) t12f) (kByt 0)) (nDig v14)) (kByt 5)) (nDig z195)) j := fun j hj => (hyu198 j hj).trans (eu197 j hj)
    have hcu198 : ascB (((((0 + t12n) + (kLen 0)) + (nLen v14)) + (kLen 5)) + (nLen z195)) tfu198 := ⟨by omega, asc_of hyu198 qu197⟩
    refine g_ordP (P' := [(a12, .inr (0, [.ref w12, .int 0, .int 0, .int 0])), (w12, .inl (cB, t12n, .inl f12)), (tau198, .inr (0, [.ref twu198, .int 0, .int 0, .int 0])), (twu198, .inl (cB, (((((0 + t12n) + (kLen 0)) + (nLen v14)) + (kLen 5)) + (nLen z195)), .inl tfu198))]) (X := labX cB cC cI cO L0 ua v) [0, 1, 4, 5] rfl rfl rfl ?_
    refine g_eq (st' := [.ref tau198]) (ws' := (List.append [(a12, .inr (0, [.ref w12, .int 0, .int 0, .int 0])), (w12, .inl (cB, t12n, .inl f12)), (tau198, .inr (0, [.ref twu198, .int 0, .int 0, .int 0])), (twu198, .inl (cB, (((((0 + t12n) + (kLen 0)) + (nLen v14)) + (kLen 5)) + (nLen z195)), .inl tfu198))] (labX cB cC cI cO L0 ua v))) rfl rfl rfl ?_
    refine g_astore C0 (lv' := [(12, .ref tau198), (0, .ref g.2.2.1), (1, .ref L0), (2, .int v2), (3, .int v3), (4, .int v4), (5, .int v5), (6, .int v6), (7, .int v7), (8, .int v8), (9, .int v9), (11, .ref (g.1 0)), (13, .int v13), (14, .int v14)]) dL_law_639 (by decide) rfl ?_
    refine g_iinc C0 (lv' := [(13, .int (v13 + (1 : Int32))), (12, .ref tau198), (0, .ref g.2.2.1), (1, .ref L0), (2, .int v2), (3, .int v3), (4, .int v4), (5, .int v5), (6, .int v6), (7, .int v7), (8, .int v8), (9, .int v9), (11, .ref (g.1 0)), (14, .int v14)]) dL_law_641 12 rfl rfl (by decide) rfl ?_
    refine g_goto C0 (tgt := 555) dL_law_644 (by decide) ?_
    refine g_ordP (P := [(a12, .inr (0, [.ref w12, .int 0, .int 0, .int 0])), (w12, .inl (cB, t12n, .inl f12)), (tau198, .inr (0, [.ref twu198, .int 0, .int 0, .int 0])), (twu198, .inl (cB, (((((0 + t12n) + (kLen 0)) + (nLen v14)) + (kLen 5)) + (nLen z195)), .inl tfu198))]) (P' := [(tau198, .inr (0, [.ref twu198, .int 0, .int 0, .int 0])), (twu198, .inl (cB, (((((0 + t12n) + (kLen 0)) + (nLen v14)) + (kLen 5)) + (nLen z195)), .inl tfu198))]) (X := labX cB cC cI cO L0 ua v) [2, 3] rfl rfl rfl ?_
    refine g_lv [2, 3, 4, 5, 6, 7, 8, 9, 10, 11, 12, 1, 0] (lv' := [(0, .ref g.2.2.1), (1, .ref L0), (2, .int v2), (3, .int v3), (4, .int v4), (5, .int v5), (6, .int v6), (7, .int v7), (8, .int v8), (9, .int v9), (11, .ref (g.1 0)), (12, .ref tau198), (13, .int (v13 + (1 : Int32)))]) rfl ?_
    exact hrec555 v v2 v3 v4 v5 v6 v7 v8 v9 (kLen 0) (kByt 0) (((((0 + t12n) + (kLen 0)) + (nLen v14)) + (kLen 5)) + (nLen z195)) (tcat ((((0 + t12n) + (kLen 0)) + (nLen v14)) + (kLen 5)) (tcat (((0 + t12n) + (kLen 0)) + (nLen v14)) (tcat ((0 + t12n) + (kLen 0)) (tcat (0 + t12n) (tcat 0 (fun _ => 0) t12f) (kByt 0)) (nDig v14)) (kByt 5)) (nDig z195)) (v13 + (1 : Int32)) tau198 twu198 tfu198 hxu198 hcu198 _ _ hf (by omega) (by omega)
  · rw [if_neg c187] at hf
    refine g_ldcS C0 (E0.2.1.2 4 (166, ",") rfl) dL_law_607 ?_
    refine g_goto C0 (tgt := 614) dL_law_609 (by decide) ?_
    obtain ⟨h199, hf⟩ := hl_ifS hf
    refine g_xVr (X := [(a12, .inr (0, [.ref w12, .int 0, .int 0, .int 0])), (w12, .inl (cB, t12n, .inl f12)), (b183, .inr (1, [.ref u186.1.1, .int 0, .int 0, .int (Int32.ofNat (0 + t12n))])), (u186.1.1, .inl (cB, u186.1.2.1, .inl u186.1.2.2))]) (pl := labX cB cC cI cO L0 ua v) (wr := [(a12, .inr (0, [.ref w12, .int 0, .int 0, .int 0])), (w12, .inl (cB, t12n, .inl f12))]) (As := [.ref (g.1 4)]) (st := []) (b := b183) C0 (jT_ok _ _ _ _) (xe_of C0 (jT_ok _ _ _ _) ⟨E0.1.2, hKt_tx E0.2.1 (by decide : 4 < 6)⟩) (xr_w C0 2 rfl rfl) (mJ4_append_15ec4 l D cB cC cI cO (g.1 4) (g.2.1 4) (kLen 4) (kByt 4) b183 u186.1.1 0 (0 + t12n) u186.1.2.1 u186.1.2.2 (tcat 0 (fun _ => 0) f12) (by omega) (by omega) (kAsc 4 (by decide)) u186.2) hmJ4_append_15ec4 q_944 ⟨Nat.le_of_ble_eq_true rfl, Nat.le_of_ble_eq_true rfl⟩ rfl rfl ⟨by omega, by omega⟩ rfl [2, 3] [0, 1] rfl rfl rfl rfl (by decide) rfl rfl (Nat.le_of_ble_eq_true rfl) dL_law_614 (fun u200 => ?_)
    refine g_widen (kk1 := kk + 4) (nn1 := nn + 2820) (by omega) (by omega) ?_
    have qu200 : asc ((0 + t12n) + (kLen 4)) (tcat (0 + t12n) (tcat 0 (fun _ => 0) f12) (kByt 4)) := asc_cat qu186 (kAsc 4 (by decide))
    have eu200 : ∀ j, j < (0 + t12n) + (kLen 4) → (tcat (0 + t12n) (tcat 0 (fun _ => 0) f12) (kByt 4)) j = (tcat (0 + t12n) (tcat 0 (fun _ => 0) t12f) (kByt 4)) j := tcat_eq eu186 (fun _ _ => rfl)
    refine g_eq (ws' := (List.append [(a12, .inr (0, [.ref w12, .int 0, .int 0, .int 0])), (w12, .inl (cB, t12n, .inl f12)), (b183, .inr (1, [.ref u200.1.1, .int 0, .int 0, .int (Int32.ofNat ((0 + t12n) + (kLen 4)))])), (u200.1.1, .inl (cB, u200.1.2.1, .inl u200.1.2.2))] (labX cB cC cI cO L0 ua v))) rfl rfl rfl ?_
    refine g_iload C0 dL_law_617 13 rfl ?_
    obtain ⟨h201, hf⟩ := hl_ifS hf
    refine g_xVr (X := [(a12, .inr (0, [.ref w12, .int 0, .int 0, .int 0])), (w12, .inl (cB, t12n, .inl f12)), (b183, .inr (1, [.ref u200.1.1, .int 0, .int 0, .int (Int32.ofNat ((0 + t12n) + (kLen 4)))])), (u200.1.1, .inl (cB, u200.1.2.1, .inl u200.1.2.2))]) (pl := labX cB cC cI cO L0 ua v) (wr := [(a12, .inr (0, [.ref w12, .int 0, .int 0, .int 0])), (w12, .inl (cB, t12n, .inl f12))]) (As := [.int v14]) (st := []) (b := b183) C0 jE_ok (xe_of C0 jE_ok E0.1.2) (xr_w C0 2 rfl rfl) (mJ4_append_bf812 l D cB cC cI cO v14 (nLen v14) (nDig v14) b183 u200.1.1 0 ((0 + t12n) + (kLen 4)) u200.1.2.1 u200.1.2.2 (tcat (0 + t12n) (tcat 0 (fun _ => 0) f12) (kByt 4)) (by omega) (by omega) (numOK_T h201.2) u200.2) hmJ4_append_bf812 q_1039 ⟨Nat.le_of_ble_eq_true rfl, Nat.le_of_ble_eq_true rfl⟩ rfl rfl ⟨by omega, by omega⟩ rfl [2, 3] [0, 1] rfl rfl rfl rfl (by decide) rfl rfl (Nat.le_of_ble_eq_true rfl) dL_law_619 (fun u202 => ?_)
    refine g_widen (kk1 := kk + 5) (nn1 := nn + 4220) (by omega) (by omega) ?_
    have qu202 : asc (((0 + t12n) + (kLen 4)) + (nLen v14)) (tcat ((0 + t12n) + (kLen 4)) (tcat (0 + t12n) (tcat 0 (fun _ => 0) f12) (kByt 4)) (nDig v14)) := asc_cat qu200 (numOK_asc h201.2)
    have eu202 : ∀ j, j < ((0 + t12n) + (kLen 4)) + (nLen v14) → (tcat ((0 + t12n) + (kLen 4)) (tcat (0 + t12n) (tcat 0 (fun _ => 0) f12) (kByt 4)) (nDig v14)) j = (tcat ((0 + t12n) + (kLen 4)) (tcat (0 + t12n) (tcat 0 (fun _ => 0) t12f) (kByt 4)) (nDig v14)) j := tcat_eq eu200 (fun _ _ => rfl)
    refine g_eq (ws' := (List.append [(a12, .inr (0, [.ref w12, .int 0, .int 0, .int 0])), (w12, .inl (cB, t12n, .inl f12)), (b183, .inr (1, [.ref u202.1.1, .int 0, .int 0, .int (Int32.ofNat (((0 + t12n) + (kLen 4)) + (nLen v14)))])), (u202.1.1, .inl (cB, u202.1.2.1, .inl u202.1.2.2))] (labX cB cC cI cO L0 ua v))) rfl rfl rfl ?_
    refine g_ldcS C0 (E0.2.1.2 5 (168, "=") rfl) dL_law_622 ?_
    obtain ⟨h203, hf⟩ := hl_ifS hf
    refine g_xVr (X := [(a12, .inr (0, [.ref w12, .int 0, .int 0, .int 0])), (w12, .inl (cB, t12n, .inl f12)), (b183, .inr (1, [.ref u202.1.1, .int 0, .int 0, .int (Int32.ofNat (((0 + t12n) + (kLen 4)) + (nLen v14)))])), (u202.1.1, .inl (cB, u202.1.2.1, .inl u202.1.2.2))]) (pl := labX cB cC cI cO L0 ua v) (wr := [(a12, .inr (0, [.ref w12, .int 0, .int 0, .int 0])), (w12, .inl (cB, t12n, .inl f12))]) (As := [.ref (g.1 5)]) (st := []) (b := b183) C0 (jT_ok _ _ _ _) (xe_of C0 (jT_ok _ _ _ _) ⟨E0.1.2, hKt_tx E0.2.1 (by decide : 5 < 6)⟩) (xr_w C0 2 rfl rfl) (mJ4_append_15ec4 l D cB cC cI cO (g.1 5) (g.2.1 5) (kLen 5) (kByt 5) b183 u202.1.1 0 (((0 + t12n) + (kLen 4)) + (nLen v14)) u202.1.2.1 u202.1.2.2 (tcat ((0 + t12n) + (kLen 4)) (tcat (0 + t12n) (tcat 0 (fun _ => 0) f12) (kByt 4)) (nDig v14)) (by omega) (by omega) (kAsc 5 (by decide)) u202.2) hmJ4_append_15ec4 q_944 ⟨Nat.le_of_ble_eq_true rfl, Nat.le_of_ble_eq_true rfl⟩ rfl rfl ⟨by omega, by omega⟩ rfl [2, 3] [0, 1] rfl rfl rfl rfl (by decide) rfl rfl (Nat.le_of_ble_eq_true rfl) dL_law_624 (fun u204 => ?_)
    refine g_widen (kk1 := kk + 6) (nn1 := nn + 5620) (by omega) (by omega) ?_
    have qu204 : asc ((((0 + t12n) + (kLen 4)) + (nLen v14)) + (kLen 5)) (tcat (((0 + t12n) + (kLen 4)) + (nLen v14)) (tcat ((0 + t12n) + (kLen 4)) (tcat (0 + t12n) (tcat 0 (fun _ => 0) f12) (kByt 4)) (nDig v14)) (kByt 5)) := asc_cat qu202 (kAsc 5 (by decide))
    have eu204 : ∀ j, j < (((0 + t12n) + (kLen 4)) + (nLen v14)) + (kLen 5) → (tcat (((0 + t12n) + (kLen 4)) + (nLen v14)) (tcat ((0 + t12n) + (kLen 4)) (tcat (0 + t12n) (tcat 0 (fun _ => 0) f12) (kByt 4)) (nDig v14)) (kByt 5)) j = (tcat (((0 + t12n) + (kLen 4)) + (nLen v14)) (tcat ((0 + t12n) + (kLen 4)) (tcat (0 + t12n) (tcat 0 (fun _ => 0) t12f) (kByt 4)) (nDig v14)) (kByt 5)) j := tcat_eq eu202 (fun _ _ => rfl)
    refine g_eq (ws' := (List.append [(a12, .inr (0, [.ref w12, .int 0, .int 0, .int 0])), (w12, .inl (cB, t12n, .inl f12)), (b183, .inr (1, [.ref u204.1.1, .int 0, .int 0, .int (Int32.ofNat ((((0 + t12n) + (kLen 4)) + (nLen v14)) + (kLen 5)))])), (u204.1.1, .inl (cB, u204.1.2.1, .inl u204.1.2.2))] (labX cB cC cI cO L0 ua v))) rfl rfl rfl ?_
    refine g_aload_n C0 dL_law_627 rfl 1 rfl ?_
    refine g_iload C0 dL_law_628 13 rfl ?_
    obtain ⟨r205, er205, hf⟩ := hl_bd hf
    obtain ⟨z206, ez206, hf⟩ := hl_inl hf
    have kr205 := mg_get l hl0 D cB cC cI cO L0 ua v v14 r205 er205
    rw [ez206] at kr205
    refine g_sufNi C0 E0.1.1 (P := [(a12, .inr (0, [.ref w12, .int 0, .int 0, .int 0])), (w12, .inl (cB, t12n, .inl f12)), (b183, .inr (1, [.ref u204.1.1, .int 0, .int 0, .int (Int32.ofNat ((((0 + t12n) + (kLen 4)) + (nLen v14)) + (kLen 5)))])), (u204.1.1, .inl (cB, u204.1.2.1, .inl u204.1.2.2))]) (X := labX cB cC cI cO L0 ua v) (X1 := labX cB cC cI cO L0 ua v) (As := [.int v14]) (st := [.ref b183]) kr205 hmX6_get q_281 ⟨Nat.le_of_ble_eq_true rfl, Nat.le_of_ble_eq_true rfl⟩ ⟨by omega, by omega⟩ rfl rfl rfl rfl rfl 0 rfl rfl rfl (Nat.le_of_ble_eq_true rfl) dL_law_630 ?_
    obtain ⟨h207, hf⟩ := hl_ifS hf
    refine g_xVr (X := [(a12, .inr (0, [.ref w12, .int 0, .int 0, .int 0])), (w12, .inl (cB, t12n, .inl f12)), (b183, .inr (1, [.ref u204.1.1, .int 0, .int 0, .int (Int32.ofNat ((((0 + t12n) + (kLen 4)) + (nLen v14)) + (kLen 5)))])), (u204.1.1, .inl (cB, u204.1.2.1, .inl u204.1.2.2))]) (pl := labX cB cC cI cO L0 ua v) (wr := [(a12, .inr (0, [.ref w12, .int 0, .int 0, .int 0])), (w12, .inl (cB, t12n, .inl f12))]) (As := [.int z206]) (st := []) (b := b183) C0 jE_ok (xe_of C0 jE_ok E0.1.2) (xr_w C0 2 rfl rfl) (mJ4_append_bf812 l D cB cC cI cO z206 (nLen z206) (nDig z206) b183 u204.1.1 0 ((((0 + t12n) + (kLen 4)) + (nLen v14)) + (kLen 5)) u204.1.2.1 u204.1.2.2 (tcat (((0 + t12n) + (kLen 4)) + (nLen v14)) (tcat ((0 + t12n) + (kLen 4)) (tcat (0 + t12n) (tcat 0 (fun _ => 0) f12) (kByt 4)) (nDig v14)) (kByt 5)) (by omega) (by omega) (numOK_T h207.2) u204.2) hmJ4_append_bf812 q_1039 ⟨Nat.le_of_ble_eq_true rfl, Nat.le_of_ble_eq_true rfl⟩ rfl rfl ⟨by omega, by omega⟩ rfl [2, 3] [0, 1] rfl rfl rfl rfl (by decide) rfl rfl (Nat.le_of_ble_eq_true rfl) dL_law_633 (fun u208 => ?_)
    refine g_widen (kk1 := kk + 8) (nn1 := nn + 7026) (by omega) (by omega) ?_
    have qu208 : asc (((((0 + t12n) + (kLen 4)) + (nLen v14)) + (kLen 5)) + (nLen z206)) (tcat ((((0 + t12n) + (kLen 4)) + (nLen v14)) + (kLen 5)) (tcat (((0 + t12n) + (kLen 4)) + (nLen v14)) (tcat ((0 + t12n) + (kLen 4)) (tcat (0 + t12n) (tcat 0 (fun _ => 0) f12) (kByt 4)) (nDig v14)) (kByt 5)) (nDig z206)) := asc_cat qu204 (numOK_asc h207.2)
    have eu208 : ∀ j, j < ((((0 + t12n) + (kLen 4)) + (nLen v14)) + (kLen 5)) + (nLen z206) → (tcat ((((0 + t12n) + (kLen 4)) + (nLen v14)) + (kLen 5)) (tcat (((0 + t12n) + (kLen 4)) + (nLen v14)) (tcat ((0 + t12n) + (kLen 4)) (tcat (0 + t12n) (tcat 0 (fun _ => 0) f12) (kByt 4)) (nDig v14)) (kByt 5)) (nDig z206)) j = (tcat ((((0 + t12n) + (kLen 4)) + (nLen v14)) + (kLen 5)) (tcat (((0 + t12n) + (kLen 4)) + (nLen v14)) (tcat ((0 + t12n) + (kLen 4)) (tcat (0 + t12n) (tcat 0 (fun _ => 0) t12f) (kByt 4)) (nDig v14)) (kByt 5)) (nDig z206)) j := tcat_eq eu204 (fun _ _ => rfl)
    refine g_eq (ws' := (List.append [(a12, .inr (0, [.ref w12, .int 0, .int 0, .int 0])), (w12, .inl (cB, t12n, .inl f12)), (b183, .inr (1, [.ref u208.1.1, .int 0, .int 0, .int (Int32.ofNat (((((0 + t12n) + (kLen 4)) + (nLen v14)) + (kLen 5)) + (nLen z206)))])), (u208.1.1, .inl (cB, u208.1.2.1, .inl u208.1.2.2))] (labX cB cC cI cO L0 ua v))) rfl rfl rfl ?_
    refine g_xVr (X := [(a12, .inr (0, [.ref w12, .int 0, .int 0, .int 0])), (w12, .inl (cB, t12n, .inl f12)), (b183, .inr (1, [.ref u208.1.1, .int 0, .int 0, .int (Int32.ofNat (((((0 + t12n) + (kLen 4)) + (nLen v14)) + (kLen 5)) + (nLen z206)))])), (u208.1.1, .inl (cB, u208.1.2.1, .inl u208.1.2.2))]) (pl := labX cB cC cI cO L0 ua v) (wr := [(a12, .inr (0, [.ref w12, .int 0, .int 0, .int 0])), (w12, .inl (cB, t12n, .inl f12))]) (As := []) (st := []) (b := b183) C0 jE_ok (xe_of C0 jE_ok E0.1.2) (xr_w C0 2 rfl rfl) (mJ4_toString_0e30d l D cB cC cI cO b183 u208.1.1 0 (((((0 + t12n) + (kLen 4)) + (nLen v14)) + (kLen 5)) + (nLen z206)) u208.1.2.1 u208.1.2.2 (tcat ((((0 + t12n) + (kLen 4)) + (nLen v14)) + (kLen 5)) (tcat (((0 + t12n) + (kLen 4)) + (nLen v14)) (tcat ((0 + t12n) + (kLen 4)) (tcat (0 + t12n) (tcat 0 (fun _ => 0) f12) (kByt 4)) (nDig v14)) (kByt 5)) (nDig z206)) (by omega) u208.2) hmJ4_toString_0e30d q_1064 ⟨Nat.le_of_ble_eq_true rfl, Nat.le_of_ble_eq_true rfl⟩ rfl rfl ⟨by omega, by omega⟩ rfl [2, 3] [0, 1] rfl rfl rfl rfl (by decide) rfl rfl (Nat.le_of_ble_eq_true rfl) dL_law_636 (fun u209 => ?_)
    refine g_widen (kk1 := kk + 10) (nn1 := nn + 7730) (by omega) (by omega) ?_
    obtain ⟨⟨tau209, twu209, tfu209⟩, hfitu209, hyu209⟩ := u209
    have hxu209 : ∀ j, j < (((((0 + t12n) + (kLen 4)) + (nLen v14)) + (kLen 5)) + (nLen z206)) → tfu209 j = (tcat ((((0 + t12n) + (kLen 4)) + (nLen v14)) + (kLen 5)) (tcat (((0 + t12n) + (kLen 4)) + (nLen v14)) (tcat ((0 + t12n) + (kLen 4)) (tcat (0 + t12n) (tcat 0 (fun _ => 0) t12f) (kByt 4)) (nDig v14)) (kByt 5)) (nDig z206)) j := fun j hj => (hyu209 j hj).trans (eu208 j hj)
    have hcu209 : ascB (((((0 + t12n) + (kLen 4)) + (nLen v14)) + (kLen 5)) + (nLen z206)) tfu209 := ⟨by omega, asc_of hyu209 qu208⟩
    refine g_ordP (P' := [(a12, .inr (0, [.ref w12, .int 0, .int 0, .int 0])), (w12, .inl (cB, t12n, .inl f12)), (tau209, .inr (0, [.ref twu209, .int 0, .int 0, .int 0])), (twu209, .inl (cB, (((((0 + t12n) + (kLen 4)) + (nLen v14)) + (kLen 5)) + (nLen z206)), .inl tfu209))]) (X := labX cB cC cI cO L0 ua v) [0, 1, 4, 5] rfl rfl rfl ?_
    refine g_eq (st' := [.ref tau209]) (ws' := (List.append [(a12, .inr (0, [.ref w12, .int 0, .int 0, .int 0])), (w12, .inl (cB, t12n, .inl f12)), (tau209, .inr (0, [.ref twu209, .int 0, .int 0, .int 0])), (twu209, .inl (cB, (((((0 + t12n) + (kLen 4)) + (nLen v14)) + (kLen 5)) + (nLen z206)), .inl tfu209))] (labX cB cC cI cO L0 ua v))) rfl rfl rfl ?_
    refine g_astore C0 (lv' := [(12, .ref tau209), (0, .ref g.2.2.1), (1, .ref L0), (2, .int v2), (3, .int v3), (4, .int v4), (5, .int v5), (6, .int v6), (7, .int v7), (8, .int v8), (9, .int v9), (11, .ref (g.1 0)), (13, .int v13), (14, .int v14)]) dL_law_639 (by decide) rfl ?_
    refine g_iinc C0 (lv' := [(13, .int (v13 + (1 : Int32))), (12, .ref tau209), (0, .ref g.2.2.1), (1, .ref L0), (2, .int v2), (3, .int v3), (4, .int v4), (5, .int v5), (6, .int v6), (7, .int v7), (8, .int v8), (9, .int v9), (11, .ref (g.1 0)), (14, .int v14)]) dL_law_641 12 rfl rfl (by decide) rfl ?_
    refine g_goto C0 (tgt := 555) dL_law_644 (by decide) ?_
    refine g_ordP (P := [(a12, .inr (0, [.ref w12, .int 0, .int 0, .int 0])), (w12, .inl (cB, t12n, .inl f12)), (tau209, .inr (0, [.ref twu209, .int 0, .int 0, .int 0])), (twu209, .inl (cB, (((((0 + t12n) + (kLen 4)) + (nLen v14)) + (kLen 5)) + (nLen z206)), .inl tfu209))]) (P' := [(tau209, .inr (0, [.ref twu209, .int 0, .int 0, .int 0])), (twu209, .inl (cB, (((((0 + t12n) + (kLen 4)) + (nLen v14)) + (kLen 5)) + (nLen z206)), .inl tfu209))]) (X := labX cB cC cI cO L0 ua v) [2, 3] rfl rfl rfl ?_
    refine g_lv [2, 3, 4, 5, 6, 7, 8, 9, 10, 11, 12, 1, 0] (lv' := [(0, .ref g.2.2.1), (1, .ref L0), (2, .int v2), (3, .int v3), (4, .int v4), (5, .int v5), (6, .int v6), (7, .int v7), (8, .int v8), (9, .int v9), (11, .ref (g.1 0)), (12, .ref tau209), (13, .int (v13 + (1 : Int32)))]) rfl ?_
    exact hrec555 v v2 v3 v4 v5 v6 v7 v8 v9 (kLen 0) (kByt 0) (((((0 + t12n) + (kLen 4)) + (nLen v14)) + (kLen 5)) + (nLen z206)) (tcat ((((0 + t12n) + (kLen 4)) + (nLen v14)) + (kLen 5)) (tcat (((0 + t12n) + (kLen 4)) + (nLen v14)) (tcat ((0 + t12n) + (kLen 4)) (tcat (0 + t12n) (tcat 0 (fun _ => 0) t12f) (kByt 4)) (nDig v14)) (kByt 5)) (nDig z206)) (v13 + (1 : Int32)) tau209 twu209 tfu209 hxu209 hcu209 _ _ hf (by omega) (by omega)
set_option maxHeartbeats 8000000 in
set_option maxRecDepth 100000 in
theorem bL_law_555_KW {p : Program} {l : Launch} {e : Env} {s : State} {m : MethodId} {args : Array Value} {below : List Frame} {meth : Method} {c : Code} {D : va_G} {cB cC cI cO : ClassId} {A : Nat → Prop} {g : LG} (C0 : gC RL cL_law 23 (some .boolean) p s m args meth c D (hTy cB cC cI cO) A) (E0 : hLw g A s) (hl0 : l.stackTraces = false) (K0 : Nat → Int32) (hK0 : fJ7_fill_53178 64 (fun _ => 0) (-1 : Int32) = some K0) {Q : State → Prop} (KE : ∀ (lv : List (Nat × Value)) (ws : va_W) (kk nn : Nat), kk ≤ room_1.cells → nn ≤ room_1.slots → gG p l e room_1 s m args below meth c D A 23 Q kk nn 1230 lv [.int 1] ws) (L0 : Nat) (ua : LA) (out : Unit) {B15a B15b : Nat} (rec15 : LV → Int32 → Option (Unit)) (hrec15 : ∀ (v : LV) (v2 : Int32)  (kk nn : Nat), rec15 v v2 = some out → kk + (B15a) ≤ room_1.cells → nn + (B15b) ≤ room_1.slots → gG p l e room_1 s m args below meth c D A 23 Q kk nn 15 [(0, .ref g.2.2.1), (1, .ref L0), (2, .int v2)] [] (List.append [] (labX cB cC cI cO L0 ua v))) : ∀ (n : Nat) (v : LV) (v2 : Int32) (v3 : Int32) (v4 : Int32) (v5 : Int32) (v6 : Int32) (v7 : Int32) (v8 : Int32) (v9 : Int32) (_ : Nat) (_ : Nat → Int32) (t12n : Nat) (t12f : Nat → Int32) (v13 : Int32) (a12 w12 : Nat) (f12 : Nat → Int32) (hx12 : ∀ j, j < t12n → f12 j = t12f j) (hc12 : ascB t12n f12) (kk nn : Nat), fL_law_555 g K0 rec15 n v v2 v3 v4 v5 v6 v7 v8 v9 (kLen 0) (kByt 0) t12n t12f v13 = some out → kk + (n * 12 + (3272 + B15a)) ≤ room_1.cells → nn + (n * 7742 + (34456 + B15b)) ≤ room_1.slots → gG p l e room_1 s m args below meth c D A 23 Q kk nn 555 [(0, .ref g.2.2.1), (1, .ref L0), (2, .int v2), (3, .int v3), (4, .int v4), (5, .int v5), (6, .int v6), (7, .int v7), (8, .int v8), (9, .int v9), (11, .ref (g.1 0)), (12, .ref a12), (13, .int v13)] [] (List.append [(a12, .inr (0, [.ref w12, .int 0, .int 0, .int 0])), (w12, .inl (cB, t12n, .inl f12))] (labX cB cC cI cO L0 ua v)) := by
  intro n
  induction n with
  | zero => intro v v2 v3 v4 v5 v6 v7 v8 v9 _ _ t12n t12f v13 a12 w12 f12 hx12 hc12 kk nn hf hb1 hb2; rw [fL_law_555] at hf; cases hf
  | succ n ih =>
    intro v v2 v3 v4 v5 v6 v7 v8 v9 _ _ t12n t12f v13 a12 w12 f12 hx12 hc12 kk nn hf hb1 hb2
    rw [fL_law_555] at hf
    refine g_iload C0 dL_law_555 12 rfl ?_
    refine g_iload C0 dL_law_557 4 rfl ?_
    refine g_icmp_ge C0 (tgt := 647) dL_law_559 (by decide) (fun c129 => ?_) (fun c129 => ?_)
    · rw [if_pos c129] at hf
      refine g_iconst C0 (v := (0 : Int32)) dL_law_647 (by decide) ?_
      refine g_istore C0 (lv' := [(13, .int (0 : Int32)), (0, .ref g.2.2.1), (1, .ref L0), (2, .int v2), (3, .int v3), (4, .int v4), (5, .int v5), (6, .int v6), (7, .int v7), (8, .int v8), (9, .int v9), (11, .ref (g.1 0)), (12, .ref a12)]) dL_law_648 (by decide) rfl ?_
      refine g_lv [1, 2, 3, 4, 5, 6, 7, 8, 9, 10, 11, 12, 0] (lv' := [(0, .ref g.2.2.1), (1, .ref L0), (2, .int v2), (3, .int v3), (4, .int v4), (5, .int v5), (6, .int v6), (7, .int v7), (8, .int v8), (9, .int v9), (11, .ref (g.1 0)), (12, .ref a12), (13, .int (0 : Int32))]) rfl ?_
      exact bL_law_650_KW C0 E0 hl0 K0 hK0 KE L0 ua out rec15 hrec15  7  v v2 v3 v4 v5 v6 v7 v8 v9 (kLen 0) (kByt 0) t12n t12f (0 : Int32) a12 w12 f12 hx12 hc12 _ _ hf (by omega) (by omega)
    · rw [if_neg c129] at hf
      refine g_aload_n C0 dL_law_562 rfl 1 rfl ?_
      refine g_iload C0 dL_law_563 12 rfl ?_
      obtain ⟨r130, er130, hf⟩ := hl_bd hf
      obtain ⟨z131, ez131, hf⟩ := hl_inl hf
      have kr130 := mg_keyAt l hl0 D cB cC cI cO L0 ua v v13 r130 er130
      rw [ez131] at kr130
      refine g_sufNi C0 E0.1.1 (P := [(a12, .inr (0, [.ref w12, .int 0, .int 0, .int 0])), (w12, .inl (cB, t12n, .inl f12))]) (X := labX cB cC cI cO L0 ua v) (X1 := labX cB cC cI cO L0 ua v) (As := [.int v13]) (st := []) kr130 hmX6_keyAt q_425 ⟨Nat.le_of_ble_eq_true rfl, Nat.le_of_ble_eq_true rfl⟩ ⟨by omega, by omega⟩ rfl rfl rfl rfl rfl 0 rfl rfl rfl (Nat.le_of_ble_eq_true rfl) dL_law_565 ?_
      refine g_istore C0 (lv' := [(14, .int z131), (0, .ref g.2.2.1), (1, .ref L0), (2, .int v2), (3, .int v3), (4, .int v4), (5, .int v5), (6, .int v6), (7, .int v7), (8, .int v8), (9, .int v9), (11, .ref (g.1 0)), (12, .ref a12), (13, .int v13)]) dL_law_568 (by decide) rfl ?_
      refine g_iload C0 dL_law_570 13 rfl ?_
      refine g_if_le C0 (tgt := 590) dL_law_572 (by decide) (fun c132 => ?_) (fun c132 => ?_)
      · rw [if_pos c132] at hf
        refine g_lv [1, 2, 3, 4, 5, 6, 7, 8, 9, 10, 11, 12, 13, 0] (lv' := [(0, .ref g.2.2.1), (1, .ref L0), (2, .int v2), (3, .int v3), (4, .int v4), (5, .int v5), (6, .int v6), (7, .int v7), (8, .int v8), (9, .int v9), (11, .ref (g.1 0)), (12, .ref a12), (13, .int v13), (14, .int z131)]) rfl ?_
        exact bL_law_590_KW C0 E0 hl0 K0 hK0 KE L0 ua out rec15 (fL_law_555 g K0 rec15 n) hrec15 ih   v v2 v3 v4 v5 v6 v7 v8 v9 (kLen 0) (kByt 0) t12n t12f v13 z131 a12 w12 f12 hx12 hc12 _ _ hf (by omega) (by omega)
      · rw [if_neg c132] at hf
        refine g_iload C0 dL_law_575 0 rfl ?_
        refine g_aload_n C0 dL_law_577 rfl 2 rfl ?_
        refine g_iload C0 dL_law_578 13 rfl ?_
        refine g_iconst C0 (v := (1 : Int32)) dL_law_580 (by decide) ?_
        refine g_isub C0 dL_law_581 ?_
        obtain ⟨r133, er133, hf⟩ := hl_bd hf
        obtain ⟨z134, ez134, hf⟩ := hl_inl hf
        have kr133 := mg_keyAt l hl0 D cB cC cI cO L0 ua v (v13 - (1 : Int32)) r133 er133
        rw [ez134] at kr133
        refine g_sufNi C0 E0.1.1 (P := [(a12, .inr (0, [.ref w12, .int 0, .int 0, .int 0])), (w12, .inl (cB, t12n, .inl f12))]) (X := labX cB cC cI cO L0 ua v) (X1 := labX cB cC cI cO L0 ua v) (As := [.int (v13 - (1 : Int32))]) (st := [.int z131]) kr133 hmX6_keyAt q_425 ⟨Nat.le_of_ble_eq_true rfl, Nat.le_of_ble_eq_true rfl⟩ ⟨by omega, by omega⟩ rfl rfl rfl rfl rfl 0 rfl rfl rfl (Nat.le_of_ble_eq_true rfl) dL_law_582 ?_
        refine g_icmp_gt C0 (tgt := 590) dL_law_585 (by decide) (fun c135 => ?_) (fun c135 => ?_)
        · rw [if_pos c135] at hf
          refine g_lv [1, 2, 3, 4, 5, 6, 7, 8, 9, 10, 11, 12, 13, 0] (lv' := [(0, .ref g.2.2.1), (1, .ref L0), (2, .int v2), (3, .int v3), (4, .int v4), (5, .int v5), (6, .int v6), (7, .int v7), (8, .int v8), (9, .int v9), (11, .ref (g.1 0)), (12, .ref a12), (13, .int v13), (14, .int z131)]) rfl ?_
          exact bL_law_590_KW C0 E0 hl0 K0 hK0 KE L0 ua out rec15 (fL_law_555 g K0 rec15 n) hrec15 ih   v v2 v3 v4 v5 v6 v7 v8 v9 (kLen 0) (kByt 0) t12n t12f v13 z131 a12 w12 f12 hx12 hc12 _ _ hf (by omega) (by omega)
        · rw [if_neg c135] at hf
          refine g_iconst C0 (v := (0 : Int32)) dL_law_588 (by decide) ?_
          cases hf
set_option maxHeartbeats 8000000 in
set_option maxRecDepth 100000 in
theorem bL_law_887_KK {p : Program} {l : Launch} {e : Env} {s : State} {m : MethodId} {args : Array Value} {below : List Frame} {meth : Method} {c : Code} {D : va_G} {cB cC cI cO : ClassId} {A : Nat → Prop} {g : LG} (C0 : gC RL cL_law 23 (some .boolean) p s m args meth c D (hTy cB cC cI cO) A) (E0 : hLw g A s) (hl0 : l.stackTraces = false) (K0 : Nat → Int32) (hK0 : fJ7_fill_53178 64 (fun _ => 0) (-1 : Int32) = some K0) {Q : State → Prop} (KE : ∀ (lv : List (Nat × Value)) (ws : va_W) (kk nn : Nat), kk ≤ room_1.cells → nn ≤ room_1.slots → gG p l e room_1 s m args below meth c D A 23 Q kk nn 1230 lv [.int 1] ws) (L0 : Nat) (ua : LA) (out : Unit) {B15a B15b : Nat} (rec15 : LV → Int32 → Option (Unit)) (hrec15 : ∀ (v : LV) (v2 : Int32)  (kk nn : Nat), rec15 v v2 = some out → kk + (B15a) ≤ room_1.cells → nn + (B15b) ≤ room_1.slots → gG p l e room_1 s m args below meth c D A 23 Q kk nn 15 [(0, .ref g.2.2.1), (1, .ref L0), (2, .int v2)] [] (List.append [] (labX cB cC cI cO L0 ua v))) : ∀ (v : LV) (v2 : Int32) (v3 : Int32) (v4 : Int32) (v8 : Int32) (_ : Nat) (_ : Nat → Int32) (_ : Nat) (_ : Nat → Int32) (k0 : Int32) (k1 : Int32)  (kk nn : Nat), fL_law_887 g K0 rec15  v v2 v3 v4 v8 (kLen 0) (kByt 0) (kLen 0) (kByt 0) k0 k1 = some out → kk + (1828 + B15a) ≤ room_1.cells → nn + (25792 + B15b) ≤ room_1.slots → gG p l e room_1 s m args below meth c D A 23 Q kk nn 887 [(0, .ref g.2.2.1), (1, .ref L0), (2, .int v2), (3, .int v3), (4, .int v4), (8, .int v8), (11, .ref (g.1 0)), (12, .ref (g.1 0))] [.int k0, .int k1] (List.append [] (labX cB cC cI cO L0 ua v)) := by
  intro v v2 v3 v4 v8 _ _ _ _ k0 k1 kk nn hf hb1 hb2
  unfold fL_law_887 at hf
  refine g_icmp_ne C0 (tgt := 944) dL_law_887 (by decide) (fun c104 => ?_) (fun c104 => ?_)
  · rw [if_neg c104] at hf
    refine g_iconst C0 (v := (0 : Int32)) dL_law_944 (by decide) ?_
    cases hf
  · rw [if_pos c104] at hf
    refine g_aload_n C0 dL_law_890 rfl 1 rfl ?_
    obtain ⟨r105, er105, hf⟩ := hl_bd hf
    refine g_suff C0 (P := []) (X := labX cB cC cI cO L0 ua v) (X1 := labX cB cC cI cO L0 ua v) (As := []) (st := []) (mg_load l D cB cC cI cO L0 ua v  r105 er105) hmX6_load q_529 ⟨Nat.le_of_ble_eq_true rfl, Nat.le_of_ble_eq_true rfl⟩ ⟨by omega, by omega⟩ rfl rfl rfl rfl rfl 0 rfl rfl rfl (Nat.le_of_ble_eq_true rfl) dL_law_891 ?_
    refine g_iload C0 dL_law_894 4 rfl ?_
    refine g_i2f C0 dL_law_896 ?_
    refine g_iload_n C0 dL_law_897 rfl 3 rfl ?_
    refine g_i2f C0 dL_law_898 ?_
    obtain ⟨n106, hf⟩ := hl_ifS hf
    refine g_fdiv C0 dL_law_899 (hl_n32P n106) ?_
    refine g_fcmp C0 dL_law_900 ?_
    refine g_if_ne C0 (tgt := 944) dL_law_901 (by decide) (fun c107 => ?_) (fun c107 => ?_)
    · rw [if_neg c107] at hf
      refine g_iconst C0 (v := (0 : Int32)) dL_law_944 (by decide) ?_
      cases hf
    · rw [if_pos c107] at hf
      refine g_aload_n C0 dL_law_904 rfl 1 rfl ?_
      obtain ⟨r108, er108, hf⟩ := hl_bd hf
      refine g_sufi C0 (P := []) (X := labX cB cC cI cO L0 ua v) (X1 := labX cB cC cI cO L0 ua v) (As := []) (st := []) (mg_loadBits l D cB cC cI cO L0 ua v  r108 er108) hmX6_loadBits q_537 ⟨Nat.le_of_ble_eq_true rfl, Nat.le_of_ble_eq_true rfl⟩ ⟨by omega, by omega⟩ rfl rfl rfl rfl rfl 0 rfl rfl rfl (Nat.le_of_ble_eq_true rfl) dL_law_905 ?_
      refine g_aload_n C0 dL_law_908 rfl 1 rfl ?_
      obtain ⟨r109, er109, hf⟩ := hl_bd hf
      refine g_suff C0 (P := []) (X := labX cB cC cI cO L0 ua v) (X1 := labX cB cC cI cO L0 ua v) (As := []) (st := [.int r108]) (mg_load l D cB cC cI cO L0 ua v  r109 er109) hmX6_load q_529 ⟨Nat.le_of_ble_eq_true rfl, Nat.le_of_ble_eq_true rfl⟩ ⟨by omega, by omega⟩ rfl rfl rfl rfl rfl 0 rfl rfl rfl (Nat.le_of_ble_eq_true rfl) dL_law_909 ?_
      obtain ⟨r110, er110, hf⟩ := hl_bd hf
      refine g_l0pi C0 (mJxf58ca_floatToIntBits_5c35a l D cB cC cI cO r109 r110 er110) hmJxf58ca_floatToIntBits_5c35a q_902 ⟨Nat.le_of_ble_eq_true rfl, Nat.le_of_ble_eq_true rfl⟩ ⟨by omega, by omega⟩ rfl rfl rfl rfl (Nat.le_of_ble_eq_true rfl) dL_law_912 ?_
      refine g_icmp_ne C0 (tgt := 944) dL_law_915 (by decide) (fun c111 => ?_) (fun c111 => ?_)
      · rw [if_neg c111] at hf
        refine g_iconst C0 (v := (0 : Int32)) dL_law_944 (by decide) ?_
        cases hf
      · rw [if_pos c111] at hf
        refine g_aload_n C0 dL_law_918 rfl 1 rfl ?_
        refine g_aload_n C0 dL_law_919 rfl 1 rfl ?_
        obtain ⟨r112, er112, hf⟩ := hl_bd hf
        refine g_sufi C0 (P := []) (X := labX cB cC cI cO L0 ua v) (X1 := labX cB cC cI cO L0 ua r112.2) (As := []) (st := [.ref L0]) (mg_writeSlots l D cB cC cI cO L0 ua v  r112 er112) hmX6_writeSlots q_639 ⟨Nat.le_of_ble_eq_true rfl, Nat.le_of_ble_eq_true rfl⟩ ⟨by omega, by omega⟩ rfl rfl rfl rfl rfl 0 rfl rfl rfl (Nat.le_of_ble_eq_true rfl) dL_law_920 ?_
        refine g_aload C0 dL_law_923 6 rfl ?_
        obtain ⟨r113, er113, hf⟩ := hl_bd hf
        have lr113 : fL_isLine r112.2 (kLen 0) (kByt 0) r112.1 = some r113 := (line_cong (fun _ _ => rfl)).trans er113
        refine g_lineS C0 (hLt_ok g _ _ _ _) (xl_K E0 (by decide : 0 < 6)) (P := []) (X := labX cB cC cI cO L0 ua r112.2) (X1 := labX cB cC cI cO L0 ua r112.2) (As := [.ref L0, .int r112.1, .ref (g.1 0)]) (st := []) (mL_isLine l hl0 D cB cC cI cO g L0 ua r112.2 (g.1 0) (g.2.1 0) (kLen 0) (kByt 0) r112.1 r113 (by decide) (kAsc 0 (by decide)) lr113) hmL_isLine q_832 ⟨Nat.le_of_ble_eq_true rfl, Nat.le_of_ble_eq_true rfl⟩ rfl rfl ⟨by omega, by omega⟩ rfl rfl rfl rfl (Nat.le_of_ble_eq_true rfl) dL_law_925 ?_
        refine g_if_eq C0 (tgt := 944) dL_law_928 (by decide) (fun c114 => ?_) (fun c114 => ?_)
        · rw [if_pos c114] at hf
          refine g_iconst C0 (v := (0 : Int32)) dL_law_944 (by decide) ?_
          cases hf
        · rw [if_neg c114] at hf
          refine g_aload_n C0 dL_law_931 rfl 1 rfl ?_
          refine g_aload_n C0 dL_law_932 rfl 1 rfl ?_
          obtain ⟨r115, er115, hf⟩ := hl_bd hf
          refine g_sufi C0 (P := []) (X := labX cB cC cI cO L0 ua r112.2) (X1 := labX cB cC cI cO L0 ua r115.2) (As := []) (st := [.ref L0]) (mg_writeKeys l D cB cC cI cO L0 ua r112.2  r115 er115) hmX6_writeKeys q_655 ⟨Nat.le_of_ble_eq_true rfl, Nat.le_of_ble_eq_true rfl⟩ ⟨by omega, by omega⟩ rfl rfl rfl rfl rfl 0 rfl rfl rfl (Nat.le_of_ble_eq_true rfl) dL_law_933 ?_
          refine g_aload C0 dL_law_936 7 rfl ?_
          obtain ⟨r116, er116, hf⟩ := hl_bd hf
          have lr116 : fL_isLine r115.2 (kLen 0) (kByt 0) r115.1 = some r116 := (line_cong (fun _ _ => rfl)).trans er116
          refine g_lineS C0 (hLt_ok g _ _ _ _) (xl_K E0 (by decide : 0 < 6)) (P := []) (X := labX cB cC cI cO L0 ua r115.2) (X1 := labX cB cC cI cO L0 ua r115.2) (As := [.ref L0, .int r115.1, .ref (g.1 0)]) (st := []) (mL_isLine l hl0 D cB cC cI cO g L0 ua r115.2 (g.1 0) (g.2.1 0) (kLen 0) (kByt 0) r115.1 r116 (by decide) (kAsc 0 (by decide)) lr116) hmL_isLine q_832 ⟨Nat.le_of_ble_eq_true rfl, Nat.le_of_ble_eq_true rfl⟩ rfl rfl ⟨by omega, by omega⟩ rfl rfl rfl rfl (Nat.le_of_ble_eq_true rfl) dL_law_938 ?_
          refine g_if_ne C0 (tgt := 946) dL_law_941 (by decide) (fun c117 => ?_) (fun c117 => ?_)
          · rw [if_neg c117] at hf
            refine g_iload C0 dL_law_946 4 rfl ?_
            refine g_if_le C0 (tgt := 983) dL_law_948 (by decide) (fun c118 => ?_) (fun c118 => ?_)
            · rw [if_pos c118] at hf
              refine g_lv [0, 1, 2] (lv' := [(0, .ref g.2.2.1), (1, .ref L0), (2, .int v2)]) rfl ?_
              exact bL_law_983 C0 E0 hl0 K0 hK0 KE L0 ua out rec15 hrec15   r115.2 v2  _ _ hf (by omega) (by omega)
            · rw [if_neg c118] at hf
              refine g_aload_n C0 dL_law_951 rfl 1 rfl ?_
              obtain ⟨r119, er119, hf⟩ := hl_bd hf
              obtain ⟨z120, ez120, hf⟩ := hl_inl hf
              have kr119 := mg_meanProbes l hl0 D cB cC cI cO L0 ua r115.2  r119 er119
              rw [ez120] at kr119
              refine g_sufNd C0 E0.1.1 (P := []) (X := labX cB cC cI cO L0 ua r115.2) (X1 := labX cB cC cI cO L0 ua r115.2) (As := []) (st := []) kr119 hmX6_meanProbes q_494 ⟨Nat.le_of_ble_eq_true rfl, Nat.le_of_ble_eq_true rfl⟩ ⟨by omega, by omega⟩ rfl rfl rfl rfl rfl 0 rfl rfl rfl (Nat.le_of_ble_eq_true rfl) dL_law_952 ?_
              refine g_iload C0 dL_law_955 5 rfl ?_
              refine g_i2d C0 dL_law_957 ?_
              refine g_iload C0 dL_law_958 4 rfl ?_
              refine g_i2d C0 dL_law_960 ?_
              obtain ⟨n121, hf⟩ := hl_ifS hf
              refine g_ddiv C0 dL_law_961 (hl_n64P n121) ?_
              refine g_dcmp C0 dL_law_962 ?_
              refine g_if_ne C0 (tgt := 981) dL_law_963 (by decide) (fun c122 => ?_) (fun c122 => ?_)
              · rw [if_neg c122] at hf
                refine g_iconst C0 (v := (0 : Int32)) dL_law_981 (by decide) ?_
                cases hf
              · rw [if_pos c122] at hf
                refine g_aload_n C0 dL_law_966 rfl 1 rfl ?_
                obtain ⟨r123, er123, hf⟩ := hl_bd hf
                obtain ⟨z124, ez124, hf⟩ := hl_inl hf
                have kr123 := mg_meanProbesBits l hl0 D cB cC cI cO L0 ua r115.2  r123 er123
                rw [ez124] at kr123
                refine g_sufNl C0 E0.1.1 (P := []) (X := labX cB cC cI cO L0 ua r115.2) (X1 := labX cB cC cI cO L0 ua r115.2) (As := []) (st := []) kr123 hmX6_meanProbesBits q_518 ⟨Nat.le_of_ble_eq_true rfl, Nat.le_of_ble_eq_true rfl⟩ ⟨by omega, by omega⟩ rfl rfl rfl rfl rfl 0 rfl rfl rfl (Nat.le_of_ble_eq_true rfl) dL_law_967 ?_
                refine g_aload_n C0 dL_law_970 rfl 1 rfl ?_
                obtain ⟨r125, er125, hf⟩ := hl_bd hf
                obtain ⟨z126, ez126, hf⟩ := hl_inl hf
                have kr125 := mg_meanProbes l hl0 D cB cC cI cO L0 ua r115.2  r125 er125
                rw [ez126] at kr125
                refine g_sufNd C0 E0.1.1 (P := []) (X := labX cB cC cI cO L0 ua r115.2) (X1 := labX cB cC cI cO L0 ua r115.2) (As := []) (st := [.long z124]) kr125 hmX6_meanProbes q_494 ⟨Nat.le_of_ble_eq_true rfl, Nat.le_of_ble_eq_true rfl⟩ ⟨by omega, by omega⟩ rfl rfl rfl rfl rfl 0 rfl rfl rfl (Nat.le_of_ble_eq_true rfl) dL_law_971 ?_
                obtain ⟨r127, er127, hf⟩ := hl_bd hf
                refine g_l0pl C0 (mJxe99ae_doubleToLongBits_ccdee l D cB cC cI cO z126 r127 er127) hmJxe99ae_doubleToLongBits_ccdee q_892 ⟨Nat.le_of_ble_eq_true rfl, Nat.le_of_ble_eq_true rfl⟩ ⟨by omega, by omega⟩ rfl rfl rfl rfl (Nat.le_of_ble_eq_true rfl) dL_law_974 ?_
                refine g_lcmp C0 dL_law_977 ?_
                refine g_if_eq C0 (tgt := 983) dL_law_978 (by decide) (fun c128 => ?_) (fun c128 => ?_)
                · rw [if_pos c128] at hf
                  refine g_lv [0, 1, 2] (lv' := [(0, .ref g.2.2.1), (1, .ref L0), (2, .int v2)]) rfl ?_
                  exact bL_law_983 C0 E0 hl0 K0 hK0 KE L0 ua out rec15 hrec15   r115.2 v2  _ _ hf (by omega) (by omega)
                · rw [if_neg c128] at hf
                  refine g_iconst C0 (v := (0 : Int32)) dL_law_981 (by decide) ?_
                  cases hf
          · rw [if_pos c117] at hf
            refine g_iconst C0 (v := (0 : Int32)) dL_law_944 (by decide) ?_
            cases hf
set_option maxHeartbeats 8000000 in
set_option maxRecDepth 100000 in
theorem bL_law_769_KK {p : Program} {l : Launch} {e : Env} {s : State} {m : MethodId} {args : Array Value} {below : List Frame} {meth : Method} {c : Code} {D : va_G} {cB cC cI cO : ClassId} {A : Nat → Prop} {g : LG} (C0 : gC RL cL_law 23 (some .boolean) p s m args meth c D (hTy cB cC cI cO) A) (E0 : hLw g A s) (hl0 : l.stackTraces = false) (K0 : Nat → Int32) (hK0 : fJ7_fill_53178 64 (fun _ => 0) (-1 : Int32) = some K0) {Q : State → Prop} (KE : ∀ (lv : List (Nat × Value)) (ws : va_W) (kk nn : Nat), kk ≤ room_1.cells → nn ≤ room_1.slots → gG p l e room_1 s m args below meth c D A 23 Q kk nn 1230 lv [.int 1] ws) (L0 : Nat) (ua : LA) (out : Unit) {B15a B15b : Nat} {B650a B650b : Nat} (rec15 : LV → Int32 → Option (Unit)) (rec650 : LV → Int32 → Int32 → Int32 → Int32 → Int32 → Int32 → Int32 → Int32 → Nat → (Nat → Int32) → Nat → (Nat → Int32) → Int32 → Option (Unit)) (hrec15 : ∀ (v : LV) (v2 : Int32)  (kk nn : Nat), rec15 v v2 = some out → kk + (B15a) ≤ room_1.cells → nn + (B15b) ≤ room_1.slots → gG p l e room_1 s m args below meth c D A 23 Q kk nn 15 [(0, .ref g.2.2.1), (1, .ref L0), (2, .int v2)] [] (List.append [] (labX cB cC cI cO L0 ua v))) (hrec650 : ∀ (v : LV) (v2 : Int32) (v3 : Int32) (v4 : Int32) (v5 : Int32) (v6 : Int32) (v7 : Int32) (v8 : Int32) (v9 : Int32) (_ : Nat) (_ : Nat → Int32) (_ : Nat) (_ : Nat → Int32) (v13 : Int32)  (kk nn : Nat), rec650 v v2 v3 v4 v5 v6 v7 v8 v9 (kLen 0) (kByt 0) (kLen 0) (kByt 0) v13 = some out → kk + (B650a) ≤ room_1.cells → nn + (B650b) ≤ room_1.slots → gG p l e room_1 s m args below meth c D A 23 Q kk nn 650 [(0, .ref g.2.2.1), (1, .ref L0), (2, .int v2), (3, .int v3), (4, .int v4), (5, .int v5), (6, .int v6), (7, .int v7), (8, .int v8), (9, .int v9), (11, .ref (g.1 0)), (12, .ref (g.1 0)), (13, .int v13)] [] (List.append [] (labX cB cC cI cO L0 ua v))) : ∀ (v : LV) (v2 : Int32) (v3 : Int32) (v4 : Int32) (v5 : Int32) (v6 : Int32) (v7 : Int32) (v8 : Int32) (v9 : Int32) (_ : Nat) (_ : Nat → Int32) (_ : Nat) (_ : Nat → Int32) (v13 : Int32)  (kk nn : Nat), fL_law_769 g K0 rec15 rec650  v v2 v3 v4 v5 v6 v7 v8 v9 (kLen 0) (kByt 0) (kLen 0) (kByt 0) v13 = some out → kk + (0 + B650a) ≤ room_1.cells → nn + (0 + B650b) ≤ room_1.slots → gG p l e room_1 s m args below meth c D A 23 Q kk nn 769 [(0, .ref g.2.2.1), (1, .ref L0), (2, .int v2), (3, .int v3), (4, .int v4), (5, .int v5), (6, .int v6), (7, .int v7), (8, .int v8), (9, .int v9), (11, .ref (g.1 0)), (12, .ref (g.1 0)), (13, .int v13)] [] (List.append [] (labX cB cC cI cO L0 ua v)) := by
  intro v v2 v3 v4 v5 v6 v7 v8 v9 _ _ _ _ v13 kk nn hf hb1 hb2
  unfold fL_law_769 at hf
  refine g_iinc C0 (lv' := [(13, .int (v13 + (1 : Int32))), (0, .ref g.2.2.1), (1, .ref L0), (2, .int v2), (3, .int v3), (4, .int v4), (5, .int v5), (6, .int v6), (7, .int v7), (8, .int v8), (9, .int v9), (11, .ref (g.1 0)), (12, .ref (g.1 0))]) dL_law_769 12 rfl rfl (by decide) rfl ?_
  refine g_goto C0 (tgt := 650) dL_law_772 (by decide) ?_
  refine g_lv [1, 2, 3, 4, 5, 6, 7, 8, 9, 10, 11, 12, 0] (lv' := [(0, .ref g.2.2.1), (1, .ref L0), (2, .int v2), (3, .int v3), (4, .int v4), (5, .int v5), (6, .int v6), (7, .int v7), (8, .int v8), (9, .int v9), (11, .ref (g.1 0)), (12, .ref (g.1 0)), (13, .int (v13 + (1 : Int32)))]) rfl ?_
  exact hrec650 v v2 v3 v4 v5 v6 v7 v8 v9 (kLen 0) (kByt 0) (kLen 0) (kByt 0) (v13 + (1 : Int32))  _ _ hf (by omega) (by omega)
set_option maxHeartbeats 8000000 in
set_option maxRecDepth 100000 in
theorem bL_law_650_KK {p : Program} {l : Launch} {e : Env} {s : State} {m : MethodId} {args : Array Value} {below : List Frame} {meth : Method} {c : Code} {D : va_G} {cB cC cI cO : ClassId} {A : Nat → Prop} {g : LG} (C0 : gC RL cL_law 23 (some .boolean) p s m args meth c D (hTy cB cC cI cO) A) (E0 : hLw g A s) (hl0 : l.stackTraces = false) (K0 : Nat → Int32) (hK0 : fJ7_fill_53178 64 (fun _ => 0) (-1 : Int32) = some K0) {Q : State → Prop} (KE : ∀ (lv : List (Nat × Value)) (ws : va_W) (kk nn : Nat), kk ≤ room_1.cells → nn ≤ room_1.slots → gG p l e room_1 s m args below meth c D A 23 Q kk nn 1230 lv [.int 1] ws) (L0 : Nat) (ua : LA) (out : Unit) {B15a B15b : Nat} (rec15 : LV → Int32 → Option (Unit)) (hrec15 : ∀ (v : LV) (v2 : Int32)  (kk nn : Nat), rec15 v v2 = some out → kk + (B15a) ≤ room_1.cells → nn + (B15b) ≤ room_1.slots → gG p l e room_1 s m args below meth c D A 23 Q kk nn 15 [(0, .ref g.2.2.1), (1, .ref L0), (2, .int v2)] [] (List.append [] (labX cB cC cI cO L0 ua v))) : ∀ (n : Nat) (v : LV) (v2 : Int32) (v3 : Int32) (v4 : Int32) (v5 : Int32) (v6 : Int32) (v7 : Int32) (v8 : Int32) (v9 : Int32) (_ : Nat) (_ : Nat → Int32) (_ : Nat) (_ : Nat → Int32) (v13 : Int32)  (kk nn : Nat), fL_law_650 g K0 rec15 n v v2 v3 v4 v5 v6 v7 v8 v9 (kLen 0) (kByt 0) (kLen 0) (kByt 0) v13 = some out → kk + (n * 206 + (1830 + B15a)) ≤ room_1.cells → nn + (n * 1236 + (25804 + B15b)) ≤ room_1.slots → gG p l e room_1 s m args below meth c D A 23 Q kk nn 650 [(0, .ref g.2.2.1), (1, .ref L0), (2, .int v2), (3, .int v3), (4, .int v4), (5, .int v5), (6, .int v6), (7, .int v7), (8, .int v8), (9, .int v9), (11, .ref (g.1 0)), (12, .ref (g.1 0)), (13, .int v13)] [] (List.append [] (labX cB cC cI cO L0 ua v)) := by
  intro n
  induction n with
  | zero => intro v v2 v3 v4 v5 v6 v7 v8 v9 _ _ _ _ v13 kk nn hf hb1 hb2; rw [fL_law_650] at hf; cases hf
  | succ n ih =>
    intro v v2 v3 v4 v5 v6 v7 v8 v9 _ _ _ _ v13 kk nn hf hb1 hb2
    rw [fL_law_650] at hf
    refine g_iload C0 dL_law_650 12 rfl ?_
    refine g_bipush C0 (v := (6 : Int32)) dL_law_652 (by decide) ?_
    refine g_icmp_ge C0 (tgt := 775) dL_law_654 (by decide) (fun c29 => ?_) (fun c29 => ?_)
    · rw [if_pos c29] at hf
      refine g_aload_n C0 dL_law_775 rfl 1 rfl ?_
      obtain ⟨r30, er30, hf⟩ := hl_bd hf
      refine g_sufi C0 (P := []) (X := labX cB cC cI cO L0 ua v) (X1 := labX cB cC cI cO L0 ua v) (As := []) (st := []) (mg_size l D cB cC cI cO L0 ua v  r30 er30) hmX6_size q_197 ⟨Nat.le_of_ble_eq_true rfl, Nat.le_of_ble_eq_true rfl⟩ ⟨by omega, by omega⟩ rfl rfl rfl rfl rfl 0 rfl rfl rfl (Nat.le_of_ble_eq_true rfl) dL_law_776 ?_
      refine g_iload C0 dL_law_779 4 rfl ?_
      refine g_icmp_ne C0 (tgt := 944) dL_law_781 (by decide) (fun c31 => ?_) (fun c31 => ?_)
      · rw [if_neg c31] at hf
        refine g_iconst C0 (v := (0 : Int32)) dL_law_944 (by decide) ?_
        cases hf
      · rw [if_pos c31] at hf
        refine g_aload_n C0 dL_law_784 rfl 1 rfl ?_
        obtain ⟨r32, er32, hf⟩ := hl_bd hf
        refine g_sufi C0 (P := []) (X := labX cB cC cI cO L0 ua v) (X1 := labX cB cC cI cO L0 ua v) (As := []) (st := []) (mg_tombstones l D cB cC cI cO L0 ua v  r32 er32) hmX6_tombstones q_205 ⟨Nat.le_of_ble_eq_true rfl, Nat.le_of_ble_eq_true rfl⟩ ⟨by omega, by omega⟩ rfl rfl rfl rfl rfl 0 rfl rfl rfl (Nat.le_of_ble_eq_true rfl) dL_law_785 ?_
        refine g_iload C0 dL_law_788 5 rfl ?_
        refine g_icmp_ne C0 (tgt := 944) dL_law_790 (by decide) (fun c33 => ?_) (fun c33 => ?_)
        · rw [if_neg c33] at hf
          refine g_iconst C0 (v := (0 : Int32)) dL_law_944 (by decide) ?_
          cases hf
        · rw [if_pos c33] at hf
          refine g_aload_n C0 dL_law_793 rfl 1 rfl ?_
          obtain ⟨r34, er34, hf⟩ := hl_bd hf
          refine g_sufi C0 (P := []) (X := labX cB cC cI cO L0 ua v) (X1 := labX cB cC cI cO L0 ua v) (As := []) (st := []) (mg_clusters l D cB cC cI cO L0 ua v  r34 er34) hmX6_clusters q_449 ⟨Nat.le_of_ble_eq_true rfl, Nat.le_of_ble_eq_true rfl⟩ ⟨by omega, by omega⟩ rfl rfl rfl rfl rfl 0 rfl rfl rfl (Nat.le_of_ble_eq_true rfl) dL_law_794 ?_
          refine g_iload C0 dL_law_797 6 rfl ?_
          refine g_icmp_ne C0 (tgt := 944) dL_law_799 (by decide) (fun c35 => ?_) (fun c35 => ?_)
          · rw [if_neg c35] at hf
            refine g_iconst C0 (v := (0 : Int32)) dL_law_944 (by decide) ?_
            cases hf
          · rw [if_pos c35] at hf
            refine g_aload_n C0 dL_law_802 rfl 1 rfl ?_
            obtain ⟨r36, er36, hf⟩ := hl_bd hf
            refine g_sufi C0 (P := []) (X := labX cB cC cI cO L0 ua v) (X1 := labX cB cC cI cO L0 ua v) (As := []) (st := []) (mg_largestCluster l D cB cC cI cO L0 ua v  r36 er36) hmX6_largestCluster q_468 ⟨Nat.le_of_ble_eq_true rfl, Nat.le_of_ble_eq_true rfl⟩ ⟨by omega, by omega⟩ rfl rfl rfl rfl rfl 0 rfl rfl rfl (Nat.le_of_ble_eq_true rfl) dL_law_803 ?_
            refine g_iload C0 dL_law_806 7 rfl ?_
            refine g_icmp_ne C0 (tgt := 944) dL_law_808 (by decide) (fun c37 => ?_) (fun c37 => ?_)
            · rw [if_neg c37] at hf
              refine g_iconst C0 (v := (0 : Int32)) dL_law_944 (by decide) ?_
              cases hf
            · rw [if_pos c37] at hf
              refine g_aload_n C0 dL_law_811 rfl 1 rfl ?_
              obtain ⟨r38, er38, hf⟩ := hl_bd hf
              refine g_sufi C0 (P := []) (X := labX cB cC cI cO L0 ua v) (X1 := labX cB cC cI cO L0 ua v) (As := []) (st := []) (mg_largestClusterByHalves l D cB cC cI cO L0 ua v  r38 er38) hmX6_largestClusterByHalves q_478 ⟨Nat.le_of_ble_eq_true rfl, Nat.le_of_ble_eq_true rfl⟩ ⟨by omega, by omega⟩ rfl rfl rfl rfl rfl 0 rfl rfl rfl (Nat.le_of_ble_eq_true rfl) dL_law_812 ?_
              refine g_iload C0 dL_law_815 7 rfl ?_
              refine g_icmp_ne C0 (tgt := 944) dL_law_817 (by decide) (fun c39 => ?_) (fun c39 => ?_)
              · rw [if_neg c39] at hf
                refine g_iconst C0 (v := (0 : Int32)) dL_law_944 (by decide) ?_
                cases hf
              · rw [if_pos c39] at hf
                refine g_aload_n C0 dL_law_820 rfl 1 rfl ?_
                obtain ⟨r40, er40, hf⟩ := hl_bd hf
                refine g_hSi C0 E0 (P := []) (X := labX cB cC cI cO L0 ua v) (X1 := labX cB cC cI cO L0 ua v) (As := [.ref L0]) (st := []) (mL_hardestKey l hl0 D cB cC cI cO g L0 ua v  r40 er40) hmL_hardestKey q_728 ⟨Nat.le_of_ble_eq_true rfl, Nat.le_of_ble_eq_true rfl⟩ rfl rfl ⟨by omega, by omega⟩ rfl rfl rfl rfl (Nat.le_of_ble_eq_true rfl) dL_law_821 ?_
                refine g_iload C0 dL_law_824 9 rfl ?_
                refine g_icmp_ne C0 (tgt := 944) dL_law_826 (by decide) (fun c41 => ?_) (fun c41 => ?_)
                · rw [if_neg c41] at hf
                  refine g_iconst C0 (v := (0 : Int32)) dL_law_944 (by decide) ?_
                  cases hf
                · rw [if_pos c41] at hf
                  refine g_aload_n C0 dL_law_829 rfl 1 rfl ?_
                  refine g_iload C0 dL_law_830 4 rfl ?_
                  obtain ⟨r42, er42, hf⟩ := hl_bd hf
                  refine g_hSi C0 E0 (P := []) (X := labX cB cC cI cO L0 ua v) (X1 := labX cB cC cI cO L0 ua v) (As := [.ref L0, .int v4]) (st := []) (mL_keyAt l hl0 D cB cC cI cO g L0 ua v v4 r42 er42) hmL_keyAt q_725 ⟨Nat.le_of_ble_eq_true rfl, Nat.le_of_ble_eq_true rfl⟩ rfl rfl ⟨by omega, by omega⟩ rfl rfl rfl rfl (Nat.le_of_ble_eq_true rfl) dL_law_832 ?_
                  refine g_sipush C0 (v := (-30000 : Int32)) dL_law_835 (by decide) ?_
                  refine g_icmp_ne C0 (tgt := 944) dL_law_838 (by decide) (fun c43 => ?_) (fun c43 => ?_)
                  · rw [if_neg c43] at hf
                    refine g_iconst C0 (v := (0 : Int32)) dL_law_944 (by decide) ?_
                    cases hf
                  · rw [if_pos c43] at hf
                    refine g_aload_n C0 dL_law_841 rfl 1 rfl ?_
                    obtain ⟨r44, er44, hf⟩ := hl_bd hf
                    refine g_sufi C0 (P := []) (X := labX cB cC cI cO L0 ua v) (X1 := labX cB cC cI cO L0 ua r44.2) (As := []) (st := []) (mg_isConsistent l D cB cC cI cO L0 ua v  r44 er44) hmX6_isConsistent q_600 ⟨Nat.le_of_ble_eq_true rfl, Nat.le_of_ble_eq_true rfl⟩ ⟨by omega, by omega⟩ rfl rfl rfl rfl rfl 0 rfl rfl rfl (Nat.le_of_ble_eq_true rfl) dL_law_842 ?_
                    refine g_if_eq C0 (tgt := 944) dL_law_845 (by decide) (fun c45 => ?_) (fun c45 => ?_)
                    · rw [if_pos c45] at hf
                      refine g_iconst C0 (v := (0 : Int32)) dL_law_944 (by decide) ?_
                      cases hf
                    · rw [if_neg c45] at hf
                      refine g_aload_n C0 dL_law_848 rfl 1 rfl ?_
                      obtain ⟨r46, er46, hf⟩ := hl_bd hf
                      refine g_sufi C0 (P := []) (X := labX cB cC cI cO L0 ua r44.2) (X1 := labX cB cC cI cO L0 ua r44.2) (As := []) (st := []) (mg_growths l D cB cC cI cO L0 ua r44.2  r46 er46) hmX6_growths q_221 ⟨Nat.le_of_ble_eq_true rfl, Nat.le_of_ble_eq_true rfl⟩ ⟨by omega, by omega⟩ rfl rfl rfl rfl rfl 0 rfl rfl rfl (Nat.le_of_ble_eq_true rfl) dL_law_849 ?_
                      refine g_aload_n C0 dL_law_852 rfl 1 rfl ?_
                      obtain ⟨r47, er47, hf⟩ := hl_bd hf
                      refine g_sufi C0 (P := []) (X := labX cB cC cI cO L0 ua r44.2) (X1 := labX cB cC cI cO L0 ua r44.2) (As := []) (st := [.int r46]) (mg_rebuilds l D cB cC cI cO L0 ua r44.2  r47 er47) hmX6_rebuilds q_217 ⟨Nat.le_of_ble_eq_true rfl, Nat.le_of_ble_eq_true rfl⟩ ⟨by omega, by omega⟩ rfl rfl rfl rfl rfl 0 rfl rfl rfl (Nat.le_of_ble_eq_true rfl) dL_law_853 ?_
                      refine g_icmp_gt C0 (tgt := 944) dL_law_856 (by decide) (fun c48 => ?_) (fun c48 => ?_)
                      · rw [if_pos c48] at hf
                        refine g_iconst C0 (v := (0 : Int32)) dL_law_944 (by decide) ?_
                        cases hf
                      · rw [if_neg c48] at hf
                        refine g_aload_n C0 dL_law_859 rfl 1 rfl ?_
                        obtain ⟨r49, er49, hf⟩ := hl_bd hf
                        refine g_sufi C0 (P := []) (X := labX cB cC cI cO L0 ua r44.2) (X1 := labX cB cC cI cO L0 ua r44.2) (As := []) (st := []) (mg_isNearLimit l D cB cC cI cO L0 ua r44.2  r49 er49) hmX6_isNearLimit q_225 ⟨Nat.le_of_ble_eq_true rfl, Nat.le_of_ble_eq_true rfl⟩ ⟨by omega, by omega⟩ rfl rfl rfl rfl rfl 0 rfl rfl rfl (Nat.le_of_ble_eq_true rfl) dL_law_860 ?_
                        refine g_bipush C0 (v := (100 : Int32)) dL_law_863 (by decide) ?_
                        refine g_iload C0 dL_law_865 4 rfl ?_
                        refine g_iload C0 dL_law_867 5 rfl ?_
                        refine g_iadd C0 dL_law_869 ?_
                        refine g_iconst C0 (v := (1 : Int32)) dL_law_870 (by decide) ?_
                        refine g_iadd C0 dL_law_871 ?_
                        refine g_imul C0 dL_law_872 ?_
                        refine g_aload_n C0 dL_law_873 rfl 1 rfl ?_
                        obtain ⟨r50, er50, hf⟩ := hl_bd hf
                        refine g_sufi C0 (P := []) (X := labX cB cC cI cO L0 ua r44.2) (X1 := labX cB cC cI cO L0 ua r44.2) (As := []) (st := [.int ((100 : Int32) * ((v4 + v5) + (1 : Int32))), .int r49]) (mg_limit l D cB cC cI cO L0 ua r44.2  r50 er50) hmX6_limit q_213 ⟨Nat.le_of_ble_eq_true rfl, Nat.le_of_ble_eq_true rfl⟩ ⟨by omega, by omega⟩ rfl rfl rfl rfl rfl 0 rfl rfl rfl (Nat.le_of_ble_eq_true rfl) dL_law_874 ?_
                        refine g_iload_n C0 dL_law_877 rfl 3 rfl ?_
                        refine g_imul C0 dL_law_878 ?_
                        refine g_icmp_le C0 (tgt := 886) dL_law_879 (by decide) (fun c51 => ?_) (fun c51 => ?_)
                        · rw [if_pos c51] at hf
                          refine g_iconst C0 (v := (0 : Int32)) dL_law_886 (by decide) ?_
                          refine g_lv [0, 1, 2, 3, 4, 8, 10, 11] (lv' := [(0, .ref g.2.2.1), (1, .ref L0), (2, .int v2), (3, .int v3), (4, .int v4), (8, .int v8), (11, .ref (g.1 0)), (12, .ref (g.1 0))]) rfl ?_
                          exact bL_law_887_KK C0 E0 hl0 K0 hK0 KE L0 ua out rec15 hrec15   r44.2 v2 v3 v4 v8 (kLen 0) (kByt 0) (kLen 0) (kByt 0) (0 : Int32) r49  _ _ hf (by omega) (by omega)
                        · rw [if_neg c51] at hf
                          refine g_iconst C0 (v := (1 : Int32)) dL_law_882 (by decide) ?_
                          refine g_goto C0 (tgt := 887) dL_law_883 (by decide) ?_
                          refine g_lv [0, 1, 2, 3, 4, 8, 10, 11] (lv' := [(0, .ref g.2.2.1), (1, .ref L0), (2, .int v2), (3, .int v3), (4, .int v4), (8, .int v8), (11, .ref (g.1 0)), (12, .ref (g.1 0))]) rfl ?_
                          exact bL_law_887_KK C0 E0 hl0 K0 hK0 KE L0 ua out rec15 hrec15   r44.2 v2 v3 v4 v8 (kLen 0) (kByt 0) (kLen 0) (kByt 0) (1 : Int32) r49  _ _ hf (by omega) (by omega)
    · rw [if_neg c29] at hf
      refine g_aload_n C0 dL_law_657 rfl 0 rfl ?_
      refine g_bipush C0 (v := (90 : Int32)) dL_law_658 (by decide) ?_
      refine g_bipush C0 (v := (6 : Int32)) dL_law_660 (by decide) ?_
      refine g_iload_n C0 dL_law_662 rfl 2 rfl ?_
      refine g_imul C0 dL_law_663 ?_
      refine g_iadd C0 dL_law_664 ?_
      refine g_iload C0 dL_law_665 12 rfl ?_
      refine g_iadd C0 dL_law_667 ?_
      refine g_sipush C0 (v := (10000 : Int32)) dL_law_668 (by decide) ?_
      obtain ⟨r52, er52, hf⟩ := hl_bd hf
      refine g_l0i C0 E0 (mL_some l hl0 D cB cC cI cO g (((90 : Int32) + ((6 : Int32) * v2)) + v13) (10000 : Int32) r52 er52) hmL_some q_667 ⟨Nat.le_of_ble_eq_true rfl, Nat.le_of_ble_eq_true rfl⟩ rfl rfl ⟨by omega, by omega⟩ rfl rfl (Nat.le_of_ble_eq_true rfl) dL_law_671 ?_
      refine g_istore C0 (lv' := [(14, .int r52), (0, .ref g.2.2.1), (1, .ref L0), (2, .int v2), (3, .int v3), (4, .int v4), (5, .int v5), (6, .int v6), (7, .int v7), (8, .int v8), (9, .int v9), (11, .ref (g.1 0)), (12, .ref (g.1 0)), (13, .int v13)]) dL_law_674 (by decide) rfl ?_
      refine g_aload_n C0 dL_law_676 rfl 1 rfl ?_
      refine g_bipush C0 (v := (110 : Int32)) dL_law_677 (by decide) ?_
      refine g_iload C0 dL_law_679 13 rfl ?_
      refine g_iadd C0 dL_law_681 ?_
      refine g_iload_n C0 dL_law_682 rfl 4 rfl ?_
      obtain ⟨r53, er53, hf⟩ := hl_bd hf
      refine g_l0i C0 E0 (mL_some l hl0 D cB cC cI cO g ((110 : Int32) + v13) v3 r53 er53) hmL_some q_667 ⟨Nat.le_of_ble_eq_true rfl, Nat.le_of_ble_eq_true rfl⟩ rfl rfl ⟨by omega, by omega⟩ rfl rfl (Nat.le_of_ble_eq_true rfl) dL_law_683 ?_
      refine g_istore C0 (lv' := [(15, .int r53), (14, .int r52), (0, .ref g.2.2.1), (1, .ref L0), (2, .int v2), (3, .int v3), (4, .int v4), (5, .int v5), (6, .int v6), (7, .int v7), (8, .int v8), (9, .int v9), (11, .ref (g.1 0)), (12, .ref (g.1 0)), (13, .int v13)]) dL_law_686 (by decide) rfl ?_
      refine g_aload_n C0 dL_law_688 rfl 3 rfl ?_
      refine g_iload C0 dL_law_689 1 rfl ?_
      refine g_iload C0 dL_law_691 0 rfl ?_
      obtain ⟨r54, er54, hf⟩ := hl_bd hf
      obtain ⟨z55, ez55, hf⟩ := hl_inl hf
      have kr54 := mg_probe l hl0 D cB cC cI cO L0 ua v r52 r53 r54 er54
      rw [ez55] at kr54
      refine g_sufNi C0 E0.1.1 (P := []) (X := labX cB cC cI cO L0 ua v) (X1 := labX cB cC cI cO L0 ua v) (As := [.int r52, .int r53]) (st := []) kr54 hmX6_probe q_364 ⟨Nat.le_of_ble_eq_true rfl, Nat.le_of_ble_eq_true rfl⟩ ⟨by omega, by omega⟩ rfl rfl rfl rfl rfl 0 rfl rfl rfl (Nat.le_of_ble_eq_true rfl) dL_law_693 ?_
      refine g_aload_n C0 dL_law_696 rfl 3 rfl ?_
      refine g_iload C0 dL_law_697 1 rfl ?_
      refine g_iload C0 dL_law_699 0 rfl ?_
      obtain ⟨r56, er56, hf⟩ := hl_bd hf
      refine g_lSi C0 E0 (P := []) (X := labX cB cC cI cO L0 ua v) (X1 := labX cB cC cI cO L0 ua v) (As := [.ref L0, .int r52, .int r53]) (st := [.int z55]) (mL_slot l hl0 D cB cC cI cO g L0 ua v r52 r53 r56 er56) hmL_slot q_820 ⟨Nat.le_of_ble_eq_true rfl, Nat.le_of_ble_eq_true rfl⟩ rfl rfl ⟨by omega, by omega⟩ rfl rfl rfl rfl (Nat.le_of_ble_eq_true rfl) dL_law_701 ?_
      refine g_icmp_ne C0 (tgt := 767) dL_law_704 (by decide) (fun c57 => ?_) (fun c57 => ?_)
      · rw [if_neg c57] at hf
        refine g_iconst C0 (v := (0 : Int32)) dL_law_767 (by decide) ?_
        cases hf
      · rw [if_pos c57] at hf
        refine g_aload_n C0 dL_law_707 rfl 3 rfl ?_
        refine g_iload C0 dL_law_708 1 rfl ?_
        obtain ⟨r58, er58, hf⟩ := hl_bd hf
        obtain ⟨z59, ez59, hf⟩ := hl_inl hf
        have kr58 := mg_probes l hl0 D cB cC cI cO L0 ua v r52 r58 er58
        rw [ez59] at kr58
        refine g_sufNi C0 E0.1.1 (P := []) (X := labX cB cC cI cO L0 ua v) (X1 := labX cB cC cI cO L0 ua v) (As := [.int r52]) (st := []) kr58 hmX6_probes q_412 ⟨Nat.le_of_ble_eq_true rfl, Nat.le_of_ble_eq_true rfl⟩ ⟨by omega, by omega⟩ rfl rfl rfl rfl rfl 0 rfl rfl rfl (Nat.le_of_ble_eq_true rfl) dL_law_710 ?_
        refine g_aload_n C0 dL_law_713 rfl 3 rfl ?_
        refine g_iload C0 dL_law_714 1 rfl ?_
        obtain ⟨r60, er60, hf⟩ := hl_bd hf
        refine g_lSi C0 E0 (P := []) (X := labX cB cC cI cO L0 ua v) (X1 := labX cB cC cI cO L0 ua v) (As := [.ref L0, .int r52]) (st := [.int z59]) (mL_examined l hl0 D cB cC cI cO g L0 ua v r52 r60 er60) hmL_examined q_829 ⟨Nat.le_of_ble_eq_true rfl, Nat.le_of_ble_eq_true rfl⟩ rfl rfl ⟨by omega, by omega⟩ rfl rfl rfl rfl (Nat.le_of_ble_eq_true rfl) dL_law_716 ?_
        refine g_icmp_ne C0 (tgt := 767) dL_law_719 (by decide) (fun c61 => ?_) (fun c61 => ?_)
        · rw [if_neg c61] at hf
          refine g_iconst C0 (v := (0 : Int32)) dL_law_767 (by decide) ?_
          cases hf
        · rw [if_pos c61] at hf
          refine g_aload_n C0 dL_law_722 rfl 3 rfl ?_
          refine g_iload C0 dL_law_723 1 rfl ?_
          obtain ⟨r62, er62, hf⟩ := hl_bd hf
          obtain ⟨z63, ez63, hf⟩ := hl_inl hf
          have kr62 := mg_step l hl0 D cB cC cI cO L0 ua v r52 r62 er62
          rw [ez63] at kr62
          refine g_sufNi C0 E0.1.1 (P := []) (X := labX cB cC cI cO L0 ua v) (X1 := labX cB cC cI cO L0 ua v) (As := [.int r52]) (st := []) kr62 hmX6_step q_406 ⟨Nat.le_of_ble_eq_true rfl, Nat.le_of_ble_eq_true rfl⟩ ⟨by omega, by omega⟩ rfl rfl rfl rfl rfl 0 rfl rfl rfl (Nat.le_of_ble_eq_true rfl) dL_law_725 ?_
          refine g_iconst C0 (v := (2 : Int32)) dL_law_728 (by decide) ?_
          refine g_irem C0 dL_law_729 (by decide) ?_
          refine g_iconst C0 (v := (1 : Int32)) dL_law_730 (by decide) ?_
          refine g_icmp_ne C0 (tgt := 767) dL_law_731 (by decide) (fun c64 => ?_) (fun c64 => ?_)
          · rw [if_neg c64] at hf
            refine g_iconst C0 (v := (0 : Int32)) dL_law_767 (by decide) ?_
            cases hf
          · rw [if_pos c64] at hf
            refine g_aload_n C0 dL_law_734 rfl 3 rfl ?_
            refine g_iload C0 dL_law_735 1 rfl ?_
            obtain ⟨r65, er65, hf⟩ := hl_bd hf
            refine g_sufi C0 (P := []) (X := labX cB cC cI cO L0 ua v) (X1 := labX cB cC cI cO L0 ua v) (As := [.int r52]) (st := []) (mg_contains l D cB cC cI cO L0 ua v r52 r65 er65) hmX6_contains q_237 ⟨Nat.le_of_ble_eq_true rfl, Nat.le_of_ble_eq_true rfl⟩ ⟨by omega, by omega⟩ rfl rfl rfl rfl rfl 0 rfl rfl rfl (Nat.le_of_ble_eq_true rfl) dL_law_737 ?_
            refine g_if_ne C0 (tgt := 769) dL_law_740 (by decide) (fun c66 => ?_) (fun c66 => ?_)
            · rw [if_neg c66] at hf
              refine g_lv [2, 3, 4, 5, 6, 7, 8, 9, 10, 11, 12, 13, 14] (lv' := [(0, .ref g.2.2.1), (1, .ref L0), (2, .int v2), (3, .int v3), (4, .int v4), (5, .int v5), (6, .int v6), (7, .int v7), (8, .int v8), (9, .int v9), (11, .ref (g.1 0)), (12, .ref (g.1 0)), (13, .int v13)]) rfl ?_
              exact bL_law_769_KK C0 E0 hl0 K0 hK0 KE L0 ua out rec15 (fL_law_650 g K0 rec15 n) hrec15 ih   v v2 v3 v4 v5 v6 v7 v8 v9 (kLen 0) (kByt 0) (kLen 0) (kByt 0) v13  _ _ hf (by omega) (by omega)
            · rw [if_pos c66] at hf
              refine g_aload_n C0 dL_law_743 rfl 3 rfl ?_
              refine g_iload C0 dL_law_744 1 rfl ?_
              obtain ⟨r67, er67, hf⟩ := hl_bd hf
              refine g_hSi C0 E0 (P := []) (X := labX cB cC cI cO L0 ua v) (X1 := labX cB cC cI cO L0 ua v) (As := [.ref L0, .int r52]) (st := []) (mL_get l hl0 D cB cC cI cO g L0 ua v r52 r67 er67) hmL_get q_718 ⟨Nat.le_of_ble_eq_true rfl, Nat.le_of_ble_eq_true rfl⟩ rfl rfl ⟨by omega, by omega⟩ rfl rfl rfl rfl (Nat.le_of_ble_eq_true rfl) dL_law_746 ?_
              refine g_sipush C0 (v := (-30000 : Int32)) dL_law_749 (by decide) ?_
              refine g_icmp_ne C0 (tgt := 767) dL_law_752 (by decide) (fun c68 => ?_) (fun c68 => ?_)
              · rw [if_neg c68] at hf
                refine g_iconst C0 (v := (0 : Int32)) dL_law_767 (by decide) ?_
                cases hf
              · rw [if_pos c68] at hf
                refine g_aload_n C0 dL_law_755 rfl 3 rfl ?_
                refine g_iload C0 dL_law_756 1 rfl ?_
                obtain ⟨r69, er69, hf⟩ := hl_bd hf
                refine g_hSi C0 E0 (P := []) (X := labX cB cC cI cO L0 ua v) (X1 := labX cB cC cI cO L0 ua v) (As := [.ref L0, .int r52]) (st := []) (mL_probesBySlot l hl0 D cB cC cI cO g L0 ua v r52 r69 er69) hmL_probesBySlot q_722 ⟨Nat.le_of_ble_eq_true rfl, Nat.le_of_ble_eq_true rfl⟩ rfl rfl ⟨by omega, by omega⟩ rfl rfl rfl rfl (Nat.le_of_ble_eq_true rfl) dL_law_758 ?_
                refine g_sipush C0 (v := (-30000 : Int32)) dL_law_761 (by decide) ?_
                refine g_icmp_eq C0 (tgt := 769) dL_law_764 (by decide) (fun c70 => ?_) (fun c70 => ?_)
                · rw [if_pos c70] at hf
                  refine g_lv [2, 3, 4, 5, 6, 7, 8, 9, 10, 11, 12, 13, 14] (lv' := [(0, .ref g.2.2.1), (1, .ref L0), (2, .int v2), (3, .int v3), (4, .int v4), (5, .int v5), (6, .int v6), (7, .int v7), (8, .int v8), (9, .int v9), (11, .ref (g.1 0)), (12, .ref (g.1 0)), (13, .int v13)]) rfl ?_
                  exact bL_law_769_KK C0 E0 hl0 K0 hK0 KE L0 ua out rec15 (fL_law_650 g K0 rec15 n) hrec15 ih   v v2 v3 v4 v5 v6 v7 v8 v9 (kLen 0) (kByt 0) (kLen 0) (kByt 0) v13  _ _ hf (by omega) (by omega)
                · rw [if_neg c70] at hf
                  refine g_iconst C0 (v := (0 : Int32)) dL_law_767 (by decide) ?_
                  cases hf
set_option maxHeartbeats 8000000 in
set_option maxRecDepth 100000 in
theorem bL_law_590_KK {p : Program} {l : Launch} {e : Env} {s : State} {m : MethodId} {args : Array Value} {below : List Frame} {meth : Method} {c : Code} {D : va_G} {cB cC cI cO : ClassId} {A : Nat → Prop} {g : LG} (C0 : gC RL cL_law 23 (some .boolean) p s m args meth c D (hTy cB cC cI cO) A) (E0 : hLw g A s) (hl0 : l.stackTraces = false) (K0 : Nat → Int32) (hK0 : fJ7_fill_53178 64 (fun _ => 0) (-1 : Int32) = some K0) {Q : State → Prop} (KE : ∀ (lv : List (Nat × Value)) (ws : va_W) (kk nn : Nat), kk ≤ room_1.cells → nn ≤ room_1.slots → gG p l e room_1 s m args below meth c D A 23 Q kk nn 1230 lv [.int 1] ws) (L0 : Nat) (ua : LA) (out : Unit) {B15a B15b : Nat} {B555a B555b : Nat} (rec15 : LV → Int32 → Option (Unit)) (rec555 : LV → Int32 → Int32 → Int32 → Int32 → Int32 → Int32 → Int32 → Int32 → Nat → (Nat → Int32) → Nat → (Nat → Int32) → Int32 → Option (Unit)) (hrec15 : ∀ (v : LV) (v2 : Int32)  (kk nn : Nat), rec15 v v2 = some out → kk + (B15a) ≤ room_1.cells → nn + (B15b) ≤ room_1.slots → gG p l e room_1 s m args below meth c D A 23 Q kk nn 15 [(0, .ref g.2.2.1), (1, .ref L0), (2, .int v2)] [] (List.append [] (labX cB cC cI cO L0 ua v))) (hrec555 : ∀ (v : LV) (v2 : Int32) (v3 : Int32) (v4 : Int32) (v5 : Int32) (v6 : Int32) (v7 : Int32) (v8 : Int32) (v9 : Int32) (_ : Nat) (_ : Nat → Int32) (t12n : Nat) (t12f : Nat → Int32) (v13 : Int32) (a12 w12 : Nat) (f12 : Nat → Int32) (hx12 : ∀ j, j < t12n → f12 j = t12f j) (hc12 : ascB t12n f12) (kk nn : Nat), rec555 v v2 v3 v4 v5 v6 v7 v8 v9 (kLen 0) (kByt 0) t12n t12f v13 = some out → kk + (B555a) ≤ room_1.cells → nn + (B555b) ≤ room_1.slots → gG p l e room_1 s m args below meth c D A 23 Q kk nn 555 [(0, .ref g.2.2.1), (1, .ref L0), (2, .int v2), (3, .int v3), (4, .int v4), (5, .int v5), (6, .int v6), (7, .int v7), (8, .int v8), (9, .int v9), (11, .ref (g.1 0)), (12, .ref a12), (13, .int v13)] [] (List.append [(a12, .inr (0, [.ref w12, .int 0, .int 0, .int 0])), (w12, .inl (cB, t12n, .inl f12))] (labX cB cC cI cO L0 ua v))) : ∀ (v : LV) (v2 : Int32) (v3 : Int32) (v4 : Int32) (v5 : Int32) (v6 : Int32) (v7 : Int32) (v8 : Int32) (v9 : Int32) (_ : Nat) (_ : Nat → Int32) (_ : Nat) (_ : Nat → Int32) (v13 : Int32) (v14 : Int32)  (kk nn : Nat), fL_law_590 g K0 rec15 rec555  v v2 v3 v4 v5 v6 v7 v8 v9 (kLen 0) (kByt 0) (kLen 0) (kByt 0) v13 v14 = some out → kk + (10 + B555a) ≤ room_1.cells → nn + (7730 + B555b) ≤ room_1.slots → gG p l e room_1 s m args below meth c D A 23 Q kk nn 590 [(0, .ref g.2.2.1), (1, .ref L0), (2, .int v2), (3, .int v3), (4, .int v4), (5, .int v5), (6, .int v6), (7, .int v7), (8, .int v8), (9, .int v9), (11, .ref (g.1 0)), (12, .ref (g.1 0)), (13, .int v13), (14, .int v14)] [] (List.append [] (labX cB cC cI cO L0 ua v)) := by
  intro v v2 v3 v4 v5 v6 v7 v8 v9 _ _ _ _ v13 v14 kk nn hf hb1 hb2
  unfold fL_law_590 at hf
  refine g_new (ci := 1) (fs := [.null, .int 0, .int 0, .int 0]) C0 hinJ4 tyJ4_ok q_914 q_915 q_31 rfl (fun z hz => hl_dB z hz) (by omega) (by omega) dL_law_590 (fun b71 => ?_)
  refine g_rot ?_
  refine g_eq (ws' := (List.append [(b71, .inr (1, [.null, .int 0, .int 0, .int 0]))] (labX cB cC cI cO L0 ua v))) rfl rfl rfl ?_
  refine g_dup C0 dL_law_593 rfl ?_
  refine g_xIv (ret := none) (X := [(b71, .inr (1, [.null, .int 0, .int 0, .int 0]))]) (pl := labX cB cC cI cO L0 ua v) (wr := []) (As := []) (st := [.ref b71]) (b := b71) C0 jE_ok (xe_of C0 jE_ok E0.1.2) (mJ4_init_da8c8 l D cB cC cI cO b71) hmJ4_init_da8c8 q_916 ⟨Nat.le_of_ble_eq_true rfl, Nat.le_of_ble_eq_true rfl⟩ rfl rfl ⟨by omega, by omega⟩ rfl [0] [] rfl rfl rfl rfl (by decide) rfl rfl (Nat.le_of_ble_eq_true rfl) dL_law_594 (fun w72 => ?_)
  refine g_eq (ws' := (List.append [(b71, .inr (1, [.ref w72, .int 0, .int 0, .int (Int32.ofNat 0)])), (w72, .inl (cB, 16, .inl (fun _ => 0)))] (labX cB cC cI cO L0 ua v))) rfl rfl rfl ?_
  refine g_aload C0 dL_law_597 11 rfl ?_
  obtain ⟨h73, hf⟩ := hl_ifS hf
  refine g_xVr (X := [(b71, .inr (1, [.ref w72, .int 0, .int 0, .int (Int32.ofNat 0)])), (w72, .inl (cB, 16, .inl (fun _ => 0)))]) (pl := labX cB cC cI cO L0 ua v) (wr := []) (As := [.ref (g.1 0)]) (st := []) (b := b71) C0 (jT_ok _ _ _ _) (xe_of C0 (jT_ok _ _ _ _) ⟨E0.1.2, hKt_tx E0.2.1 (by decide : 0 < 6)⟩) (xr_w C0 0 rfl rfl) (mJ4_append_15ec4 l D cB cC cI cO (g.1 0) (g.2.1 0) (kLen 0) (kByt 0) b71 w72 0 0 16 (fun _ => 0) (fun _ => 0) (by omega) (by omega) (kAsc 0 (by decide)) (sbP0 w72)) hmJ4_append_15ec4 q_944 ⟨Nat.le_of_ble_eq_true rfl, Nat.le_of_ble_eq_true rfl⟩ rfl rfl ⟨by omega, by omega⟩ rfl [0, 1] [] rfl rfl rfl rfl (by decide) rfl rfl (Nat.le_of_ble_eq_true rfl) dL_law_599 (fun u74 => ?_)
  refine g_widen (kk1 := kk + 3) (nn1 := nn + 1420) (by omega) (by omega) ?_
  have qu74 : asc (0 + (kLen 0)) (tcat 0 (fun _ => 0) (kByt 0)) := asc_cat (asc0 _) (kAsc 0 (by decide))
  have eu74 : ∀ j, j < 0 + (kLen 0) → (tcat 0 (fun _ => 0) (kByt 0)) j = (tcat 0 (fun _ => 0) (kByt 0)) j := tcat_eq (fun _ _ => rfl) (fun _ _ => rfl)
  refine g_eq (ws' := (List.append [(b71, .inr (1, [.ref u74.1.1, .int 0, .int 0, .int (Int32.ofNat (0 + (kLen 0)))])), (u74.1.1, .inl (cB, u74.1.2.1, .inl u74.1.2.2))] (labX cB cC cI cO L0 ua v))) rfl rfl rfl ?_
  refine g_iload C0 dL_law_602 12 rfl ?_
  refine g_if_le C0 (tgt := 612) dL_law_604 (by decide) (fun c75 => ?_) (fun c75 => ?_)
  · rw [if_pos c75] at hf
    refine g_ldcS C0 (E0.2.1.2 0 (123, "") rfl) dL_law_612 ?_
    obtain ⟨h76, hf⟩ := hl_ifS hf
    refine g_xVr (X := [(b71, .inr (1, [.ref u74.1.1, .int 0, .int 0, .int (Int32.ofNat (0 + (kLen 0)))])), (u74.1.1, .inl (cB, u74.1.2.1, .inl u74.1.2.2))]) (pl := labX cB cC cI cO L0 ua v) (wr := []) (As := [.ref (g.1 0)]) (st := []) (b := b71) C0 (jT_ok _ _ _ _) (xe_of C0 (jT_ok _ _ _ _) ⟨E0.1.2, hKt_tx E0.2.1 (by decide : 0 < 6)⟩) (xr_w C0 0 rfl rfl) (mJ4_append_15ec4 l D cB cC cI cO (g.1 0) (g.2.1 0) (kLen 0) (kByt 0) b71 u74.1.1 0 (0 + (kLen 0)) u74.1.2.1 u74.1.2.2 (tcat 0 (fun _ => 0) (kByt 0)) (by omega) (by omega) (kAsc 0 (by decide)) u74.2) hmJ4_append_15ec4 q_944 ⟨Nat.le_of_ble_eq_true rfl, Nat.le_of_ble_eq_true rfl⟩ rfl rfl ⟨by omega, by omega⟩ rfl [0, 1] [] rfl rfl rfl rfl (by decide) rfl rfl (Nat.le_of_ble_eq_true rfl) dL_law_614 (fun u77 => ?_)
    refine g_widen (kk1 := kk + 4) (nn1 := nn + 2820) (by omega) (by omega) ?_
    have qu77 : asc ((0 + (kLen 0)) + (kLen 0)) (tcat (0 + (kLen 0)) (tcat 0 (fun _ => 0) (kByt 0)) (kByt 0)) := asc_cat qu74 (kAsc 0 (by decide))
    have eu77 : ∀ j, j < (0 + (kLen 0)) + (kLen 0) → (tcat (0 + (kLen 0)) (tcat 0 (fun _ => 0) (kByt 0)) (kByt 0)) j = (tcat (0 + (kLen 0)) (tcat 0 (fun _ => 0) (kByt 0)) (kByt 0)) j := tcat_eq eu74 (fun _ _ => rfl)
    refine g_eq (ws' := (List.append [(b71, .inr (1, [.ref u77.1.1, .int 0, .int 0, .int (Int32.ofNat ((0 + (kLen 0)) + (kLen 0)))])), (u77.1.1, .inl (cB, u77.1.2.1, .inl u77.1.2.2))] (labX cB cC cI cO L0 ua v))) rfl rfl rfl ?_
    refine g_iload C0 dL_law_617 13 rfl ?_
    obtain ⟨h78, hf⟩ := hl_ifS hf
    refine g_xVr (X := [(b71, .inr (1, [.ref u77.1.1, .int 0, .int 0, .int (Int32.ofNat ((0 + (kLen 0)) + (kLen 0)))])), (u77.1.1, .inl (cB, u77.1.2.1, .inl u77.1.2.2))]) (pl := labX cB cC cI cO L0 ua v) (wr := []) (As := [.int v14]) (st := []) (b := b71) C0 jE_ok (xe_of C0 jE_ok E0.1.2) (xr_w C0 0 rfl rfl) (mJ4_append_bf812 l D cB cC cI cO v14 (nLen v14) (nDig v14) b71 u77.1.1 0 ((0 + (kLen 0)) + (kLen 0)) u77.1.2.1 u77.1.2.2 (tcat (0 + (kLen 0)) (tcat 0 (fun _ => 0) (kByt 0)) (kByt 0)) (by omega) (by omega) (numOK_T h78.2) u77.2) hmJ4_append_bf812 q_1039 ⟨Nat.le_of_ble_eq_true rfl, Nat.le_of_ble_eq_true rfl⟩ rfl rfl ⟨by omega, by omega⟩ rfl [0, 1] [] rfl rfl rfl rfl (by decide) rfl rfl (Nat.le_of_ble_eq_true rfl) dL_law_619 (fun u79 => ?_)
    refine g_widen (kk1 := kk + 5) (nn1 := nn + 4220) (by omega) (by omega) ?_
    have qu79 : asc (((0 + (kLen 0)) + (kLen 0)) + (nLen v14)) (tcat ((0 + (kLen 0)) + (kLen 0)) (tcat (0 + (kLen 0)) (tcat 0 (fun _ => 0) (kByt 0)) (kByt 0)) (nDig v14)) := asc_cat qu77 (numOK_asc h78.2)
    have eu79 : ∀ j, j < ((0 + (kLen 0)) + (kLen 0)) + (nLen v14) → (tcat ((0 + (kLen 0)) + (kLen 0)) (tcat (0 + (kLen 0)) (tcat 0 (fun _ => 0) (kByt 0)) (kByt 0)) (nDig v14)) j = (tcat ((0 + (kLen 0)) + (kLen 0)) (tcat (0 + (kLen 0)) (tcat 0 (fun _ => 0) (kByt 0)) (kByt 0)) (nDig v14)) j := tcat_eq eu77 (fun _ _ => rfl)
    refine g_eq (ws' := (List.append [(b71, .inr (1, [.ref u79.1.1, .int 0, .int 0, .int (Int32.ofNat (((0 + (kLen 0)) + (kLen 0)) + (nLen v14)))])), (u79.1.1, .inl (cB, u79.1.2.1, .inl u79.1.2.2))] (labX cB cC cI cO L0 ua v))) rfl rfl rfl ?_
    refine g_ldcS C0 (E0.2.1.2 5 (168, "=") rfl) dL_law_622 ?_
    obtain ⟨h80, hf⟩ := hl_ifS hf
    refine g_xVr (X := [(b71, .inr (1, [.ref u79.1.1, .int 0, .int 0, .int (Int32.ofNat (((0 + (kLen 0)) + (kLen 0)) + (nLen v14)))])), (u79.1.1, .inl (cB, u79.1.2.1, .inl u79.1.2.2))]) (pl := labX cB cC cI cO L0 ua v) (wr := []) (As := [.ref (g.1 5)]) (st := []) (b := b71) C0 (jT_ok _ _ _ _) (xe_of C0 (jT_ok _ _ _ _) ⟨E0.1.2, hKt_tx E0.2.1 (by decide : 5 < 6)⟩) (xr_w C0 0 rfl rfl) (mJ4_append_15ec4 l D cB cC cI cO (g.1 5) (g.2.1 5) (kLen 5) (kByt 5) b71 u79.1.1 0 (((0 + (kLen 0)) + (kLen 0)) + (nLen v14)) u79.1.2.1 u79.1.2.2 (tcat ((0 + (kLen 0)) + (kLen 0)) (tcat (0 + (kLen 0)) (tcat 0 (fun _ => 0) (kByt 0)) (kByt 0)) (nDig v14)) (by omega) (by omega) (kAsc 5 (by decide)) u79.2) hmJ4_append_15ec4 q_944 ⟨Nat.le_of_ble_eq_true rfl, Nat.le_of_ble_eq_true rfl⟩ rfl rfl ⟨by omega, by omega⟩ rfl [0, 1] [] rfl rfl rfl rfl (by decide) rfl rfl (Nat.le_of_ble_eq_true rfl) dL_law_624 (fun u81 => ?_)
    refine g_widen (kk1 := kk + 6) (nn1 := nn + 5620) (by omega) (by omega) ?_
    have qu81 : asc ((((0 + (kLen 0)) + (kLen 0)) + (nLen v14)) + (kLen 5)) (tcat (((0 + (kLen 0)) + (kLen 0)) + (nLen v14)) (tcat ((0 + (kLen 0)) + (kLen 0)) (tcat (0 + (kLen 0)) (tcat 0 (fun _ => 0) (kByt 0)) (kByt 0)) (nDig v14)) (kByt 5)) := asc_cat qu79 (kAsc 5 (by decide))
    have eu81 : ∀ j, j < (((0 + (kLen 0)) + (kLen 0)) + (nLen v14)) + (kLen 5) → (tcat (((0 + (kLen 0)) + (kLen 0)) + (nLen v14)) (tcat ((0 + (kLen 0)) + (kLen 0)) (tcat (0 + (kLen 0)) (tcat 0 (fun _ => 0) (kByt 0)) (kByt 0)) (nDig v14)) (kByt 5)) j = (tcat (((0 + (kLen 0)) + (kLen 0)) + (nLen v14)) (tcat ((0 + (kLen 0)) + (kLen 0)) (tcat (0 + (kLen 0)) (tcat 0 (fun _ => 0) (kByt 0)) (kByt 0)) (nDig v14)) (kByt 5)) j := tcat_eq eu79 (fun _ _ => rfl)
    refine g_eq (ws' := (List.append [(b71, .inr (1, [.ref u81.1.1, .int 0, .int 0, .int (Int32.ofNat ((((0 + (kLen 0)) + (kLen 0)) + (nLen v14)) + (kLen 5)))])), (u81.1.1, .inl (cB, u81.1.2.1, .inl u81.1.2.2))] (labX cB cC cI cO L0 ua v))) rfl rfl rfl ?_
    refine g_aload_n C0 dL_law_627 rfl 1 rfl ?_
    refine g_iload C0 dL_law_628 13 rfl ?_
    obtain ⟨r82, er82, hf⟩ := hl_bd hf
    obtain ⟨z83, ez83, hf⟩ := hl_inl hf
    have kr82 := mg_get l hl0 D cB cC cI cO L0 ua v v14 r82 er82
    rw [ez83] at kr82
    refine g_sufNi C0 E0.1.1 (P := [(b71, .inr (1, [.ref u81.1.1, .int 0, .int 0, .int (Int32.ofNat ((((0 + (kLen 0)) + (kLen 0)) + (nLen v14)) + (kLen 5)))])), (u81.1.1, .inl (cB, u81.1.2.1, .inl u81.1.2.2))]) (X := labX cB cC cI cO L0 ua v) (X1 := labX cB cC cI cO L0 ua v) (As := [.int v14]) (st := [.ref b71]) kr82 hmX6_get q_281 ⟨Nat.le_of_ble_eq_true rfl, Nat.le_of_ble_eq_true rfl⟩ ⟨by omega, by omega⟩ rfl rfl rfl rfl rfl 0 rfl rfl rfl (Nat.le_of_ble_eq_true rfl) dL_law_630 ?_
    obtain ⟨h84, hf⟩ := hl_ifS hf
    refine g_xVr (X := [(b71, .inr (1, [.ref u81.1.1, .int 0, .int 0, .int (Int32.ofNat ((((0 + (kLen 0)) + (kLen 0)) + (nLen v14)) + (kLen 5)))])), (u81.1.1, .inl (cB, u81.1.2.1, .inl u81.1.2.2))]) (pl := labX cB cC cI cO L0 ua v) (wr := []) (As := [.int z83]) (st := []) (b := b71) C0 jE_ok (xe_of C0 jE_ok E0.1.2) (xr_w C0 0 rfl rfl) (mJ4_append_bf812 l D cB cC cI cO z83 (nLen z83) (nDig z83) b71 u81.1.1 0 ((((0 + (kLen 0)) + (kLen 0)) + (nLen v14)) + (kLen 5)) u81.1.2.1 u81.1.2.2 (tcat (((0 + (kLen 0)) + (kLen 0)) + (nLen v14)) (tcat ((0 + (kLen 0)) + (kLen 0)) (tcat (0 + (kLen 0)) (tcat 0 (fun _ => 0) (kByt 0)) (kByt 0)) (nDig v14)) (kByt 5)) (by omega) (by omega) (numOK_T h84.2) u81.2) hmJ4_append_bf812 q_1039 ⟨Nat.le_of_ble_eq_true rfl, Nat.le_of_ble_eq_true rfl⟩ rfl rfl ⟨by omega, by omega⟩ rfl [0, 1] [] rfl rfl rfl rfl (by decide) rfl rfl (Nat.le_of_ble_eq_true rfl) dL_law_633 (fun u85 => ?_)
    refine g_widen (kk1 := kk + 8) (nn1 := nn + 7026) (by omega) (by omega) ?_
    have qu85 : asc (((((0 + (kLen 0)) + (kLen 0)) + (nLen v14)) + (kLen 5)) + (nLen z83)) (tcat ((((0 + (kLen 0)) + (kLen 0)) + (nLen v14)) + (kLen 5)) (tcat (((0 + (kLen 0)) + (kLen 0)) + (nLen v14)) (tcat ((0 + (kLen 0)) + (kLen 0)) (tcat (0 + (kLen 0)) (tcat 0 (fun _ => 0) (kByt 0)) (kByt 0)) (nDig v14)) (kByt 5)) (nDig z83)) := asc_cat qu81 (numOK_asc h84.2)
    have eu85 : ∀ j, j < ((((0 + (kLen 0)) + (kLen 0)) + (nLen v14)) + (kLen 5)) + (nLen z83) → (tcat ((((0 + (kLen 0)) + (kLen 0)) + (nLen v14)) + (kLen 5)) (tcat (((0 + (kLen 0)) + (kLen 0)) + (nLen v14)) (tcat ((0 + (kLen 0)) + (kLen 0)) (tcat (0 + (kLen 0)) (tcat 0 (fun _ => 0) (kByt 0)) (kByt 0)) (nDig v14)) (kByt 5)) (nDig z83)) j = (tcat ((((0 + (kLen 0)) + (kLen 0)) + (nLen v14)) + (kLen 5)) (tcat (((0 + (kLen 0)) + (kLen 0)) + (nLen v14)) (tcat ((0 + (kLen 0)) + (kLen 0)) (tcat (0 + (kLen 0)) (tcat 0 (fun _ => 0) (kByt 0)) (kByt 0)) (nDig v14)) (kByt 5)) (nDig z83)) j := tcat_eq eu81 (fun _ _ => rfl)
    refine g_eq (ws' := (List.append [(b71, .inr (1, [.ref u85.1.1, .int 0, .int 0, .int (Int32.ofNat (((((0 + (kLen 0)) + (kLen 0)) + (nLen v14)) + (kLen 5)) + (nLen z83)))])), (u85.1.1, .inl (cB, u85.1.2.1, .inl u85.1.2.2))] (labX cB cC cI cO L0 ua v))) rfl rfl rfl ?_
    refine g_xVr (X := [(b71, .inr (1, [.ref u85.1.1, .int 0, .int 0, .int (Int32.ofNat (((((0 + (kLen 0)) + (kLen 0)) + (nLen v14)) + (kLen 5)) + (nLen z83)))])), (u85.1.1, .inl (cB, u85.1.2.1, .inl u85.1.2.2))]) (pl := labX cB cC cI cO L0 ua v) (wr := []) (As := []) (st := []) (b := b71) C0 jE_ok (xe_of C0 jE_ok E0.1.2) (xr_w C0 0 rfl rfl) (mJ4_toString_0e30d l D cB cC cI cO b71 u85.1.1 0 (((((0 + (kLen 0)) + (kLen 0)) + (nLen v14)) + (kLen 5)) + (nLen z83)) u85.1.2.1 u85.1.2.2 (tcat ((((0 + (kLen 0)) + (kLen 0)) + (nLen v14)) + (kLen 5)) (tcat (((0 + (kLen 0)) + (kLen 0)) + (nLen v14)) (tcat ((0 + (kLen 0)) + (kLen 0)) (tcat (0 + (kLen 0)) (tcat 0 (fun _ => 0) (kByt 0)) (kByt 0)) (nDig v14)) (kByt 5)) (nDig z83)) (by omega) u85.2) hmJ4_toString_0e30d q_1064 ⟨Nat.le_of_ble_eq_true rfl, Nat.le_of_ble_eq_true rfl⟩ rfl rfl ⟨by omega, by omega⟩ rfl [0, 1] [] rfl rfl rfl rfl (by decide) rfl rfl (Nat.le_of_ble_eq_true rfl) dL_law_636 (fun u86 => ?_)
    refine g_widen (kk1 := kk + 10) (nn1 := nn + 7730) (by omega) (by omega) ?_
    obtain ⟨⟨tau86, twu86, tfu86⟩, hfitu86, hyu86⟩ := u86
    have hxu86 : ∀ j, j < (((((0 + (kLen 0)) + (kLen 0)) + (nLen v14)) + (kLen 5)) + (nLen z83)) → tfu86 j = (tcat ((((0 + (kLen 0)) + (kLen 0)) + (nLen v14)) + (kLen 5)) (tcat (((0 + (kLen 0)) + (kLen 0)) + (nLen v14)) (tcat ((0 + (kLen 0)) + (kLen 0)) (tcat (0 + (kLen 0)) (tcat 0 (fun _ => 0) (kByt 0)) (kByt 0)) (nDig v14)) (kByt 5)) (nDig z83)) j := fun j hj => (hyu86 j hj).trans (eu85 j hj)
    have hcu86 : ascB (((((0 + (kLen 0)) + (kLen 0)) + (nLen v14)) + (kLen 5)) + (nLen z83)) tfu86 := ⟨by omega, asc_of hyu86 qu85⟩
    refine g_ordP (P' := [(tau86, .inr (0, [.ref twu86, .int 0, .int 0, .int 0])), (twu86, .inl (cB, (((((0 + (kLen 0)) + (kLen 0)) + (nLen v14)) + (kLen 5)) + (nLen z83)), .inl tfu86))]) (X := labX cB cC cI cO L0 ua v) [2, 3] rfl rfl rfl ?_
    refine g_eq (st' := [.ref tau86]) (ws' := (List.append [(tau86, .inr (0, [.ref twu86, .int 0, .int 0, .int 0])), (twu86, .inl (cB, (((((0 + (kLen 0)) + (kLen 0)) + (nLen v14)) + (kLen 5)) + (nLen z83)), .inl tfu86))] (labX cB cC cI cO L0 ua v))) rfl rfl rfl ?_
    refine g_astore C0 (lv' := [(12, .ref tau86), (0, .ref g.2.2.1), (1, .ref L0), (2, .int v2), (3, .int v3), (4, .int v4), (5, .int v5), (6, .int v6), (7, .int v7), (8, .int v8), (9, .int v9), (11, .ref (g.1 0)), (13, .int v13), (14, .int v14)]) dL_law_639 (by decide) rfl ?_
    refine g_iinc C0 (lv' := [(13, .int (v13 + (1 : Int32))), (12, .ref tau86), (0, .ref g.2.2.1), (1, .ref L0), (2, .int v2), (3, .int v3), (4, .int v4), (5, .int v5), (6, .int v6), (7, .int v7), (8, .int v8), (9, .int v9), (11, .ref (g.1 0)), (14, .int v14)]) dL_law_641 12 rfl rfl (by decide) rfl ?_
    refine g_goto C0 (tgt := 555) dL_law_644 (by decide) ?_
    refine g_lv [2, 3, 4, 5, 6, 7, 8, 9, 10, 11, 12, 1, 0] (lv' := [(0, .ref g.2.2.1), (1, .ref L0), (2, .int v2), (3, .int v3), (4, .int v4), (5, .int v5), (6, .int v6), (7, .int v7), (8, .int v8), (9, .int v9), (11, .ref (g.1 0)), (12, .ref tau86), (13, .int (v13 + (1 : Int32)))]) rfl ?_
    exact hrec555 v v2 v3 v4 v5 v6 v7 v8 v9 (kLen 0) (kByt 0) (((((0 + (kLen 0)) + (kLen 0)) + (nLen v14)) + (kLen 5)) + (nLen z83)) (tcat ((((0 + (kLen 0)) + (kLen 0)) + (nLen v14)) + (kLen 5)) (tcat (((0 + (kLen 0)) + (kLen 0)) + (nLen v14)) (tcat ((0 + (kLen 0)) + (kLen 0)) (tcat (0 + (kLen 0)) (tcat 0 (fun _ => 0) (kByt 0)) (kByt 0)) (nDig v14)) (kByt 5)) (nDig z83)) (v13 + (1 : Int32)) tau86 twu86 tfu86 hxu86 hcu86 _ _ hf (by omega) (by omega)
  · rw [if_neg c75] at hf
    refine g_ldcS C0 (E0.2.1.2 4 (166, ",") rfl) dL_law_607 ?_
    refine g_goto C0 (tgt := 614) dL_law_609 (by decide) ?_
    obtain ⟨h87, hf⟩ := hl_ifS hf
    refine g_xVr (X := [(b71, .inr (1, [.ref u74.1.1, .int 0, .int 0, .int (Int32.ofNat (0 + (kLen 0)))])), (u74.1.1, .inl (cB, u74.1.2.1, .inl u74.1.2.2))]) (pl := labX cB cC cI cO L0 ua v) (wr := []) (As := [.ref (g.1 4)]) (st := []) (b := b71) C0 (jT_ok _ _ _ _) (xe_of C0 (jT_ok _ _ _ _) ⟨E0.1.2, hKt_tx E0.2.1 (by decide : 4 < 6)⟩) (xr_w C0 0 rfl rfl) (mJ4_append_15ec4 l D cB cC cI cO (g.1 4) (g.2.1 4) (kLen 4) (kByt 4) b71 u74.1.1 0 (0 + (kLen 0)) u74.1.2.1 u74.1.2.2 (tcat 0 (fun _ => 0) (kByt 0)) (by omega) (by omega) (kAsc 4 (by decide)) u74.2) hmJ4_append_15ec4 q_944 ⟨Nat.le_of_ble_eq_true rfl, Nat.le_of_ble_eq_true rfl⟩ rfl rfl ⟨by omega, by omega⟩ rfl [0, 1] [] rfl rfl rfl rfl (by decide) rfl rfl (Nat.le_of_ble_eq_true rfl) dL_law_614 (fun u88 => ?_)
    refine g_widen (kk1 := kk + 4) (nn1 := nn + 2820) (by omega) (by omega) ?_
    have qu88 : asc ((0 + (kLen 0)) + (kLen 4)) (tcat (0 + (kLen 0)) (tcat 0 (fun _ => 0) (kByt 0)) (kByt 4)) := asc_cat qu74 (kAsc 4 (by decide))
    have eu88 : ∀ j, j < (0 + (kLen 0)) + (kLen 4) → (tcat (0 + (kLen 0)) (tcat 0 (fun _ => 0) (kByt 0)) (kByt 4)) j = (tcat (0 + (kLen 0)) (tcat 0 (fun _ => 0) (kByt 0)) (kByt 4)) j := tcat_eq eu74 (fun _ _ => rfl)
    refine g_eq (ws' := (List.append [(b71, .inr (1, [.ref u88.1.1, .int 0, .int 0, .int (Int32.ofNat ((0 + (kLen 0)) + (kLen 4)))])), (u88.1.1, .inl (cB, u88.1.2.1, .inl u88.1.2.2))] (labX cB cC cI cO L0 ua v))) rfl rfl rfl ?_
    refine g_iload C0 dL_law_617 13 rfl ?_
    obtain ⟨h89, hf⟩ := hl_ifS hf
    refine g_xVr (X := [(b71, .inr (1, [.ref u88.1.1, .int 0, .int 0, .int (Int32.ofNat ((0 + (kLen 0)) + (kLen 4)))])), (u88.1.1, .inl (cB, u88.1.2.1, .inl u88.1.2.2))]) (pl := labX cB cC cI cO L0 ua v) (wr := []) (As := [.int v14]) (st := []) (b := b71) C0 jE_ok (xe_of C0 jE_ok E0.1.2) (xr_w C0 0 rfl rfl) (mJ4_append_bf812 l D cB cC cI cO v14 (nLen v14) (nDig v14) b71 u88.1.1 0 ((0 + (kLen 0)) + (kLen 4)) u88.1.2.1 u88.1.2.2 (tcat (0 + (kLen 0)) (tcat 0 (fun _ => 0) (kByt 0)) (kByt 4)) (by omega) (by omega) (numOK_T h89.2) u88.2) hmJ4_append_bf812 q_1039 ⟨Nat.le_of_ble_eq_true rfl, Nat.le_of_ble_eq_true rfl⟩ rfl rfl ⟨by omega, by omega⟩ rfl [0, 1] [] rfl rfl rfl rfl (by decide) rfl rfl (Nat.le_of_ble_eq_true rfl) dL_law_619 (fun u90 => ?_)
    refine g_widen (kk1 := kk + 5) (nn1 := nn + 4220) (by omega) (by omega) ?_
    have qu90 : asc (((0 + (kLen 0)) + (kLen 4)) + (nLen v14)) (tcat ((0 + (kLen 0)) + (kLen 4)) (tcat (0 + (kLen 0)) (tcat 0 (fun _ => 0) (kByt 0)) (kByt 4)) (nDig v14)) := asc_cat qu88 (numOK_asc h89.2)
    have eu90 : ∀ j, j < ((0 + (kLen 0)) + (kLen 4)) + (nLen v14) → (tcat ((0 + (kLen 0)) + (kLen 4)) (tcat (0 + (kLen 0)) (tcat 0 (fun _ => 0) (kByt 0)) (kByt 4)) (nDig v14)) j = (tcat ((0 + (kLen 0)) + (kLen 4)) (tcat (0 + (kLen 0)) (tcat 0 (fun _ => 0) (kByt 0)) (kByt 4)) (nDig v14)) j := tcat_eq eu88 (fun _ _ => rfl)
    refine g_eq (ws' := (List.append [(b71, .inr (1, [.ref u90.1.1, .int 0, .int 0, .int (Int32.ofNat (((0 + (kLen 0)) + (kLen 4)) + (nLen v14)))])), (u90.1.1, .inl (cB, u90.1.2.1, .inl u90.1.2.2))] (labX cB cC cI cO L0 ua v))) rfl rfl rfl ?_
    refine g_ldcS C0 (E0.2.1.2 5 (168, "=") rfl) dL_law_622 ?_
    obtain ⟨h91, hf⟩ := hl_ifS hf
    refine g_xVr (X := [(b71, .inr (1, [.ref u90.1.1, .int 0, .int 0, .int (Int32.ofNat (((0 + (kLen 0)) + (kLen 4)) + (nLen v14)))])), (u90.1.1, .inl (cB, u90.1.2.1, .inl u90.1.2.2))]) (pl := labX cB cC cI cO L0 ua v) (wr := []) (As := [.ref (g.1 5)]) (st := []) (b := b71) C0 (jT_ok _ _ _ _) (xe_of C0 (jT_ok _ _ _ _) ⟨E0.1.2, hKt_tx E0.2.1 (by decide : 5 < 6)⟩) (xr_w C0 0 rfl rfl) (mJ4_append_15ec4 l D cB cC cI cO (g.1 5) (g.2.1 5) (kLen 5) (kByt 5) b71 u90.1.1 0 (((0 + (kLen 0)) + (kLen 4)) + (nLen v14)) u90.1.2.1 u90.1.2.2 (tcat ((0 + (kLen 0)) + (kLen 4)) (tcat (0 + (kLen 0)) (tcat 0 (fun _ => 0) (kByt 0)) (kByt 4)) (nDig v14)) (by omega) (by omega) (kAsc 5 (by decide)) u90.2) hmJ4_append_15ec4 q_944 ⟨Nat.le_of_ble_eq_true rfl, Nat.le_of_ble_eq_true rfl⟩ rfl rfl ⟨by omega, by omega⟩ rfl [0, 1] [] rfl rfl rfl rfl (by decide) rfl rfl (Nat.le_of_ble_eq_true rfl) dL_law_624 (fun u92 => ?_)
    refine g_widen (kk1 := kk + 6) (nn1 := nn + 5620) (by omega) (by omega) ?_
    have qu92 : asc ((((0 + (kLen 0)) + (kLen 4)) + (nLen v14)) + (kLen 5)) (tcat (((0 + (kLen 0)) + (kLen 4)) + (nLen v14)) (tcat ((0 + (kLen 0)) + (kLen 4)) (tcat (0 + (kLen 0)) (tcat 0 (fun _ => 0) (kByt 0)) (kByt 4)) (nDig v14)) (kByt 5)) := asc_cat qu90 (kAsc 5 (by decide))
    have eu92 : ∀ j, j < (((0 + (kLen 0)) + (kLen 4)) + (nLen v14)) + (kLen 5) → (tcat (((0 + (kLen 0)) + (kLen 4)) + (nLen v14)) (tcat ((0 + (kLen 0)) + (kLen 4)) (tcat (0 + (kLen 0)) (tcat 0 (fun _ => 0) (kByt 0)) (kByt 4)) (nDig v14)) (kByt 5)) j = (tcat (((0 + (kLen 0)) + (kLen 4)) + (nLen v14)) (tcat ((0 + (kLen 0)) + (kLen 4)) (tcat (0 + (kLen 0)) (tcat 0 (fun _ => 0) (kByt 0)) (kByt 4)) (nDig v14)) (kByt 5)) j := tcat_eq eu90 (fun _ _ => rfl)
    refine g_eq (ws' := (List.append [(b71, .inr (1, [.ref u92.1.1, .int 0, .int 0, .int (Int32.ofNat ((((0 + (kLen 0)) + (kLen 4)) + (nLen v14)) + (kLen 5)))])), (u92.1.1, .inl (cB, u92.1.2.1, .inl u92.1.2.2))] (labX cB cC cI cO L0 ua v))) rfl rfl rfl ?_
    refine g_aload_n C0 dL_law_627 rfl 1 rfl ?_
    refine g_iload C0 dL_law_628 13 rfl ?_
    obtain ⟨r93, er93, hf⟩ := hl_bd hf
    obtain ⟨z94, ez94, hf⟩ := hl_inl hf
    have kr93 := mg_get l hl0 D cB cC cI cO L0 ua v v14 r93 er93
    rw [ez94] at kr93
    refine g_sufNi C0 E0.1.1 (P := [(b71, .inr (1, [.ref u92.1.1, .int 0, .int 0, .int (Int32.ofNat ((((0 + (kLen 0)) + (kLen 4)) + (nLen v14)) + (kLen 5)))])), (u92.1.1, .inl (cB, u92.1.2.1, .inl u92.1.2.2))]) (X := labX cB cC cI cO L0 ua v) (X1 := labX cB cC cI cO L0 ua v) (As := [.int v14]) (st := [.ref b71]) kr93 hmX6_get q_281 ⟨Nat.le_of_ble_eq_true rfl, Nat.le_of_ble_eq_true rfl⟩ ⟨by omega, by omega⟩ rfl rfl rfl rfl rfl 0 rfl rfl rfl (Nat.le_of_ble_eq_true rfl) dL_law_630 ?_
    obtain ⟨h95, hf⟩ := hl_ifS hf
    refine g_xVr (X := [(b71, .inr (1, [.ref u92.1.1, .int 0, .int 0, .int (Int32.ofNat ((((0 + (kLen 0)) + (kLen 4)) + (nLen v14)) + (kLen 5)))])), (u92.1.1, .inl (cB, u92.1.2.1, .inl u92.1.2.2))]) (pl := labX cB cC cI cO L0 ua v) (wr := []) (As := [.int z94]) (st := []) (b := b71) C0 jE_ok (xe_of C0 jE_ok E0.1.2) (xr_w C0 0 rfl rfl) (mJ4_append_bf812 l D cB cC cI cO z94 (nLen z94) (nDig z94) b71 u92.1.1 0 ((((0 + (kLen 0)) + (kLen 4)) + (nLen v14)) + (kLen 5)) u92.1.2.1 u92.1.2.2 (tcat (((0 + (kLen 0)) + (kLen 4)) + (nLen v14)) (tcat ((0 + (kLen 0)) + (kLen 4)) (tcat (0 + (kLen 0)) (tcat 0 (fun _ => 0) (kByt 0)) (kByt 4)) (nDig v14)) (kByt 5)) (by omega) (by omega) (numOK_T h95.2) u92.2) hmJ4_append_bf812 q_1039 ⟨Nat.le_of_ble_eq_true rfl, Nat.le_of_ble_eq_true rfl⟩ rfl rfl ⟨by omega, by omega⟩ rfl [0, 1] [] rfl rfl rfl rfl (by decide) rfl rfl (Nat.le_of_ble_eq_true rfl) dL_law_633 (fun u96 => ?_)
    refine g_widen (kk1 := kk + 8) (nn1 := nn + 7026) (by omega) (by omega) ?_
    have qu96 : asc (((((0 + (kLen 0)) + (kLen 4)) + (nLen v14)) + (kLen 5)) + (nLen z94)) (tcat ((((0 + (kLen 0)) + (kLen 4)) + (nLen v14)) + (kLen 5)) (tcat (((0 + (kLen 0)) + (kLen 4)) + (nLen v14)) (tcat ((0 + (kLen 0)) + (kLen 4)) (tcat (0 + (kLen 0)) (tcat 0 (fun _ => 0) (kByt 0)) (kByt 4)) (nDig v14)) (kByt 5)) (nDig z94)) := asc_cat qu92 (numOK_asc h95.2)
    have eu96 : ∀ j, j < ((((0 + (kLen 0)) + (kLen 4)) + (nLen v14)) + (kLen 5)) + (nLen z94) → (tcat ((((0 + (kLen 0)) + (kLen 4)) + (nLen v14)) + (kLen 5)) (tcat (((0 + (kLen 0)) + (kLen 4)) + (nLen v14)) (tcat ((0 + (kLen 0)) + (kLen 4)) (tcat (0 + (kLen 0)) (tcat 0 (fun _ => 0) (kByt 0)) (kByt 4)) (nDig v14)) (kByt 5)) (nDig z94)) j = (tcat ((((0 + (kLen 0)) + (kLen 4)) + (nLen v14)) + (kLen 5)) (tcat (((0 + (kLen 0)) + (kLen 4)) + (nLen v14)) (tcat ((0 + (kLen 0)) + (kLen 4)) (tcat (0 + (kLen 0)) (tcat 0 (fun _ => 0) (kByt 0)) (kByt 4)) (nDig v14)) (kByt 5)) (nDig z94)) j := tcat_eq eu92 (fun _ _ => rfl)
    refine g_eq (ws' := (List.append [(b71, .inr (1, [.ref u96.1.1, .int 0, .int 0, .int (Int32.ofNat (((((0 + (kLen 0)) + (kLen 4)) + (nLen v14)) + (kLen 5)) + (nLen z94)))])), (u96.1.1, .inl (cB, u96.1.2.1, .inl u96.1.2.2))] (labX cB cC cI cO L0 ua v))) rfl rfl rfl ?_
    refine g_xVr (X := [(b71, .inr (1, [.ref u96.1.1, .int 0, .int 0, .int (Int32.ofNat (((((0 + (kLen 0)) + (kLen 4)) + (nLen v14)) + (kLen 5)) + (nLen z94)))])), (u96.1.1, .inl (cB, u96.1.2.1, .inl u96.1.2.2))]) (pl := labX cB cC cI cO L0 ua v) (wr := []) (As := []) (st := []) (b := b71) C0 jE_ok (xe_of C0 jE_ok E0.1.2) (xr_w C0 0 rfl rfl) (mJ4_toString_0e30d l D cB cC cI cO b71 u96.1.1 0 (((((0 + (kLen 0)) + (kLen 4)) + (nLen v14)) + (kLen 5)) + (nLen z94)) u96.1.2.1 u96.1.2.2 (tcat ((((0 + (kLen 0)) + (kLen 4)) + (nLen v14)) + (kLen 5)) (tcat (((0 + (kLen 0)) + (kLen 4)) + (nLen v14)) (tcat ((0 + (kLen 0)) + (kLen 4)) (tcat (0 + (kLen 0)) (tcat 0 (fun _ => 0) (kByt 0)) (kByt 4)) (nDig v14)) (kByt 5)) (nDig z94)) (by omega) u96.2) hmJ4_toString_0e30d q_1064 ⟨Nat.le_of_ble_eq_true rfl, Nat.le_of_ble_eq_true rfl⟩ rfl rfl ⟨by omega, by omega⟩ rfl [0, 1] [] rfl rfl rfl rfl (by decide) rfl rfl (Nat.le_of_ble_eq_true rfl) dL_law_636 (fun u97 => ?_)
    refine g_widen (kk1 := kk + 10) (nn1 := nn + 7730) (by omega) (by omega) ?_
    obtain ⟨⟨tau97, twu97, tfu97⟩, hfitu97, hyu97⟩ := u97
    have hxu97 : ∀ j, j < (((((0 + (kLen 0)) + (kLen 4)) + (nLen v14)) + (kLen 5)) + (nLen z94)) → tfu97 j = (tcat ((((0 + (kLen 0)) + (kLen 4)) + (nLen v14)) + (kLen 5)) (tcat (((0 + (kLen 0)) + (kLen 4)) + (nLen v14)) (tcat ((0 + (kLen 0)) + (kLen 4)) (tcat (0 + (kLen 0)) (tcat 0 (fun _ => 0) (kByt 0)) (kByt 4)) (nDig v14)) (kByt 5)) (nDig z94)) j := fun j hj => (hyu97 j hj).trans (eu96 j hj)
    have hcu97 : ascB (((((0 + (kLen 0)) + (kLen 4)) + (nLen v14)) + (kLen 5)) + (nLen z94)) tfu97 := ⟨by omega, asc_of hyu97 qu96⟩
    refine g_ordP (P' := [(tau97, .inr (0, [.ref twu97, .int 0, .int 0, .int 0])), (twu97, .inl (cB, (((((0 + (kLen 0)) + (kLen 4)) + (nLen v14)) + (kLen 5)) + (nLen z94)), .inl tfu97))]) (X := labX cB cC cI cO L0 ua v) [2, 3] rfl rfl rfl ?_
    refine g_eq (st' := [.ref tau97]) (ws' := (List.append [(tau97, .inr (0, [.ref twu97, .int 0, .int 0, .int 0])), (twu97, .inl (cB, (((((0 + (kLen 0)) + (kLen 4)) + (nLen v14)) + (kLen 5)) + (nLen z94)), .inl tfu97))] (labX cB cC cI cO L0 ua v))) rfl rfl rfl ?_
    refine g_astore C0 (lv' := [(12, .ref tau97), (0, .ref g.2.2.1), (1, .ref L0), (2, .int v2), (3, .int v3), (4, .int v4), (5, .int v5), (6, .int v6), (7, .int v7), (8, .int v8), (9, .int v9), (11, .ref (g.1 0)), (13, .int v13), (14, .int v14)]) dL_law_639 (by decide) rfl ?_
    refine g_iinc C0 (lv' := [(13, .int (v13 + (1 : Int32))), (12, .ref tau97), (0, .ref g.2.2.1), (1, .ref L0), (2, .int v2), (3, .int v3), (4, .int v4), (5, .int v5), (6, .int v6), (7, .int v7), (8, .int v8), (9, .int v9), (11, .ref (g.1 0)), (14, .int v14)]) dL_law_641 12 rfl rfl (by decide) rfl ?_
    refine g_goto C0 (tgt := 555) dL_law_644 (by decide) ?_
    refine g_lv [2, 3, 4, 5, 6, 7, 8, 9, 10, 11, 12, 1, 0] (lv' := [(0, .ref g.2.2.1), (1, .ref L0), (2, .int v2), (3, .int v3), (4, .int v4), (5, .int v5), (6, .int v6), (7, .int v7), (8, .int v8), (9, .int v9), (11, .ref (g.1 0)), (12, .ref tau97), (13, .int (v13 + (1 : Int32)))]) rfl ?_
    exact hrec555 v v2 v3 v4 v5 v6 v7 v8 v9 (kLen 0) (kByt 0) (((((0 + (kLen 0)) + (kLen 4)) + (nLen v14)) + (kLen 5)) + (nLen z94)) (tcat ((((0 + (kLen 0)) + (kLen 4)) + (nLen v14)) + (kLen 5)) (tcat (((0 + (kLen 0)) + (kLen 4)) + (nLen v14)) (tcat ((0 + (kLen 0)) + (kLen 4)) (tcat (0 + (kLen 0)) (tcat 0 (fun _ => 0) (kByt 0)) (kByt 4)) (nDig v14)) (kByt 5)) (nDig z94)) (v13 + (1 : Int32)) tau97 twu97 tfu97 hxu97 hcu97 _ _ hf (by omega) (by omega)
set_option maxHeartbeats 8000000 in
set_option maxRecDepth 100000 in
theorem bL_law_555_KK {p : Program} {l : Launch} {e : Env} {s : State} {m : MethodId} {args : Array Value} {below : List Frame} {meth : Method} {c : Code} {D : va_G} {cB cC cI cO : ClassId} {A : Nat → Prop} {g : LG} (C0 : gC RL cL_law 23 (some .boolean) p s m args meth c D (hTy cB cC cI cO) A) (E0 : hLw g A s) (hl0 : l.stackTraces = false) (K0 : Nat → Int32) (hK0 : fJ7_fill_53178 64 (fun _ => 0) (-1 : Int32) = some K0) {Q : State → Prop} (KE : ∀ (lv : List (Nat × Value)) (ws : va_W) (kk nn : Nat), kk ≤ room_1.cells → nn ≤ room_1.slots → gG p l e room_1 s m args below meth c D A 23 Q kk nn 1230 lv [.int 1] ws) (L0 : Nat) (ua : LA) (out : Unit) {B15a B15b : Nat} (rec15 : LV → Int32 → Option (Unit)) (hrec15 : ∀ (v : LV) (v2 : Int32)  (kk nn : Nat), rec15 v v2 = some out → kk + (B15a) ≤ room_1.cells → nn + (B15b) ≤ room_1.slots → gG p l e room_1 s m args below meth c D A 23 Q kk nn 15 [(0, .ref g.2.2.1), (1, .ref L0), (2, .int v2)] [] (List.append [] (labX cB cC cI cO L0 ua v))) : ∀ (n : Nat) (v : LV) (v2 : Int32) (v3 : Int32) (v4 : Int32) (v5 : Int32) (v6 : Int32) (v7 : Int32) (v8 : Int32) (v9 : Int32) (_ : Nat) (_ : Nat → Int32) (_ : Nat) (_ : Nat → Int32) (v13 : Int32)  (kk nn : Nat), fL_law_555 g K0 rec15 n v v2 v3 v4 v5 v6 v7 v8 v9 (kLen 0) (kByt 0) (kLen 0) (kByt 0) v13 = some out → kk + (n * 12 + (3272 + B15a)) ≤ room_1.cells → nn + (n * 7742 + (34456 + B15b)) ≤ room_1.slots → gG p l e room_1 s m args below meth c D A 23 Q kk nn 555 [(0, .ref g.2.2.1), (1, .ref L0), (2, .int v2), (3, .int v3), (4, .int v4), (5, .int v5), (6, .int v6), (7, .int v7), (8, .int v8), (9, .int v9), (11, .ref (g.1 0)), (12, .ref (g.1 0)), (13, .int v13)] [] (List.append [] (labX cB cC cI cO L0 ua v)) := by
  intro n
  cases n with
  | zero => intro v v2 v3 v4 v5 v6 v7 v8 v9 _ _ _ _ v13 kk nn hf hb1 hb2; rw [fL_law_555] at hf; cases hf
  | succ n =>
    intro v v2 v3 v4 v5 v6 v7 v8 v9 _ _ _ _ v13 kk nn hf hb1 hb2
    have ih := bL_law_555_KW C0 E0 hl0 K0 hK0 KE L0 ua out rec15 hrec15 n
    rw [fL_law_555] at hf
    refine g_iload C0 dL_law_555 12 rfl ?_
    refine g_iload C0 dL_law_557 4 rfl ?_
    refine g_icmp_ge C0 (tgt := 647) dL_law_559 (by decide) (fun c14 => ?_) (fun c14 => ?_)
    · rw [if_pos c14] at hf
      refine g_iconst C0 (v := (0 : Int32)) dL_law_647 (by decide) ?_
      refine g_istore C0 (lv' := [(13, .int (0 : Int32)), (0, .ref g.2.2.1), (1, .ref L0), (2, .int v2), (3, .int v3), (4, .int v4), (5, .int v5), (6, .int v6), (7, .int v7), (8, .int v8), (9, .int v9), (11, .ref (g.1 0)), (12, .ref (g.1 0))]) dL_law_648 (by decide) rfl ?_
      refine g_lv [1, 2, 3, 4, 5, 6, 7, 8, 9, 10, 11, 12, 0] (lv' := [(0, .ref g.2.2.1), (1, .ref L0), (2, .int v2), (3, .int v3), (4, .int v4), (5, .int v5), (6, .int v6), (7, .int v7), (8, .int v8), (9, .int v9), (11, .ref (g.1 0)), (12, .ref (g.1 0)), (13, .int (0 : Int32))]) rfl ?_
      exact bL_law_650_KK C0 E0 hl0 K0 hK0 KE L0 ua out rec15 hrec15  7  v v2 v3 v4 v5 v6 v7 v8 v9 (kLen 0) (kByt 0) (kLen 0) (kByt 0) (0 : Int32)  _ _ hf (by omega) (by omega)
    · rw [if_neg c14] at hf
      refine g_aload_n C0 dL_law_562 rfl 1 rfl ?_
      refine g_iload C0 dL_law_563 12 rfl ?_
      obtain ⟨r15, er15, hf⟩ := hl_bd hf
      obtain ⟨z16, ez16, hf⟩ := hl_inl hf
      have kr15 := mg_keyAt l hl0 D cB cC cI cO L0 ua v v13 r15 er15
      rw [ez16] at kr15
      refine g_sufNi C0 E0.1.1 (P := []) (X := labX cB cC cI cO L0 ua v) (X1 := labX cB cC cI cO L0 ua v) (As := [.int v13]) (st := []) kr15 hmX6_keyAt q_425 ⟨Nat.le_of_ble_eq_true rfl, Nat.le_of_ble_eq_true rfl⟩ ⟨by omega, by omega⟩ rfl rfl rfl rfl rfl 0 rfl rfl rfl (Nat.le_of_ble_eq_true rfl) dL_law_565 ?_
      refine g_istore C0 (lv' := [(14, .int z16), (0, .ref g.2.2.1), (1, .ref L0), (2, .int v2), (3, .int v3), (4, .int v4), (5, .int v5), (6, .int v6), (7, .int v7), (8, .int v8), (9, .int v9), (11, .ref (g.1 0)), (12, .ref (g.1 0)), (13, .int v13)]) dL_law_568 (by decide) rfl ?_
      refine g_iload C0 dL_law_570 13 rfl ?_
      refine g_if_le C0 (tgt := 590) dL_law_572 (by decide) (fun c17 => ?_) (fun c17 => ?_)
      · rw [if_pos c17] at hf
        refine g_lv [1, 2, 3, 4, 5, 6, 7, 8, 9, 10, 11, 12, 13, 0] (lv' := [(0, .ref g.2.2.1), (1, .ref L0), (2, .int v2), (3, .int v3), (4, .int v4), (5, .int v5), (6, .int v6), (7, .int v7), (8, .int v8), (9, .int v9), (11, .ref (g.1 0)), (12, .ref (g.1 0)), (13, .int v13), (14, .int z16)]) rfl ?_
        exact bL_law_590_KK C0 E0 hl0 K0 hK0 KE L0 ua out rec15 (fL_law_555 g K0 rec15 n) hrec15 ih   v v2 v3 v4 v5 v6 v7 v8 v9 (kLen 0) (kByt 0) (kLen 0) (kByt 0) v13 z16  _ _ hf (by omega) (by omega)
      · rw [if_neg c17] at hf
        refine g_iload C0 dL_law_575 0 rfl ?_
        refine g_aload_n C0 dL_law_577 rfl 2 rfl ?_
        refine g_iload C0 dL_law_578 13 rfl ?_
        refine g_iconst C0 (v := (1 : Int32)) dL_law_580 (by decide) ?_
        refine g_isub C0 dL_law_581 ?_
        obtain ⟨r18, er18, hf⟩ := hl_bd hf
        obtain ⟨z19, ez19, hf⟩ := hl_inl hf
        have kr18 := mg_keyAt l hl0 D cB cC cI cO L0 ua v (v13 - (1 : Int32)) r18 er18
        rw [ez19] at kr18
        refine g_sufNi C0 E0.1.1 (P := []) (X := labX cB cC cI cO L0 ua v) (X1 := labX cB cC cI cO L0 ua v) (As := [.int (v13 - (1 : Int32))]) (st := [.int z16]) kr18 hmX6_keyAt q_425 ⟨Nat.le_of_ble_eq_true rfl, Nat.le_of_ble_eq_true rfl⟩ ⟨by omega, by omega⟩ rfl rfl rfl rfl rfl 0 rfl rfl rfl (Nat.le_of_ble_eq_true rfl) dL_law_582 ?_
        refine g_icmp_gt C0 (tgt := 590) dL_law_585 (by decide) (fun c20 => ?_) (fun c20 => ?_)
        · rw [if_pos c20] at hf
          refine g_lv [1, 2, 3, 4, 5, 6, 7, 8, 9, 10, 11, 12, 13, 0] (lv' := [(0, .ref g.2.2.1), (1, .ref L0), (2, .int v2), (3, .int v3), (4, .int v4), (5, .int v5), (6, .int v6), (7, .int v7), (8, .int v8), (9, .int v9), (11, .ref (g.1 0)), (12, .ref (g.1 0)), (13, .int v13), (14, .int z16)]) rfl ?_
          exact bL_law_590_KK C0 E0 hl0 K0 hK0 KE L0 ua out rec15 (fL_law_555 g K0 rec15 n) hrec15 ih   v v2 v3 v4 v5 v6 v7 v8 v9 (kLen 0) (kByt 0) (kLen 0) (kByt 0) v13 z16  _ _ hf (by omega) (by omega)
        · rw [if_neg c20] at hf
          refine g_iconst C0 (v := (0 : Int32)) dL_law_588 (by decide) ?_
          cases hf
