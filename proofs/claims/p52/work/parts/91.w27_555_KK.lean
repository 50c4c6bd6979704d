/-! the law, walked: 28 -/
set_option maxHeartbeats 8000000 in
set_option maxRecDepth 100000 in
theorem bL_law_555_KK {p : Program} {l : Launch} {e : Env} {s : State} {m : MethodId} {args : Array Value} {below : List Frame} {meth : Method} {c : Code} {D : va_G} {cB cC cI cO : ClassId} {A : Nat → Prop} {g : LG} (C0 : gC RL cL_law 23 (some .boolean) p s m args meth c D (hTy cB cC cI cO) A) (E0 : hLw g A s) (hl0 : l.stackTraces = false) (K0 : Nat → Int32) (hK0 : fJ7_fill_53178 64 (fun _ => 0) (-1 : Int32) = some K0) {Q : State → Prop} (KE : ∀ (lv : List (Nat × Value)) (ws : va_W) (kk nn : Nat), kk ≤ room_1.cells → nn ≤ room_1.slots → gG p l e room_1 s m args below meth c D A 23 Q kk nn 1230 lv [.int 1] ws) (L0 : Nat) (ua : LA) (out : Unit) {B15a B15b : Nat} (rec15 : LV → Int32 → Option (Unit)) (hrec15 : ∀ (v : LV) (v2 : Int32)  (kk nn : Nat), rec15 v v2 = some out → kk + (B15a) ≤ room_1.cells → nn + (B15b) ≤ room_1.slots → gG p l e room_1 s m args below meth c D A 23 Q kk nn 15 [(0, .ref g.2.2.1), (1, .ref L0), (2, .int v2)] [] (List.append [] (labX cB cC cI cO L0 ua v))) : ∀ (n : Nat) (v : LV) (v2 : Int32) (v3 : Int32) (v4 : Int32) (v5 : Int32) (v6 : Int32) (v7 : Int32) (v8 : Int32) (v9 : Int32) (_ : Nat) (_ : Nat → Int32) (_ : Nat) (_ : Nat → Int32) (v13 : Int32)  (kk nn : Nat), fL_law_555 g K0 rec15 n v v2 v3 v4 v5 v6 v7 v8 v9 (kLen 0) (kByt 0) (kLen 0) (kByt 0) v13 = some out → kk + (n * 12 + (3272 + B15a)) ≤ room_1.cells → nn + (n * 7742 + (34456 + B15b)) ≤ room_1.slots → gG p l e room_1 s m args below meth c D A 23 Q kk nn 555 [(0, .ref g.2.2.1), (1, .ref L0), (2, .int v2), (3, .int v3), (4, .int v4), (5, .int v5), (6, .int v6), (7, .int v7), (8, .int v8), (9, .int v9), (11, .ref (g.1 0)), (12, .ref (g.1 0)), (13, .int v13)] [] (List.append [] (labX cB cC cI cO L0 ua v)) := by
  intro n
  cases n with
  | zero => intro v v2 v3 v4 v5 v6 v7 v8 v9 _ _ _ _ v13 kk nn hf hb1 hb2; rw [fL_law_555] at hf; cases hf
  | succ n =>
    intro v v2 v3 v4 v5 v6 v7 v8 v9 _ _ _ _ v13 kk nn hf hb1 hb2
    have ih := bL_law_555_KW C0 E0 hl0 K0 hK0 KE L0 ua out rec15 hrec15 n
    rw [fL_law_555] at hf
    rw [Nat.succ_mul] at hb1 hb2
    refine g_iload C0 dL_law_555 12 rfl ?_
    refine g_iload C0 dL_law_557 4 rfl ?_
    refine g_icmp_ge C0 (tgt := 647) dL_law_559 (by decide) (fun c14 => ?_) (fun c14 => ?_)
    · rw [if_pos c14] at hf
      refine g_iconst C0 (v := (0 : Int32)) dL_law_647 (by decide) ?_
      refine g_istore C0 (lv' := [(13, .int (0 : Int32)), (0, .ref g.2.2.1), (1, .ref L0), (2, .int v2), (3, .int v3), (4, .int v4), (5, .int v5), (6, .int v6), (7, .int v7), (8, .int v8), (9, .int v9), (11, .ref (g.1 0)), (12, .ref (g.1 0))]) dL_law_648 (by decide) rfl ?_
      refine g_lv [1, 2, 3, 4, 5, 6, 7, 8, 9, 10, 11, 12, 0] (lv' := [(0, .ref g.2.2.1), (1, .ref L0), (2, .int v2), (3, .int v3), (4, .int v4), (5, .int v5), (6, .int v6), (7, .int v7), (8, .int v8), (9, .int v9), (11, .ref (g.1 0)), (12, .ref (g.1 0)), (13, .int (0 : Int32))]) rfl ?_
      exact bL_law_650_KK C0 E0 hl0 K0 hK0 KE L0 ua out rec15 hrec15  7  v v2 v3 v4 v5 v6 v7 v8 v9 (kLen 0) (kByt 0) (kLen 0) (kByt 0) (0 : Int32)  _ _ hf (by omega) (by omega)
    · rw [if_neg c14] at hf
      refine g_aload_n C0 dL_law_562 rfl 1 rfl ?_
      refine g_iload C0 dL_law_563 12 rfl ?_
      obtain ⟨r15, er15, hf⟩ := hl_bd hf
      obtain ⟨z16, ez16, hf⟩ := hl_inl hf
      have kr15 := mg_keyAt l hl0 D cB cC cI cO L0 ua v v13 r15 er15
      rw [ez16] at kr15
      refine g_sufNi C0 E0.1.1 (P := []) (X := labX cB cC cI cO L0 ua v) (X1 := labX cB cC cI cO L0 ua v) (As := [.int v13]) (st := []) kr15 hmX6_keyAt q_425 ⟨Nat.le_of_ble_eq_true rfl, Nat.le_of_ble_eq_true rfl⟩ ⟨by omega, by omega⟩ rfl rfl rfl rfl rfl 0 rfl rfl rfl (Nat.le_of_ble_eq_true rfl) dL_law_565 ?_
      refine g_istore C0 (lv' := [(14, .int z16), (0, .ref g.2.2.1), (1, .ref L0), (2, .int v2), (3, .int v3), (4, .int v4), (5, .int v5), (6, .int v6), (7, .int v7), (8, .int v8), (9, .int v9), (11, .ref (g.1 0)), (12, .ref (g.1 0)), (13, .int v13)]) dL_law_568 (by decide) rfl ?_
      refine g_iload C0 dL_law_570 13 rfl ?_
      refine g_if_le C0 (tgt := 590) dL_law_572 (by decide) (fun c17 => ?_) (fun c17 => ?_)
      · rw [if_pos c17] at hf
        refine g_lv [1, 2, 3, 4, 5, 6, 7, 8, 9, 10, 11, 12, 13, 0] (lv' := [(0, .ref g.2.2.1), (1, .ref L0), (2, .int v2), (3, .int v3), (4, .int v4), (5, .int v5), (6, .int v6), (7, .int v7), (8, .int v8), (9, .int v9), (11, .ref (g.1 0)), (12, .ref (g.1 0)), (13, .int v13), (14, .int z16)]) rfl ?_
        exact bL_law_590_KK C0 E0 hl0 K0 hK0 KE L0 ua out rec15 (fL_law_555 g K0 rec15 n) hrec15 ih   v v2 v3 v4 v5 v6 v7 v8 v9 (kLen 0) (kByt 0) (kLen 0) (kByt 0) v13 z16  _ _ hf (by omega) (by omega)
      · rw [if_neg c17] at hf
        refine g_iload C0 dL_law_575 0 rfl ?_
        refine g_aload_n C0 dL_law_577 rfl 2 rfl ?_
        refine g_iload C0 dL_law_578 13 rfl ?_
        refine g_iconst C0 (v := (1 : Int32)) dL_law_580 (by decide) ?_
        refine g_isub C0 dL_law_581 ?_
        obtain ⟨r18, er18, hf⟩ := hl_bd hf
        obtain ⟨z19, ez19, hf⟩ := hl_inl hf
        have kr18 := mg_keyAt l hl0 D cB cC cI cO L0 ua v (v13 - (1 : Int32)) r18 er18
        rw [ez19] at kr18
        refine g_sufNi C0 E0.1.1 (P := []) (X := labX cB cC cI cO L0 ua v) (X1 := labX cB cC cI cO L0 ua v) (As := [.int (v13 - (1 : Int32))]) (st := [.int z16]) kr18 hmX6_keyAt q_425 ⟨Nat.le_of_ble_eq_true rfl, Nat.le_of_ble_eq_true rfl⟩ ⟨by omega, by omega⟩ rfl rfl rfl rfl rfl 0 rfl rfl rfl (Nat.le_of_ble_eq_true rfl) dL_law_582 ?_
        refine g_icmp_gt C0 (tgt := 590) dL_law_585 (by decide) (fun c20 => ?_) (fun c20 => ?_)
        · rw [if_pos c20] at hf
          refine g_lv [1, 2, 3, 4, 5, 6, 7, 8, 9, 10, 11, 12, 13, 0] (lv' := [(0, .ref g.2.2.1), (1, .ref L0), (2, .int v2), (3, .int v3), (4, .int v4), (5, .int v5), (6, .int v6), (7, .int v7), (8, .int v8), (9, .int v9), (11, .ref (g.1 0)), (12, .ref (g.1 0)), (13, .int v13), (14, .int z16)]) rfl ?_
          exact bL_law_590_KK C0 E0 hl0 K0 hK0 KE L0 ua out rec15 (fL_law_555 g K0 rec15 n) hrec15 ih   v v2 v3 v4 v5 v6 v7 v8 v9 (kLen 0) (kByt 0) (kLen 0) (kByt 0) v13 z16  _ _ hf (by omega) (by omega)
        · rw [if_neg c20] at hf
          refine g_iconst C0 (v := (0 : Int32)) dL_law_588 (by decide) ?_
          cases hf
