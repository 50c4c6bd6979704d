/-! the law, walked: 33 -/
set_option maxHeartbeats 8000000 in
set_option maxRecDepth 100000 in
theorem bL_law_59_KK {p : Program} {l : Launch} {e : Env} {s : State} {m : MethodId} {args : Array Value} {below : List Frame} {meth : Method} {c : Code} {D : va_G} {cB cC cI cO : ClassId} {A : Nat → Prop} {g : LG} (C0 : gC RL cL_law 23 (some .boolean) p s m args meth c D (hTy cB cC cI cO) A) (E0 : hLw g A s) (hl0 : l.stackTraces = false) (K0 : Nat → Int32) (hK0 : fJ7_fill_53178 64 (fun _ => 0) (-1 : Int32) = some K0) {Q : State → Prop} (KE : ∀ (lv : List (Nat × Value)) (ws : va_W) (kk nn : Nat), kk ≤ room_1.cells → nn ≤ room_1.slots → gG p l e room_1 s m args below meth c D A 23 Q kk nn 1230 lv [.int 1] ws) (L0 : Nat) (ua : LA) (out : Unit) {B15a B15b : Nat} (rec15 : LV → Int32 → Option (Unit)) (hrec15 : ∀ (v : LV) (v2 : Int32)  (kk nn : Nat), rec15 v v2 = some out → kk + (B15a) ≤ room_1.cells → nn + (B15b) ≤ room_1.slots → gG p l e room_1 s m args below meth c D A 23 Q kk nn 15 [(0, .ref g.2.2.1), (1, .ref L0), (2, .int v2)] [] (List.append [] (labX cB cC cI cO L0 ua v))) : ∀ (n : Nat) (v : LV) (v2 : Int32) (v3 : Int32) (v4 : Int32) (v5 : Int32) (v6 : Int32) (v7 : Int32) (v8 : Int32) (v9 : Int32) (v10 : Int32) (_ : Nat) (_ : Nat → Int32) (_ : Nat) (_ : Nat → Int32) (v13 : Int32)  (kk nn : Nat), fL_law_59 g K0 rec15 n v v2 v3 v4 v5 v6 v7 v8 v9 v10 (kLen 0) (kByt 0) (kLen 0) (kByt 0) v13 = some out → kk + (n * 495 + (4052 + B15a)) ≤ room_1.cells → nn + (n * 9946 + (537686 + B15b)) ≤ room_1.slots → gG p l e room_1 s m args below meth c D A 23 Q kk nn 59 [(0, .ref g.2.2.1), (1, .ref L0), (2, .int v2), (3, .int v3), (4, .int v4), (5, .int v5), (6, .int v6), (7, .int v7), (8, .int v8), (9, .int v9), (10, .int v10), (11, .ref (g.1 0)), (12, .ref (g.1 0)), (13, .int v13)] [] (List.append [] (labX cB cC cI cO L0 ua v)) := by
  intro n
  cases n with
  | zero => intro v v2 v3 v4 v5 v6 v7 v8 v9 v10 _ _ _ _ v13 kk nn hf hb1 hb2; rw [fL_law_59] at hf; cases hf
  | succ n =>
    intro v v2 v3 v4 v5 v6 v7 v8 v9 v10 _ _ _ _ v13 kk nn hf hb1 hb2
    have ih := bL_law_59_WK C0 E0 hl0 K0 hK0 KE L0 ua out rec15 hrec15 n
    rw [fL_law_59] at hf
    rw [Nat.succ_mul] at hb1 hb2
    refine g_iload C0 dL_law_59 13 rfl ?_
    refine g_iload_n C0 dL_law_61 rfl 3 rfl ?_
    refine g_icmp_ge C0 (tgt := 552) dL_law_62 (by decide) (fun c6 => ?_) (fun c6 => ?_)
    · rw [if_pos c6] at hf
      refine g_iconst C0 (v := (0 : Int32)) dL_law_552 (by decide) ?_
      refine g_istore C0 (lv' := [(13, .int (0 : Int32)), (0, .ref g.2.2.1), (1, .ref L0), (2, .int v2), (3, .int v3), (4, .int v4), (5, .int v5), (6, .int v6), (7, .int v7), (8, .int v8), (9, .int v9), (10, .int v10), (11, .ref (g.1 0)), (12, .ref (g.1 0))]) dL_law_553 (by decide) rfl ?_
      refine g_lv [1, 2, 3, 4, 5, 6, 7, 8, 9, 10, 12, 13, 0] (lv' := [(0, .ref g.2.2.1), (1, .ref L0), (2, .int v2), (3, .int v3), (4, .int v4), (5, .int v5), (6, .int v6), (7, .int v7), (8, .int v8), (9, .int v9), (11, .ref (g.1 0)), (12, .ref (g.1 0)), (13, .int (0 : Int32))]) rfl ?_
      exact bL_law_555_KK C0 E0 hl0 K0 hK0 KE L0 ua out rec15 hrec15  65  v v2 v3 v4 v5 v6 v7 v8 v9 (kLen 0) (kByt 0) (kLen 0) (kByt 0) (0 : Int32)  _ _ hf (by omega) (by omega)
    · rw [if_neg c6] at hf
      refine g_aload_n C0 dL_law_65 rfl 1 rfl ?_
      refine g_iload C0 dL_law_66 13 rfl ?_
      obtain ⟨r7, er7, hf⟩ := hl_bd hf
      refine g_hSi C0 E0 (P := []) (X := labX cB cC cI cO L0 ua v) (X1 := labX cB cC cI cO L0 ua v) (As := [.ref L0, .int v13]) (st := []) (mL_keyIn l hl0 D cB cC cI cO g L0 ua v v13 r7 er7) hmL_keyIn q_735 ⟨Nat.le_of_ble_eq_true rfl, Nat.le_of_ble_eq_true rfl⟩ rfl rfl ⟨by omega, by omega⟩ rfl rfl rfl rfl (Nat.le_of_ble_eq_true rfl) dL_law_68 ?_
      refine g_istore C0 (lv' := [(14, .int r7), (0, .ref g.2.2.1), (1, .ref L0), (2, .int v2), (3, .int v3), (4, .int v4), (5, .int v5), (6, .int v6), (7, .int v7), (8, .int v8), (9, .int v9), (10, .int v10), (11, .ref (g.1 0)), (12, .ref (g.1 0)), (13, .int v13)]) dL_law_71 (by decide) rfl ?_
      refine g_iconst C0 (v := (0 : Int32)) dL_law_73 (by decide) ?_
      refine g_istore C0 (lv' := [(15, .int (0 : Int32)), (14, .int r7), (0, .ref g.2.2.1), (1, .ref L0), (2, .int v2), (3, .int v3), (4, .int v4), (5, .int v5), (6, .int v6), (7, .int v7), (8, .int v8), (9, .int v9), (10, .int v10), (11, .ref (g.1 0)), (12, .ref (g.1 0)), (13, .int v13)]) dL_law_74 (by decide) rfl ?_
      refine g_aload_n C0 dL_law_76 rfl 3 rfl ?_
      refine g_iload C0 dL_law_77 15 rfl ?_
      obtain ⟨r8, er8, hf⟩ := hl_bd hf
      obtain ⟨z9, ez9, hf⟩ := hl_inl hf
      have kr8 := mg_isFull l hl0 D cB cC cI cO L0 ua v v13 r8 er8
      rw [ez9] at kr8
      refine g_sufNi C0 E0.1.1 (P := []) (X := labX cB cC cI cO L0 ua v) (X1 := labX cB cC cI cO L0 ua v) (As := [.int v13]) (st := []) kr8 hmX6_isFull q_438 ⟨Nat.le_of_ble_eq_true rfl, Nat.le_of_ble_eq_true rfl⟩ ⟨by omega, by omega⟩ rfl rfl rfl rfl rfl 0 rfl rfl rfl (Nat.le_of_ble_eq_true rfl) dL_law_79 ?_
      refine g_if_ne C0 (tgt := 94) dL_law_82 (by decide) (fun c10 => ?_) (fun c10 => ?_)
      · rw [if_neg c10] at hf
        refine g_iconst C0 (v := (1 : Int32)) dL_law_94 (by decide) ?_
        refine g_goto C0 (tgt := 99) dL_law_95 (by decide) ?_
        refine g_lv [2, 3, 4, 5, 6, 7, 8, 9, 10, 11, 12, 13, 14, 15, 1, 0] (lv' := [(0, .ref g.2.2.1), (1, .ref L0), (2, .int v2), (3, .int v3), (4, .int v4), (5, .int v5), (6, .int v6), (7, .int v7), (8, .int v8), (9, .int v9), (10, .int v10), (11, .ref (g.1 0)), (12, .ref (g.1 0)), (13, .int v13), (14, .int r7), (15, .int (0 : Int32))]) rfl ?_
        exact bL_law_99_KK C0 E0 hl0 K0 hK0 KE L0 ua out rec15 (fL_law_59 g K0 rec15 n) hrec15 ih   v v2 v3 v4 v5 v6 v7 v8 v9 v10 (kLen 0) (kByt 0) (kLen 0) (kByt 0) v13 r7 (0 : Int32) (1 : Int32)  _ _ hf (by omega) (by omega)
      · rw [if_pos c10] at hf
        refine g_aload_n C0 dL_law_85 rfl 3 rfl ?_
        refine g_iload C0 dL_law_86 15 rfl ?_
        obtain ⟨r11, er11, hf⟩ := hl_bd hf
        obtain ⟨z12, ez12, hf⟩ := hl_inl hf
        have kr11 := mg_isTombstone l hl0 D cB cC cI cO L0 ua v v13 r11 er11
        rw [ez12] at kr11
        refine g_sufNi C0 E0.1.1 (P := []) (X := labX cB cC cI cO L0 ua v) (X1 := labX cB cC cI cO L0 ua v) (As := [.int v13]) (st := []) kr11 hmX6_isTombstone q_444 ⟨Nat.le_of_ble_eq_true rfl, Nat.le_of_ble_eq_true rfl⟩ ⟨by omega, by omega⟩ rfl rfl rfl rfl rfl 0 rfl rfl rfl (Nat.le_of_ble_eq_true rfl) dL_law_88 ?_
        refine g_if_eq C0 (tgt := 98) dL_law_91 (by decide) (fun c13 => ?_) (fun c13 => ?_)
        · rw [if_pos c13] at hf
          refine g_iconst C0 (v := (0 : Int32)) dL_law_98 (by decide) ?_
          refine g_lv [2, 3, 4, 5, 6, 7, 8, 9, 10, 11, 12, 13, 14, 15, 1, 0] (lv' := [(0, .ref g.2.2.1), (1, .ref L0), (2, .int v2), (3, .int v3), (4, .int v4), (5, .int v5), (6, .int v6), (7, .int v7), (8, .int v8), (9, .int v9), (10, .int v10), (11, .ref (g.1 0)), (12, .ref (g.1 0)), (13, .int v13), (14, .int r7), (15, .int (0 : Int32))]) rfl ?_
          exact bL_law_99_KK C0 E0 hl0 K0 hK0 KE L0 ua out rec15 (fL_law_59 g K0 rec15 n) hrec15 ih   v v2 v3 v4 v5 v6 v7 v8 v9 v10 (kLen 0) (kByt 0) (kLen 0) (kByt 0) v13 r7 (0 : Int32) (0 : Int32)  _ _ hf (by omega) (by omega)
        · rw [if_neg c13] at hf
          refine g_iconst C0 (v := (1 : Int32)) dL_law_94 (by decide) ?_
          refine g_goto C0 (tgt := 99) dL_law_95 (by decide) ?_
          refine g_lv [2, 3, 4, 5, 6, 7, 8, 9, 10, 11, 12, 13, 14, 15, 1, 0] (lv' := [(0, .ref g.2.2.1), (1, .ref L0), (2, .int v2), (3, .int v3), (4, .int v4), (5, .int v5), (6, .int v6), (7, .int v7), (8, .int v8), (9, .int v9), (10, .int v10), (11, .ref (g.1 0)), (12, .ref (g.1 0)), (13, .int v13), (14, .int r7), (15, .int (0 : Int32))]) rfl ?_
          exact bL_law_99_KK C0 E0 hl0 K0 hK0 KE L0 ua out rec15 (fL_law_59 g K0 rec15 n) hrec15 ih   v v2 v3 v4 v5 v6 v7 v8 v9 v10 (kLen 0) (kByt 0) (kLen 0) (kByt 0) v13 r7 (0 : Int32) (1 : Int32)  _ _ hf (by omega) (by omega)
set_option maxHeartbeats 8000000 in
set_option maxRecDepth 100000 in
theorem bL_law_15 {p : Program} {l : Launch} {e : Env} {s : State} {m : MethodId} {args : Array Value} {below : List Frame} {meth : Method} {c : Code} {D : va_G} {cB cC cI cO : ClassId} {A : Nat → Prop} {g : LG} (C0 : gC RL cL_law 23 (some .boolean) p s m args meth c D (hTy cB cC cI cO) A) (E0 : hLw g A s) (hl0 : l.stackTraces = false) (K0 : Nat → Int32) (hK0 : fJ7_fill_53178 64 (fun _ => 0) (-1 : Int32) = some K0) {Q : State → Prop} (KE : ∀ (lv : List (Nat × Value)) (ws : va_W) (kk nn : Nat), kk ≤ room_1.cells → nn ≤ room_1.slots → gG p l e room_1 s m args below meth c D A 23 Q kk nn 1230 lv [.int 1] ws) (L0 : Nat) (ua : LA) (out : Unit)    : ∀ (n : Nat) (v : LV) (v2 : Int32)  (kk nn : Nat), fL_law_15 g K0 n v v2 = some out → kk + (n * 36227 + (0)) ≤ room_1.cells → nn + (n * 1184176 + (0)) ≤ room_1.slots → gG p l e room_1 s m args below meth c D A 23 Q kk nn 15 [(0, .ref g.2.2.1), (1, .ref L0), (2, .int v2)] [] (List.append [] (labX cB cC cI cO L0 ua v)) := by
  intro n
  induction n with
  | zero => intro v v2 kk nn hf hb1 hb2; rw [fL_law_15] at hf; cases hf
  | succ n ih =>
    intro v v2 kk nn hf hb1 hb2
    rw [fL_law_15] at hf
    rw [Nat.succ_mul] at hb1 hb2
    refine g_iload_n C0 dL_law_15 rfl 2 rfl ?_
    refine g_iconst C0 (v := (3 : Int32)) dL_law_16 (by decide) ?_
    refine g_icmp_ge C0 (tgt := 1229) dL_law_17 (by decide) (fun c4 => ?_) (fun c4 => ?_)
    · rw [if_pos c4] at hf
      refine g_iconst C0 (v := (1 : Int32)) dL_law_1229 (by decide) ?_
      exact KE _ _ _ _ (by omega) (by omega)
    · rw [if_neg c4] at hf
      refine g_aload_n C0 dL_law_20 rfl 1 rfl ?_
      obtain ⟨r5, er5, hf⟩ := hl_bd hf
      refine g_sufi C0 (P := []) (X := labX cB cC cI cO L0 ua v) (X1 := labX cB cC cI cO L0 ua v) (As := []) (st := []) (mg_capacity l D cB cC cI cO L0 ua v  r5 er5) hmX6_capacity q_201 ⟨Nat.le_of_ble_eq_true rfl, Nat.le_of_ble_eq_true rfl⟩ ⟨by omega, by omega⟩ rfl rfl rfl rfl rfl 0 rfl rfl rfl (Nat.le_of_ble_eq_true rfl) dL_law_21 ?_
      refine g_istore_n C0 (lv' := [(3, .int r5), (0, .ref g.2.2.1), (1, .ref L0), (2, .int v2)]) dL_law_24 rfl (by decide) rfl ?_
      refine g_iconst C0 (v := (0 : Int32)) dL_law_25 (by decide) ?_
      refine g_istore C0 (lv' := [(4, .int (0 : Int32)), (3, .int r5), (0, .ref g.2.2.1), (1, .ref L0), (2, .int v2)]) dL_law_26 (by decide) rfl ?_
      refine g_iconst C0 (v := (0 : Int32)) dL_law_28 (by decide) ?_
      refine g_istore C0 (lv' := [(5, .int (0 : Int32)), (4, .int (0 : Int32)), (3, .int r5), (0, .ref g.2.2.1), (1, .ref L0), (2, .int v2)]) dL_law_29 (by decide) rfl ?_
      refine g_iconst C0 (v := (0 : Int32)) dL_law_31 (by decide) ?_
      refine g_istore C0 (lv' := [(6, .int (0 : Int32)), (5, .int (0 : Int32)), (4, .int (0 : Int32)), (3, .int r5), (0, .ref g.2.2.1), (1, .ref L0), (2, .int v2)]) dL_law_32 (by decide) rfl ?_
      refine g_iconst C0 (v := (0 : Int32)) dL_law_34 (by decide) ?_
      refine g_istore C0 (lv' := [(7, .int (0 : Int32)), (6, .int (0 : Int32)), (5, .int (0 : Int32)), (4, .int (0 : Int32)), (3, .int r5), (0, .ref g.2.2.1), (1, .ref L0), (2, .int v2)]) dL_law_35 (by decide) rfl ?_
      refine g_iconst C0 (v := (0 : Int32)) dL_law_37 (by decide) ?_
      refine g_istore C0 (lv' := [(8, .int (0 : Int32)), (7, .int (0 : Int32)), (6, .int (0 : Int32)), (5, .int (0 : Int32)), (4, .int (0 : Int32)), (3, .int r5), (0, .ref g.2.2.1), (1, .ref L0), (2, .int v2)]) dL_law_38 (by decide) rfl ?_
      refine g_sipush C0 (v := (-30000 : Int32)) dL_law_40 (by decide) ?_
      refine g_istore C0 (lv' := [(9, .int (-30000 : Int32)), (8, .int (0 : Int32)), (7, .int (0 : Int32)), (6, .int (0 : Int32)), (5, .int (0 : Int32)), (4, .int (0 : Int32)), (3, .int r5), (0, .ref g.2.2.1), (1, .ref L0), (2, .int v2)]) dL_law_43 (by decide) rfl ?_
      refine g_iconst C0 (v := (0 : Int32)) dL_law_45 (by decide) ?_
      refine g_istore C0 (lv' := [(10, .int (0 : Int32)), (9, .int (-30000 : Int32)), (8, .int (0 : Int32)), (7, .int (0 : Int32)), (6, .int (0 : Int32)), (5, .int (0 : Int32)), (4, .int (0 : Int32)), (3, .int r5), (0, .ref g.2.2.1), (1, .ref L0), (2, .int v2)]) dL_law_46 (by decide) rfl ?_
      refine g_ldcS C0 (E0.2.1.2 0 (123, "") rfl) dL_law_48 ?_
      refine g_astore C0 (lv' := [(11, .ref (g.1 0)), (10, .int (0 : Int32)), (9, .int (-30000 : Int32)), (8, .int (0 : Int32)), (7, .int (0 : Int32)), (6, .int (0 : Int32)), (5, .int (0 : Int32)), (4, .int (0 : Int32)), (3, .int r5), (0, .ref g.2.2.1), (1, .ref L0), (2, .int v2)]) dL_law_50 (by decide) rfl ?_
      refine g_ldcS C0 (E0.2.1.2 0 (123, "") rfl) dL_law_52 ?_
      refine g_astore C0 (lv' := [(12, .ref (g.1 0)), (11, .ref (g.1 0)), (10, .int (0 : Int32)), (9, .int (-30000 : Int32)), (8, .int (0 : Int32)), (7, .int (0 : Int32)), (6, .int (0 : Int32)), (5, .int (0 : Int32)), (4, .int (0 : Int32)), (3, .int r5), (0, .ref g.2.2.1), (1, .ref L0), (2, .int v2)]) dL_law_54 (by decide) rfl ?_
      refine g_iconst C0 (v := (0 : Int32)) dL_law_56 (by decide) ?_
      refine g_istore C0 (lv' := [(13, .int (0 : Int32)), (12, .ref (g.1 0)), (11, .ref (g.1 0)), (10, .int (0 : Int32)), (9, .int (-30000 : Int32)), (8, .int (0 : Int32)), (7, .int (0 : Int32)), (6, .int (0 : Int32)), (5, .int (0 : Int32)), (4, .int (0 : Int32)), (3, .int r5), (0, .ref g.2.2.1), (1, .ref L0), (2, .int v2)]) dL_law_57 (by decide) rfl ?_
      refine g_lv [11, 12, 13, 10, 9, 8, 7, 6, 5, 4, 3, 2, 1, 0] (lv' := [(0, .ref g.2.2.1), (1, .ref L0), (2, .int v2), (3, .int r5), (4, .int (0 : Int32)), (5, .int (0 : Int32)), (6, .int (0 : Int32)), (7, .int (0 : Int32)), (8, .int (0 : Int32)), (9, .int (-30000 : Int32)), (10, .int (0 : Int32)), (11, .ref (g.1 0)), (12, .ref (g.1 0)), (13, .int (0 : Int32))]) rfl ?_
      exact bL_law_59_KK C0 E0 hl0 K0 hK0 KE L0 ua out (fL_law_15 g K0 n) ih  65  v v2 r5 (0 : Int32) (0 : Int32) (0 : Int32) (0 : Int32) (0 : Int32) (-30000 : Int32) (0 : Int32) (kLen 0) (kByt 0) (kLen 0) (kByt 0) (0 : Int32)  _ _ hf (by omega) (by omega)
set_option maxHeartbeats 8000000 in
set_option maxRecDepth 100000 in
theorem bL_law {p : Program} {l : Launch} {e : Env} {s : State} {m : MethodId} {args : Array Value} {below : List Frame} {meth : Method} {c : Code} {D : va_G} {cB cC cI cO : ClassId} {A : Nat → Prop} {g : LG} (C0 : gC RL cL_law 23 (some .boolean) p s m args meth c D (hTy cB cC cI cO) A) (E0 : hLw g A s) (hl0 : l.stackTraces = false) (K0 : Nat → Int32) (hK0 : fJ7_fill_53178 64 (fun _ => 0) (-1 : Int32) = some K0) {Q : State → Prop} (KE : ∀ (lv : List (Nat × Value)) (ws : va_W) (kk nn : Nat), kk ≤ room_1.cells → nn ≤ room_1.slots → gG p l e room_1 s m args below meth c D A 23 Q kk nn 1230 lv [.int 1] ws) (out : Unit) (hf : fL_law g K0 = some out) : gG p l e room_1 s m args below meth c D A 23 Q 0 0 0 [(0, .ref g.2.2.1)] [] [] := by
  have hb1 : 0 + 145030 ≤ room_1.cells := Nat.le_of_ble_eq_true rfl
  have hb2 : 0 + 4741142 ≤ room_1.slots := Nat.le_of_ble_eq_true rfl
  unfold fL_law at hf
  refine g_new (ci := 6) (fs := labNew) C0 hinX6 tyX6_ok q_43 q_44 q_12 rfl (fun z hz => hl_dX6 z hz) (by omega) (by omega) dL_law_0 (fun L0 => ?_)
  refine g_dup C0 dL_law_3 rfl ?_
  refine g_ctorO (P := []) (X := [(L0, .inr (6, labNew))]) (As := []) (st := [.ref L0]) (b := L0) C0 E0.2.2.2.1 (mX6_init l D cB cC cI cO L0 K0 hK0) hmX6_init q_45 ⟨Nat.le_of_ble_eq_true rfl, Nat.le_of_ble_eq_true rfl⟩ rfl rfl ⟨by omega, by omega⟩ rfl rfl rfl (Nat.le_of_ble_eq_true rfl) dL_law_4 (fun ua => ?_)
  refine g_eq (ws' := (List.append [] (labX cB cC cI cO L0 ua (lv0 K0)))) rfl rfl rfl ?_
  refine g_astore_n C0 (lv' := [(1, .ref L0), (0, .ref g.2.2.1)]) dL_law_7 rfl (by decide) rfl ?_
  refine g_aload_n C0 dL_law_8 rfl 0 rfl ?_
  refine g_aload_n C0 dL_law_9 rfl 1 rfl ?_
  obtain ⟨r3, er3, hf⟩ := hl_bd hf
  refine g_lSv C0 E0 (P := []) (X := labX cB cC cI cO L0 ua (lv0 K0)) (X1 := labX cB cC cI cO L0 ua r3) (As := [.ref L0, .ref g.2.2.1]) (st := []) (mL_build l hl0 D cB cC cI cO g L0 ua (lv0 K0)  r3 er3) hmL_build q_793 ⟨Nat.le_of_ble_eq_true rfl, Nat.le_of_ble_eq_true rfl⟩ rfl rfl ⟨by omega, by omega⟩ rfl rfl rfl rfl (Nat.le_of_ble_eq_true rfl) dL_law_10 ?_
  refine g_iconst C0 (v := (0 : Int32)) dL_law_13 (by decide) ?_
  refine g_istore_n C0 (lv' := [(2, .int (0 : Int32)), (1, .ref L0), (0, .ref g.2.2.1)]) dL_law_14 rfl (by decide) rfl ?_
  refine g_lv [2, 1, 0] (lv' := [(0, .ref g.2.2.1), (1, .ref L0), (2, .int (0 : Int32))]) rfl ?_
  exact bL_law_15 C0 E0 hl0 K0 hK0 KE L0 ua out  4  r3 (0 : Int32)  _ _ hf (by omega) (by omega)
