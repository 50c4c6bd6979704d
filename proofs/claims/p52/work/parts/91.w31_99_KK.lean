/-! the law, walked: 32 -/
set_option maxHeartbeats 8000000 in
set_option maxRecDepth 100000 in
theorem bL_law_136_KK {p : Program} {l : Launch} {e : Env} {s : State} {m : MethodId} {args : Array Value} {below : List Frame} {meth : Method} {c : Code} {D : va_G} {cB cC cI cO : ClassId} {A : Nat → Prop} {g : LG} (C0 : gC RL cL_law 23 (some .boolean) p s m args meth c D (hTy cB cC cI cO) A) (E0 : hLw g A s) (hl0 : l.stackTraces = false) (K0 : Nat → Int32) (hK0 : fJ7_fill_53178 64 (fun _ => 0) (-1 : Int32) = some K0) {Q : State → Prop} (KE : ∀ (lv : List (Nat × Value)) (ws : va_W) (kk nn : Nat), kk ≤ room_1.cells → nn ≤ room_1.slots → gG p l e room_1 s m args below meth c D A 23 Q kk nn 1230 lv [.int 1] ws) (L0 : Nat) (ua : LA) (out : Unit) {B15a B15b : Nat} {B59a B59b : Nat} (rec15 : LV → Int32 → Option (Unit)) (rec59 : LV → Int32 → Int32 → Int32 → Int32 → Int32 → Int32 → Int32 → Int32 → Int32 → Nat → (Nat → Int32) → Nat → (Nat → Int32) → Int32 → Option (Unit)) (hrec15 : ∀ (v : LV) (v2 : Int32)  (kk nn : Nat), rec15 v v2 = some out → kk + (B15a) ≤ room_1.cells → nn + (B15b) ≤ room_1.slots → gG p l e room_1 s m args below meth c D A 23 Q kk nn 15 [(0, .ref g.2.2.1), (1, .ref L0), (2, .int v2)] [] (List.append [] (labX cB cC cI cO L0 ua v))) (hrec59 : ∀ (v : LV) (v2 : Int32) (v3 : Int32) (v4 : Int32) (v5 : Int32) (v6 : Int32) (v7 : Int32) (v8 : Int32) (v9 : Int32) (v10 : Int32) (t11n : Nat) (t11f : Nat → Int32) (_ : Nat) (_ : Nat → Int32) (v13 : Int32) (a11 w11 : Nat) (f11 : Nat → Int32) (hx11 : ∀ j, j < t11n → f11 j = t11f j) (hc11 : ascB t11n f11) (kk nn : Nat), rec59 v v2 v3 v4 v5 v6 v7 v8 v9 v10 t11n t11f (kLen 0) (kByt 0) v13 = some out → kk + (B59a) ≤ room_1.cells → nn + (B59b) ≤ room_1.slots → gG p l e room_1 s m args below meth c D A 23 Q kk nn 59 [(0, .ref g.2.2.1), (1, .ref L0), (2, .int v2), (3, .int v3), (4, .int v4), (5, .int v5), (6, .int v6), (7, .int v7), (8, .int v8), (9, .int v9), (10, .int v10), (11, .ref a11), (12, .ref (g.1 0)), (13, .int v13)] [] (List.append [(a11, .inr (0, [.ref w11, .int 0, .int 0, .int 0])), (w11, .inl (cB, t11n, .inl f11))] (labX cB cC cI cO L0 ua v))) : ∀ (v : LV) (v2 : Int32) (v3 : Int32) (v4 : Int32) (v5 : Int32) (v6 : Int32) (v7 : Int32) (v8 : Int32) (v9 : Int32) (v10 : Int32) (_ : Nat) (_ : Nat → Int32) (_ : Nat) (_ : Nat → Int32) (v13 : Int32) (v14 : Int32) (v15 : Int32) (v16 : Int32) (k0 : Int32)  (kk nn : Nat), fL_law_136 g K0 rec15 rec59  v v2 v3 v4 v5 v6 v7 v8 v9 v10 (kLen 0) (kByt 0) (kLen 0) (kByt 0) v13 v14 v15 v16 k0 = some out → kk + (490 + B59a) ≤ room_1.cells → nn + (9916 + B59b) ≤ room_1.slots → gG p l e room_1 s m args below meth c D A 23 Q kk nn 136 [(0, .ref g.2.2.1), (1, .ref L0), (2, .int v2), (3, .int v3), (4, .int v4), (5, .int v5), (6, .int v6), (7, .int v7), (8, .int v8), (9, .int v9), (10, .int v10), (11, .ref (g.1 0)), (12, .ref (g.1 0)), (13, .int v13), (14, .int v14), (15, .int v15), (16, .int v16)] [.int k0] (List.append [] (labX cB cC cI cO L0 ua v)) := by
  intro v v2 v3 v4 v5 v6 v7 v8 v9 v10 _ _ _ _ v13 v14 v15 v16 k0 kk nn hf hb1 hb2
  unfold fL_law_136 at hf
  refine g_istore C0 (lv' := [(17, .int k0), (0, .ref g.2.2.1), (1, .ref L0), (2, .int v2), (3, .int v3), (4, .int v4), (5, .int v5), (6, .int v6), (7, .int v7), (8, .int v8), (9, .int v9), (10, .int v10), (11, .ref (g.1 0)), (12, .ref (g.1 0)), (13, .int v13), (14, .int v14), (15, .int v15), (16, .int v16)]) dL_law_136 (by decide) rfl ?_
  refine g_aload_n C0 dL_law_138 rfl 2 rfl ?_
  refine g_iload C0 dL_law_139 14 rfl ?_
  obtain ⟨r98, er98, hf⟩ := hl_bd hf
  obtain ⟨z99, ez99, hf⟩ := hl_inl hf
  have kr98 := mg_isFull l hl0 D cB cC cI cO L0 ua v v13 r98 er98
  rw [ez99] at kr98
  refine g_sufNi C0 E0.1.1 (P := []) (X := labX cB cC cI cO L0 ua v) (X1 := labX cB cC cI cO L0 ua v) (As := [.int v13]) (st := []) kr98 hmX6_isFull q_438 ⟨Nat.le_of_ble_eq_true rfl, Nat.le_of_ble_eq_true rfl⟩ ⟨by omega, by omega⟩ rfl rfl rfl rfl rfl 0 rfl rfl rfl (Nat.le_of_ble_eq_true rfl) dL_law_141 ?_
  refine g_if_eq C0 (tgt := 156) dL_law_144 (by decide) (fun c100 => ?_) (fun c100 => ?_)
  · rw [if_pos c100] at hf
    refine g_lv [1, 2, 3, 4, 5, 6, 7, 8, 9, 10, 11, 12, 13, 14, 15, 16, 17, 0] (lv' := [(0, .ref g.2.2.1), (1, .ref L0), (2, .int v2), (3, .int v3), (4, .int v4), (5, .int v5), (6, .int v6), (7, .int v7), (8, .int v8), (9, .int v9), (10, .int v10), (11, .ref (g.1 0)), (12, .ref (g.1 0)), (13, .int v13), (14, .int v14), (15, .int v15), (16, .int v16), (17, .int k0)]) rfl ?_
    exact bL_law_156_KK C0 E0 hl0 K0 hK0 KE L0 ua out rec15 rec59 hrec15 hrec59   v v2 v3 v4 v5 v6 v7 v8 v9 v10 (kLen 0) (kByt 0) (kLen 0) (kByt 0) v13 v14 v15 v16 k0  _ _ hf (by omega) (by omega)
  · rw [if_neg c100] at hf
    refine g_aload_n C0 dL_law_147 rfl 2 rfl ?_
    refine g_iload C0 dL_law_148 14 rfl ?_
    obtain ⟨r101, er101, hf⟩ := hl_bd hf
    obtain ⟨z102, ez102, hf⟩ := hl_inl hf
    have kr101 := mg_isTombstone l hl0 D cB cC cI cO L0 ua v v13 r101 er101
    rw [ez102] at kr101
    refine g_sufNi C0 E0.1.1 (P := []) (X := labX cB cC cI cO L0 ua v) (X1 := labX cB cC cI cO L0 ua v) (As := [.int v13]) (st := []) kr101 hmX6_isTombstone q_444 ⟨Nat.le_of_ble_eq_true rfl, Nat.le_of_ble_eq_true rfl⟩ ⟨by omega, by omega⟩ rfl rfl rfl rfl rfl 0 rfl rfl rfl (Nat.le_of_ble_eq_true rfl) dL_law_150 ?_
    refine g_if_ne C0 (tgt := 175) dL_law_153 (by decide) (fun c103 => ?_) (fun c103 => ?_)
    · rw [if_neg c103] at hf
      refine g_iconst C0 (v := (0 : Int32)) dL_law_175 (by decide) ?_
      cases hf
    · rw [if_pos c103] at hf
      refine g_lv [1, 2, 3, 4, 5, 6, 7, 8, 9, 10, 11, 12, 13, 14, 15, 16, 17, 0] (lv' := [(0, .ref g.2.2.1), (1, .ref L0), (2, .int v2), (3, .int v3), (4, .int v4), (5, .int v5), (6, .int v6), (7, .int v7), (8, .int v8), (9, .int v9), (10, .int v10), (11, .ref (g.1 0)), (12, .ref (g.1 0)), (13, .int v13), (14, .int v14), (15, .int v15), (16, .int v16), (17, .int k0)]) rfl ?_
      exact bL_law_156_KK C0 E0 hl0 K0 hK0 KE L0 ua out rec15 rec59 hrec15 hrec59   v v2 v3 v4 v5 v6 v7 v8 v9 v10 (kLen 0) (kByt 0) (kLen 0) (kByt 0) v13 v14 v15 v16 k0  _ _ hf (by omega) (by omega)
set_option maxHeartbeats 8000000 in
set_option maxRecDepth 100000 in
theorem bL_law_99_KK {p : Program} {l : Launch} {e : Env} {s : State} {m : MethodId} {args : Array Value} {below : List Frame} {meth : Method} {c : Code} {D : va_G} {cB cC cI cO : ClassId} {A : Nat → Prop} {g : LG} (C0 : gC RL cL_law 23 (some .boolean) p s m args meth c D (hTy cB cC cI cO) A) (E0 : hLw g A s) (hl0 : l.stackTraces = false) (K0 : Nat → Int32) (hK0 : fJ7_fill_53178 64 (fun _ => 0) (-1 : Int32) = some K0) {Q : State → Prop} (KE : ∀ (lv : List (Nat × Value)) (ws : va_W) (kk nn : Nat), kk ≤ room_1.cells → nn ≤ room_1.slots → gG p l e room_1 s m args below meth c D A 23 Q kk nn 1230 lv [.int 1] ws) (L0 : Nat) (ua : LA) (out : Unit) {B15a B15b : Nat} {B59a B59b : Nat} (rec15 : LV → Int32 → Option (Unit)) (rec59 : LV → Int32 → Int32 → Int32 → Int32 → Int32 → Int32 → Int32 → Int32 → Int32 → Nat → (Nat → Int32) → Nat → (Nat → Int32) → Int32 → Option (Unit)) (hrec15 : ∀ (v : LV) (v2 : Int32)  (kk nn : Nat), rec15 v v2 = some out → kk + (B15a) ≤ room_1.cells → nn + (B15b) ≤ room_1.slots → gG p l e room_1 s m args below meth c D A 23 Q kk nn 15 [(0, .ref g.2.2.1), (1, .ref L0), (2, .int v2)] [] (List.append [] (labX cB cC cI cO L0 ua v))) (hrec59 : ∀ (v : LV) (v2 : Int32) (v3 : Int32) (v4 : Int32) (v5 : Int32) (v6 : Int32) (v7 : Int32) (v8 : Int32) (v9 : Int32) (v10 : Int32) (t11n : Nat) (t11f : Nat → Int32) (_ : Nat) (_ : Nat → Int32) (v13 : Int32) (a11 w11 : Nat) (f11 : Nat → Int32) (hx11 : ∀ j, j < t11n → f11 j = t11f j) (hc11 : ascB t11n f11) (kk nn : Nat), rec59 v v2 v3 v4 v5 v6 v7 v8 v9 v10 t11n t11f (kLen 0) (kByt 0) v13 = some out → kk + (B59a) ≤ room_1.cells → nn + (B59b) ≤ room_1.slots → gG p l e room_1 s m args below meth c D A 23 Q kk nn 59 [(0, .ref g.2.2.1), (1, .ref L0), (2, .int v2), (3, .int v3), (4, .int v4), (5, .int v5), (6, .int v6), (7, .int v7), (8, .int v8), (9, .int v9), (10, .int v10), (11, .ref a11), (12, .ref (g.1 0)), (13, .int v13)] [] (List.append [(a11, .inr (0, [.ref w11, .int 0, .int 0, .int 0])), (w11, .inl (cB, t11n, .inl f11))] (labX cB cC cI cO L0 ua v))) : ∀ (v : LV) (v2 : Int32) (v3 : Int32) (v4 : Int32) (v5 : Int32) (v6 : Int32) (v7 : Int32) (v8 : Int32) (v9 : Int32) (v10 : Int32) (_ : Nat) (_ : Nat → Int32) (_ : Nat) (_ : Nat → Int32) (v13 : Int32) (v14 : Int32) (v15 : Int32) (k0 : Int32)  (kk nn : Nat), fL_law_99 g K0 rec15 rec59  v v2 v3 v4 v5 v6 v7 v8 v9 v10 (kLen 0) (kByt 0) (kLen 0) (kByt 0) v13 v14 v15 k0 = some out → kk + (492 + B59a) ≤ room_1.cells → nn + (9928 + B59b) ≤ room_1.slots → gG p l e room_1 s m args below meth c D A 23 Q kk nn 99 [(0, .ref g.2.2.1), (1, .ref L0), (2, .int v2), (3, .int v3), (4, .int v4), (5, .int v5), (6, .int v6), (7, .int v7), (8, .int v8), (9, .int v9), (10, .int v10), (11, .ref (g.1 0)), (12, .ref (g.1 0)), (13, .int v13), (14, .int v14), (15, .int v15)] [.int k0] (List.append [] (labX cB cC cI cO L0 ua v)) := by
  intro v v2 v3 v4 v5 v6 v7 v8 v9 v10 _ _ _ _ v13 v14 v15 k0 kk nn hf hb1 hb2
  unfold fL_law_99 at hf
  refine g_istore C0 (lv' := [(16, .int k0), (0, .ref g.2.2.1), (1, .ref L0), (2, .int v2), (3, .int v3), (4, .int v4), (5, .int v5), (6, .int v6), (7, .int v7), (8, .int v8), (9, .int v9), (10, .int v10), (11, .ref (g.1 0)), (12, .ref (g.1 0)), (13, .int v13), (14, .int v14), (15, .int v15)]) dL_law_99 (by decide) rfl ?_
  refine g_aload_n C0 dL_law_101 rfl 2 rfl ?_
  refine g_iload C0 dL_law_102 14 rfl ?_
  refine g_iload_n C0 dL_law_104 rfl 4 rfl ?_
  refine g_iadd C0 dL_law_105 ?_
  refine g_iconst C0 (v := (1 : Int32)) dL_law_106 (by decide) ?_
  refine g_isub C0 dL_law_107 ?_
  refine g_iload_n C0 dL_law_108 rfl 4 rfl ?_
  obtain ⟨z21, hf⟩ := hl_ifN hf
  refine g_irem C0 dL_law_109 z21 ?_
  obtain ⟨r22, er22, hf⟩ := hl_bd hf
  obtain ⟨z23, ez23, hf⟩ := hl_inl hf
  have kr22 := mg_isFull l hl0 D cB cC cI cO L0 ua v (hl_rem ((v13 + v3) - (1 : Int32)) v3) r22 er22
  rw [ez23] at kr22
  refine g_sufNi C0 E0.1.1 (P := []) (X := labX cB cC cI cO L0 ua v) (X1 := labX cB cC cI cO L0 ua v) (As := [.int (hl_rem ((v13 + v3) - (1 : Int32)) v3)]) (st := []) kr22 hmX6_isFull q_438 ⟨Nat.le_of_ble_eq_true rfl, Nat.le_of_ble_eq_true rfl⟩ ⟨by omega, by omega⟩ rfl rfl rfl rfl rfl 0 rfl rfl rfl (Nat.le_of_ble_eq_true rfl) dL_law_110 ?_
  refine g_if_ne C0 (tgt := 131) dL_law_113 (by decide) (fun c24 => ?_) (fun c24 => ?_)
  · rw [if_neg c24] at hf
    refine g_iconst C0 (v := (1 : Int32)) dL_law_131 (by decide) ?_
    refine g_goto C0 (tgt := 136) dL_law_132 (by decide) ?_
    refine g_lv [1, 2, 3, 4, 5, 6, 7, 8, 9, 10, 11, 12, 13, 14, 15, 16, 0] (lv' := [(0, .ref g.2.2.1), (1, .ref L0), (2, .int v2), (3, .int v3), (4, .int v4), (5, .int v5), (6, .int v6), (7, .int v7), (8, .int v8), (9, .int v9), (10, .int v10), (11, .ref (g.1 0)), (12, .ref (g.1 0)), (13, .int v13), (14, .int v14), (15, .int v15), (16, .int k0)]) rfl ?_
    exact bL_law_136_KK C0 E0 hl0 K0 hK0 KE L0 ua out rec15 rec59 hrec15 hrec59   v v2 v3 v4 v5 v6 v7 v8 v9 v10 (kLen 0) (kByt 0) (kLen 0) (kByt 0) v13 v14 v15 k0 (1 : Int32)  _ _ hf (by omega) (by omega)
  · rw [if_pos c24] at hf
    refine g_aload_n C0 dL_law_116 rfl 2 rfl ?_
    refine g_iload C0 dL_law_117 14 rfl ?_
    refine g_iload_n C0 dL_law_119 rfl 4 rfl ?_
    refine g_iadd C0 dL_law_120 ?_
    refine g_iconst C0 (v := (1 : Int32)) dL_law_121 (by decide) ?_
    refine g_isub C0 dL_law_122 ?_
    refine g_iload_n C0 dL_law_123 rfl 4 rfl ?_
    obtain ⟨z25, hf⟩ := hl_ifN hf
    refine g_irem C0 dL_law_124 z25 ?_
    obtain ⟨r26, er26, hf⟩ := hl_bd hf
    obtain ⟨z27, ez27, hf⟩ := hl_inl hf
    have kr26 := mg_isTombstone l hl0 D cB cC cI cO L0 ua v (hl_rem ((v13 + v3) - (1 : Int32)) v3) r26 er26
    rw [ez27] at kr26
    refine g_sufNi C0 E0.1.1 (P := []) (X := labX cB cC cI cO L0 ua v) (X1 := labX cB cC cI cO L0 ua v) (As := [.int (hl_rem ((v13 + v3) - (1 : Int32)) v3)]) (st := []) kr26 hmX6_isTombstone q_444 ⟨Nat.le_of_ble_eq_true rfl, Nat.le_of_ble_eq_true rfl⟩ ⟨by omega, by omega⟩ rfl rfl rfl rfl rfl 0 rfl rfl rfl (Nat.le_of_ble_eq_true rfl) dL_law_125 ?_
    refine g_if_eq C0 (tgt := 135) dL_law_128 (by decide) (fun c28 => ?_) (fun c28 => ?_)
    · rw [if_pos c28] at hf
      refine g_iconst C0 (v := (0 : Int32)) dL_law_135 (by decide) ?_
      refine g_lv [1, 2, 3, 4, 5, 6, 7, 8, 9, 10, 11, 12, 13, 14, 15, 16, 0] (lv' := [(0, .ref g.2.2.1), (1, .ref L0), (2, .int v2), (3, .int v3), (4, .int v4), (5, .int v5), (6, .int v6), (7, .int v7), (8, .int v8), (9, .int v9), (10, .int v10), (11, .ref (g.1 0)), (12, .ref (g.1 0)), (13, .int v13), (14, .int v14), (15, .int v15), (16, .int k0)]) rfl ?_
      exact bL_law_136_KK C0 E0 hl0 K0 hK0 KE L0 ua out rec15 rec59 hrec15 hrec59   v v2 v3 v4 v5 v6 v7 v8 v9 v10 (kLen 0) (kByt 0) (kLen 0) (kByt 0) v13 v14 v15 k0 (0 : Int32)  _ _ hf (by omega) (by omega)
    · rw [if_neg c28] at hf
      refine g_iconst C0 (v := (1 : Int32)) dL_law_131 (by decide) ?_
      refine g_goto C0 (tgt := 136) dL_law_132 (by decide) ?_
      refine g_lv [1, 2, 3, 4, 5, 6, 7, 8, 9, 10, 11, 12, 13, 14, 15, 16, 0] (lv' := [(0, .ref g.2.2.1), (1, .ref L0), (2, .int v2), (3, .int v3), (4, .int v4), (5, .int v5), (6, .int v6), (7, .int v7), (8, .int v8), (9, .int v9), (10, .int v10), (11, .ref (g.1 0)), (12, .ref (g.1 0)), (13, .int v13), (14, .int v14), (15, .int v15), (16, .int k0)]) rfl ?_
      exact bL_law_136_KK C0 E0 hl0 K0 hK0 KE L0 ua out rec15 rec59 hrec15 hrec59   v v2 v3 v4 v5 v6 v7 v8 v9 v10 (kLen 0) (kByt 0) (kLen 0) (kByt 0) v13 v14 v15 k0 (1 : Int32)  _ _ hf (by omega) (by omega)
