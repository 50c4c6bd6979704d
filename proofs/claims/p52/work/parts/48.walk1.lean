/-! the law, walked: 1 -/
set_option maxHeartbeats 8000000 in
set_option maxRecDepth 100000 in
theorem bL_law_1171 {p : Program} {l : Launch} {e : Env} {s : State} {m : MethodId} {args : Array Value} {below : List Frame} {meth : Method} {c : Code} {D : va_G} {cB cC cI cO : ClassId} {A : Nat → Prop} {g : LG} (C0 : gC RL cL_law 23 (some .boolean) p s m args meth c D (hTy cB cC cI cO) A) (E0 : hLw g A s) (hl0 : l.stackTraces = false) (K0 : Nat → Int32) (hK0 : fJ7_fill_53178 64 (fun _ => 0) (-1 : Int32) = some K0) {Q : State → Prop} (KE : ∀ (lv : List (Nat × Value)) (ws : va_W) (kk nn : Nat), kk ≤ room_1.cells → nn ≤ room_1.slots → gG p l e room_1 s m args below meth c D A 23 Q kk nn 1230 lv [.int 1] ws) (L0 : Nat) (ua : LA) (out : Unit) {B15a B15b : Nat} {B1019a B1019b : Nat} (rec15 : LV → Int32 → Option (Unit)) (rec1019 : LV → Int32 → Int32 → Int32 → Int32 → Int32 → Int32 → Option (Unit)) (hrec15 : ∀ (v : LV) (v2 : Int32)  (kk nn : Nat), rec15 v v2 = some out → kk + (B15a) ≤ room_1.cells → nn + (B15b) ≤ room_1.slots → gG p l e room_1 s m args below meth c D A 23 Q kk nn 15 [(0, .ref g.2.2.1), (1, .ref L0), (2, .int v2)] [] (List.append [] (labX cB cC cI cO L0 ua v))) (hrec1019 : ∀ (v : LV) (v2 : Int32) (v13 : Int32) (v14 : Int32) (v15 : Int32) (v16 : Int32) (v17 : Int32)  (kk nn : Nat), rec1019 v v2 v13 v14 v15 v16 v17 = some out → kk + (B1019a) ≤ room_1.cells → nn + (B1019b) ≤ room_1.slots → gG p l e room_1 s m args below meth c D A 23 Q kk nn 1019 [(0, .ref g.2.2.1), (1, .ref L0), (2, .int v2), (13, .int v13), (14, .int v14), (15, .int v15), (16, .int v16), (17, .int v17)] [] (List.append [] (labX cB cC cI cO L0 ua v))) : ∀ (v : LV) (v2 : Int32) (v13 : Int32) (v14 : Int32) (v15 : Int32) (v17 : Int32) (v21 : Int32) (k0 : Int32)  (kk nn : Nat), fL_law_1171 g rec15 rec1019  v v2 v13 v14 v15 v17 v21 k0 = some out → kk + (1 + B1019a) ≤ room_1.cells → nn + (6 + B1019b) ≤ room_1.slots → gG p l e room_1 s m args below meth c D A 23 Q kk nn 1171 [(0, .ref g.2.2.1), (1, .ref L0), (2, .int v2), (13, .int v13), (14, .int v14), (15, .int v15), (17, .int v17), (21, .int v21)] [.int k0] (List.append [] (labX cB cC cI cO L0 ua v)) := by
  intro v v2 v13 v14 v15 v17 v21 k0 kk nn hf hb1 hb2
  unfold fL_law_1171 at hf
  refine g_istore C0 (lv' := [(16, .int k0), (0, .ref g.2.2.1), (1, .ref L0), (2, .int v2), (13, .int v13), (14, .int v14), (15, .int v15), (17, .int v17), (21, .int v21)]) dL_law_1171 (by decide) rfl ?_
  refine g_aload_n C0 dL_law_1173 rfl 2 rfl ?_
  refine g_iload C0 dL_law_1174 7 rfl ?_
  refine g_iload C0 dL_law_1176 4 rfl ?_
  refine g_iload C0 dL_law_1178 5 rfl ?_
  obtain ⟨r264, er264, hf⟩ := hl_bd hf
  obtain ⟨z265, ez265, hf⟩ := hl_inl hf
  have kr264 := mg_trial l hl0 D cB cC cI cO L0 ua v v17 v13 v14 r264 er264
  rw [ez265] at kr264
  refine g_sufNi C0 E0.1.1 (P := []) (X := labX cB cC cI cO L0 ua v) (X1 := labX cB cC cI cO L0 ua r264.2) (As := [.int v17, .int v13, .int v14]) (st := []) kr264 hmX6_trial q_545 ⟨Nat.le_of_ble_eq_true rfl, Nat.le_of_ble_eq_true rfl⟩ ⟨by omega, by omega⟩ rfl rfl rfl rfl rfl 0 rfl rfl rfl (Nat.le_of_ble_eq_true rfl) dL_law_1180 ?_
  refine g_iload C0 dL_law_1183 8 rfl ?_
  refine g_icmp_eq C0 (tgt := 1190) dL_law_1185 (by decide) (fun c266 => ?_) (fun c266 => ?_)
  · rw [if_pos c266] at hf
    refine g_iinc C0 (lv' := [(17, .int (v17 + (1 : Int32))), (16, .int k0), (0, .ref g.2.2.1), (1, .ref L0), (2, .int v2), (13, .int v13), (14, .int v14), (15, .int v15), (21, .int v21)]) dL_law_1190 7 rfl rfl (by decide) rfl ?_
    refine g_goto C0 (tgt := 1019) dL_law_1193 (by decide) ?_
    refine g_lv [2, 3, 4, 5, 6, 7, 1, 0] (lv' := [(0, .ref g.2.2.1), (1, .ref L0), (2, .int v2), (13, .int v13), (14, .int v14), (15, .int v15), (16, .int k0), (17, .int (v17 + (1 : Int32)))]) rfl ?_
    exact hrec1019 r264.2 v2 v13 v14 v15 k0 (v17 + (1 : Int32))  _ _ hf (by omega) (by omega)
  · rw [if_neg c266] at hf
    refine g_iconst C0 (v := (0 : Int32)) dL_law_1188 (by decide) ?_
    cases hf
set_option maxHeartbeats 8000000 in
set_option maxRecDepth 100000 in
theorem bL_law_1152 {p : Program} {l : Launch} {e : Env} {s : State} {m : MethodId} {args : Array Value} {below : List Frame} {meth : Method} {c : Code} {D : va_G} {cB cC cI cO : ClassId} {A : Nat → Prop} {g : LG} (C0 : gC RL cL_law 23 (some .boolean) p s m args meth c D (hTy cB cC cI cO) A) (E0 : hLw g A s) (hl0 : l.stackTraces = false) (K0 : Nat → Int32) (hK0 : fJ7_fill_53178 64 (fun _ => 0) (-1 : Int32) = some K0) {Q : State → Prop} (KE : ∀ (lv : List (Nat × Value)) (ws : va_W) (kk nn : Nat), kk ≤ room_1.cells → nn ≤ room_1.slots → gG p l e room_1 s m args below meth c D A 23 Q kk nn 1230 lv [.int 1] ws) (L0 : Nat) (ua : LA) (out : Unit) {B15a B15b : Nat} {B1019a B1019b : Nat} (rec15 : LV → Int32 → Option (Unit)) (rec1019 : LV → Int32 → Int32 → Int32 → Int32 → Int32 → Int32 → Option (Unit)) (hrec15 : ∀ (v : LV) (v2 : Int32)  (kk nn : Nat), rec15 v v2 = some out → kk + (B15a) ≤ room_1.cells → nn + (B15b) ≤ room_1.slots → gG p l e room_1 s m args below meth c D A 23 Q kk nn 15 [(0, .ref g.2.2.1), (1, .ref L0), (2, .int v2)] [] (List.append [] (labX cB cC cI cO L0 ua v))) (hrec1019 : ∀ (v : LV) (v2 : Int32) (v13 : Int32) (v14 : Int32) (v15 : Int32) (v16 : Int32) (v17 : Int32)  (kk nn : Nat), rec1019 v v2 v13 v14 v15 v16 v17 = some out → kk + (B1019a) ≤ room_1.cells → nn + (B1019b) ≤ room_1.slots → gG p l e room_1 s m args below meth c D A 23 Q kk nn 1019 [(0, .ref g.2.2.1), (1, .ref L0), (2, .int v2), (13, .int v13), (14, .int v14), (15, .int v15), (16, .int v16), (17, .int v17)] [] (List.append [] (labX cB cC cI cO L0 ua v))) : ∀ (v : LV) (v2 : Int32) (v13 : Int32) (v14 : Int32) (v16 : Int32) (v17 : Int32) (v21 : Int32) (k0 : Int32)  (kk nn : Nat), fL_law_1152 g rec15 rec1019  v v2 v13 v14 v16 v17 v21 k0 = some out → kk + (1 + B1019a) ≤ room_1.cells → nn + (6 + B1019b) ≤ room_1.slots → gG p l e room_1 s m args below meth c D A 23 Q kk nn 1152 [(0, .ref g.2.2.1), (1, .ref L0), (2, .int v2), (13, .int v13), (14, .int v14), (16, .int v16), (17, .int v17), (21, .int v21)] [.int k0] (List.append [] (labX cB cC cI cO L0 ua v)) := by
  intro v v2 v13 v14 v16 v17 v21 k0 kk nn hf hb1 hb2
  unfold fL_law_1152 at hf
  refine g_istore C0 (lv' := [(15, .int k0), (0, .ref g.2.2.1), (1, .ref L0), (2, .int v2), (13, .int v13), (14, .int v14), (16, .int v16), (17, .int v17), (21, .int v21)]) dL_law_1152 (by decide) rfl ?_
  refine g_iload C0 dL_law_1154 7 rfl ?_
  refine g_if_ne C0 (tgt := 1164) dL_law_1156 (by decide) (fun c262 => ?_) (fun c262 => ?_)
  · rw [if_neg c262] at hf
    refine g_iload C0 dL_law_1164 6 rfl ?_
    refine g_iload C0 dL_law_1166 8 rfl ?_
    refine g_mmin C0 q_913 q_583 q_22 q_584 (Nat.le_of_ble_eq_true rfl) ⟨by omega, by omega⟩ (Nat.le_of_ble_eq_true rfl) dL_law_1168 ?_
    refine g_lv [1, 2, 3, 4, 5, 0, 7, 8] (lv' := [(0, .ref g.2.2.1), (1, .ref L0), (2, .int v2), (13, .int v13), (14, .int v14), (15, .int k0), (17, .int v17), (21, .int v21)]) rfl ?_
    exact bL_law_1171 C0 E0 hl0 K0 hK0 KE L0 ua out rec15 rec1019 hrec15 hrec1019   v v2 v13 v14 k0 v17 v21 (if v21 < v16 then v21 else v16)  _ _ hf (by omega) (by omega)
  · rw [if_pos c262] at hf
    refine g_iload C0 dL_law_1159 8 rfl ?_
    refine g_goto C0 (tgt := 1171) dL_law_1161 (by decide) ?_
    refine g_lv [1, 2, 3, 4, 5, 0, 7, 8] (lv' := [(0, .ref g.2.2.1), (1, .ref L0), (2, .int v2), (13, .int v13), (14, .int v14), (15, .int k0), (17, .int v17), (21, .int v21)]) rfl ?_
    exact bL_law_1171 C0 E0 hl0 K0 hK0 KE L0 ua out rec15 rec1019 hrec15 hrec1019   v v2 v13 v14 k0 v17 v21 v21  _ _ hf (by omega) (by omega)
set_option maxHeartbeats 8000000 in
set_option maxRecDepth 100000 in
theorem bL_law_1075 {p : Program} {l : Launch} {e : Env} {s : State} {m : MethodId} {args : Array Value} {below : List Frame} {meth : Method} {c : Code} {D : va_G} {cB cC cI cO : ClassId} {A : Nat → Prop} {g : LG} (C0 : gC RL cL_law 23 (some .boolean) p s m args meth c D (hTy cB cC cI cO) A) (E0 : hLw g A s) (hl0 : l.stackTraces = false) (K0 : Nat → Int32) (hK0 : fJ7_fill_53178 64 (fun _ => 0) (-1 : Int32) = some K0) {Q : State → Prop} (KE : ∀ (lv : List (Nat × Value)) (ws : va_W) (kk nn : Nat), kk ≤ room_1.cells → nn ≤ room_1.slots → gG p l e room_1 s m args below meth c D A 23 Q kk nn 1230 lv [.int 1] ws) (L0 : Nat) (ua : LA) (out : Unit) {B15a B15b : Nat} {B1019a B1019b : Nat} (rec15 : LV → Int32 → Option (Unit)) (rec1019 : LV → Int32 → Int32 → Int32 → Int32 → Int32 → Int32 → Option (Unit)) (hrec15 : ∀ (v : LV) (v2 : Int32)  (kk nn : Nat), rec15 v v2 = some out → kk + (B15a) ≤ room_1.cells → nn + (B15b) ≤ room_1.slots → gG p l e room_1 s m args below meth c D A 23 Q kk nn 15 [(0, .ref g.2.2.1), (1, .ref L0), (2, .int v2)] [] (List.append [] (labX cB cC cI cO L0 ua v))) (hrec1019 : ∀ (v : LV) (v2 : Int32) (v13 : Int32) (v14 : Int32) (v15 : Int32) (v16 : Int32) (v17 : Int32)  (kk nn : Nat), rec1019 v v2 v13 v14 v15 v16 v17 = some out → kk + (B1019a) ≤ room_1.cells → nn + (B1019b) ≤ room_1.slots → gG p l e room_1 s m args below meth c D A 23 Q kk nn 1019 [(0, .ref g.2.2.1), (1, .ref L0), (2, .int v2), (13, .int v13), (14, .int v14), (15, .int v15), (16, .int v16), (17, .int v17)] [] (List.append [] (labX cB cC cI cO L0 ua v))) : ∀ (n : Nat) (v : LV) (vq : LV) (v2 : Int32) (v13 : Int32) (v14 : Int32) (v15 : Int32) (v16 : Int32) (v17 : Int32) (v20 : Int32) (v21 : Int32) (v22 : Int32) (Lq : Nat) (uq : LA) (kk nn : Nat), fL_law_1075 g rec15 rec1019 n v vq v2 v13 v14 v15 v16 v17 v20 v21 v22 = some out → kk + (n * 2 + (1 + B1019a)) ≤ room_1.cells → nn + (n * 12 + (6 + B1019b)) ≤ room_1.slots → gG p l e room_1 s m args below meth c D A 23 Q kk nn 1075 [(0, .ref g.2.2.1), (1, .ref L0), (2, .int v2), (13, .int v13), (14, .int v14), (15, .int v15), (16, .int v16), (17, .int v17), (18, .ref Lq), (20, .int v20), (21, .int v21), (22, .int v22)] [] (List.append (labX cB cC cI cO L0 ua v) (labX cB cC cI cO Lq uq vq)) := by
  intro n
  induction n with
  | zero => intro v vq v2 v13 v14 v15 v16 v17 v20 v21 v22 Lq uq kk nn hf hb1 hb2; rw [fL_law_1075] at hf; cases hf
  | succ n ih =>
    intro v vq v2 v13 v14 v15 v16 v17 v20 v21 v22 Lq uq kk nn hf hb1 hb2
    rw [fL_law_1075] at hf
    refine g_iload C0 dL_law_1075 11 rfl ?_
    refine g_iload C0 dL_law_1077 4 rfl ?_
    refine g_icmp_ge C0 (tgt := 1133) dL_law_1079 (by decide) (fun c254 => ?_) (fun c254 => ?_)
    · rw [if_pos c254] at hf
      refine g_iload C0 dL_law_1133 7 rfl ?_
      refine g_if_eq C0 (tgt := 1145) dL_law_1135 (by decide) (fun c255 => ?_) (fun c255 => ?_)
      · rw [if_pos c255] at hf
        refine g_iload C0 dL_law_1145 7 rfl ?_
        refine g_goto C0 (tgt := 1152) dL_law_1147 (by decide) ?_
        refine g_dropR (X := labX cB cC cI cO L0 ua v) (P := labX cB cC cI cO Lq uq vq) rfl ?_
        refine g_lv [0, 1, 2, 3, 4, 6, 7, 10] (lv' := [(0, .ref g.2.2.1), (1, .ref L0), (2, .int v2), (13, .int v13), (14, .int v14), (16, .int v16), (17, .int v17), (21, .int v21)]) rfl ?_
        exact bL_law_1152 C0 E0 hl0 K0 hK0 KE L0 ua out rec15 rec1019 hrec15 hrec1019   v v2 v13 v14 v16 v17 v21 v17  _ _ hf (by omega) (by omega)
      · rw [if_neg c255] at hf
        refine g_iload C0 dL_law_1138 10 rfl ?_
        refine g_iload C0 dL_law_1140 6 rfl ?_
        refine g_icmp_ge C0 (tgt := 1150) dL_law_1142 (by decide) (fun c256 => ?_) (fun c256 => ?_)
        · rw [if_pos c256] at hf
          refine g_iload C0 dL_law_1150 5 rfl ?_
          refine g_dropR (X := labX cB cC cI cO L0 ua v) (P := labX cB cC cI cO Lq uq vq) rfl ?_
          refine g_lv [0, 1, 2, 3, 4, 6, 7, 10] (lv' := [(0, .ref g.2.2.1), (1, .ref L0), (2, .int v2), (13, .int v13), (14, .int v14), (16, .int v16), (17, .int v17), (21, .int v21)]) rfl ?_
          exact bL_law_1152 C0 E0 hl0 K0 hK0 KE L0 ua out rec15 rec1019 hrec15 hrec1019   v v2 v13 v14 v16 v17 v21 v15  _ _ hf (by omega) (by omega)
        · rw [if_neg c256] at hf
          refine g_iload C0 dL_law_1145 7 rfl ?_
          refine g_goto C0 (tgt := 1152) dL_law_1147 (by decide) ?_
          refine g_dropR (X := labX cB cC cI cO L0 ua v) (P := labX cB cC cI cO Lq uq vq) rfl ?_
          refine g_lv [0, 1, 2, 3, 4, 6, 7, 10] (lv' := [(0, .ref g.2.2.1), (1, .ref L0), (2, .int v2), (13, .int v13), (14, .int v14), (16, .int v16), (17, .int v17), (21, .int v21)]) rfl ?_
          exact bL_law_1152 C0 E0 hl0 K0 hK0 KE L0 ua out rec15 rec1019 hrec15 hrec1019   v v2 v13 v14 v16 v17 v21 v17  _ _ hf (by omega) (by omega)
    · rw [if_neg c254] at hf
      refine g_sipush C0 (v := (137 : Int32)) dL_law_1082 (by decide) ?_
      refine g_iload C0 dL_law_1085 9 rfl ?_
      refine g_imul C0 dL_law_1087 ?_
      refine g_bipush C0 (v := (59 : Int32)) dL_law_1088 (by decide) ?_
      refine g_iadd C0 dL_law_1090 ?_
      refine g_sipush C0 (v := (10007 : Int32)) dL_law_1091 (by decide) ?_
      refine g_irem C0 dL_law_1094 (by decide) ?_
      refine g_istore C0 (lv' := [(20, .int (hl_rem (((137 : Int32) * v20) + (59 : Int32)) (10007 : Int32))), (0, .ref g.2.2.1), (1, .ref L0), (2, .int v2), (13, .int v13), (14, .int v14), (15, .int v15), (16, .int v16), (17, .int v17), (18, .ref Lq), (21, .int v21), (22, .int v22)]) dL_law_1095 (by decide) rfl ?_
      refine g_iload C0 dL_law_1097 10 rfl ?_
      refine g_aload C0 dL_law_1099 9 rfl ?_
      refine g_iload C0 dL_law_1101 0 rfl ?_
      refine g_sipush C0 (v := (10000 : Int32)) dL_law_1103 (by decide) ?_
      refine g_irem C0 dL_law_1106 (by decide) ?_
      obtain ⟨r257, er257, hf⟩ := hl_bd hf
      obtain ⟨z258, ez258, hf⟩ := hl_inl hf
      have kr257 := mg_probes l hl0 D cB cC cI cO Lq uq vq (hl_rem (hl_rem (((137 : Int32) * v20) + (59 : Int32)) (10007 : Int32)) (10000 : Int32)) r257 er257
      rw [ez258] at kr257
      refine g_sufNi C0 E0.1.1 (P := labX cB cC cI cO L0 ua v) (X := labX cB cC cI cO Lq uq vq) (X1 := labX cB cC cI cO Lq uq vq) (As := [.int (hl_rem (hl_rem (((137 : Int32) * v20) + (59 : Int32)) (10007 : Int32)) (10000 : Int32))]) (st := [.int v21]) kr257 hmX6_probes q_412 ⟨Nat.le_of_ble_eq_true rfl, Nat.le_of_ble_eq_true rfl⟩ ⟨by omega, by omega⟩ rfl rfl rfl rfl rfl 0 rfl rfl rfl (Nat.le_of_ble_eq_true rfl) dL_law_1107 ?_
      refine g_iadd C0 dL_law_1110 ?_
      refine g_istore C0 (lv' := [(21, .int (v21 + z258)), (20, .int (hl_rem (((137 : Int32) * v20) + (59 : Int32)) (10007 : Int32))), (0, .ref g.2.2.1), (1, .ref L0), (2, .int v2), (13, .int v13), (14, .int v14), (15, .int v15), (16, .int v16), (17, .int v17), (18, .ref Lq), (22, .int v22)]) dL_law_1111 (by decide) rfl ?_
      refine g_aload C0 dL_law_1113 10 rfl ?_
      refine g_iload C0 dL_law_1115 1 rfl ?_
      refine g_sipush C0 (v := (10000 : Int32)) dL_law_1117 (by decide) ?_
      refine g_irem C0 dL_law_1120 (by decide) ?_
      refine g_iconst C0 (v := (1 : Int32)) dL_law_1121 (by decide) ?_
      obtain ⟨r259, er259, hf⟩ := hl_bd hf
      refine g_hSi C0 E0 (P := labX cB cC cI cO L0 ua v) (X := labX cB cC cI cO Lq uq vq) (X1 := labX cB cC cI cO Lq uq r259.2) (As := [.ref Lq, .int (hl_rem (hl_rem (((137 : Int32) * v20) + (59 : Int32)) (10007 : Int32)) (10000 : Int32)), .int (1 : Int32)]) (st := []) (mL_put l hl0 D cB cC cI cO g Lq uq vq (hl_rem (hl_rem (((137 : Int32) * v20) + (59 : Int32)) (10007 : Int32)) (10000 : Int32)) (1 : Int32) r259 er259) hmL_put q_764 ⟨Nat.le_of_ble_eq_true rfl, Nat.le_of_ble_eq_true rfl⟩ rfl rfl ⟨by omega, by omega⟩ rfl rfl rfl rfl (Nat.le_of_ble_eq_true rfl) dL_law_1122 ?_
      refine g_istore C0 (lv' := [(19, .int r259.1), (21, .int (v21 + z258)), (20, .int (hl_rem (((137 : Int32) * v20) + (59 : Int32)) (10007 : Int32))), (0, .ref g.2.2.1), (1, .ref L0), (2, .int v2), (13, .int v13), (14, .int v14), (15, .int v15), (16, .int v16), (17, .int v17), (18, .ref Lq), (22, .int v22)]) dL_law_1125 (by decide) rfl ?_
      refine g_iinc C0 (lv' := [(22, .int (v22 + (1 : Int32))), (19, .int r259.1), (21, .int (v21 + z258)), (20, .int (hl_rem (((137 : Int32) * v20) + (59 : Int32)) (10007 : Int32))), (0, .ref g.2.2.1), (1, .ref L0), (2, .int v2), (13, .int v13), (14, .int v14), (15, .int v15), (16, .int v16), (17, .int v17), (18, .ref Lq)]) dL_law_1127 12 rfl rfl (by decide) rfl ?_
      refine g_goto C0 (tgt := 1075) dL_law_1130 (by decide) ?_
      refine g_lv [4, 5, 6, 7, 8, 9, 10, 11, 12, 3, 2, 0] (lv' := [(0, .ref g.2.2.1), (1, .ref L0), (2, .int v2), (13, .int v13), (14, .int v14), (15, .int v15), (16, .int v16), (17, .int v17), (18, .ref Lq), (20, .int (hl_rem (((137 : Int32) * v20) + (59 : Int32)) (10007 : Int32))), (21, .int (v21 + z258)), (22, .int (v22 + (1 : Int32)))]) rfl ?_
      exact ih v r259.2 v2 v13 v14 v15 v16 v17 (hl_rem (((137 : Int32) * v20) + (59 : Int32)) (10007 : Int32)) (v21 + z258) (v22 + (1 : Int32)) Lq uq _ _ hf (by omega) (by omega)
set_option maxHeartbeats 8000000 in
set_option maxRecDepth 100000 in
theorem bL_law_1019 {p : Program} {l : Launch} {e : Env} {s : State} {m : MethodId} {args : Array Value} {below : List Frame} {meth : Method} {c : Code} {D : va_G} {cB cC cI cO : ClassId} {A : Nat → Prop} {g : LG} (C0 : gC RL cL_law 23 (some .boolean) p s m args meth c D (hTy cB cC cI cO) A) (E0 : hLw g A s) (hl0 : l.stackTraces = false) (K0 : Nat → Int32) (hK0 : fJ7_fill_53178 64 (fun _ => 0) (-1 : Int32) = some K0) {Q : State → Prop} (KE : ∀ (lv : List (Nat × Value)) (ws : va_W) (kk nn : Nat), kk ≤ room_1.cells → nn ≤ room_1.slots → gG p l e room_1 s m args below meth c D A 23 Q kk nn 1230 lv [.int 1] ws) (L0 : Nat) (ua : LA) (out : Unit) {B15a B15b : Nat} (rec15 : LV → Int32 → Option (Unit)) (hrec15 : ∀ (v : LV) (v2 : Int32)  (kk nn : Nat), rec15 v v2 = some out → kk + (B15a) ≤ room_1.cells → nn + (B15b) ≤ room_1.slots → gG p l e room_1 s m args below meth c D A 23 Q kk nn 15 [(0, .ref g.2.2.1), (1, .ref L0), (2, .int v2)] [] (List.append [] (labX cB cC cI cO L0 ua v))) : ∀ (n : Nat) (v : LV) (v2 : Int32) (v13 : Int32) (v14 : Int32) (v15 : Int32) (v16 : Int32) (v17 : Int32)  (kk nn : Nat), fL_law_1019 g rec15 n v v2 v13 v14 v15 v16 v17 = some out → kk + (n * 104 + (3 + B15a)) ≤ room_1.cells → nn + (n * 4330 + (18 + B15b)) ≤ room_1.slots → gG p l e room_1 s m args below meth c D A 23 Q kk nn 1019 [(0, .ref g.2.2.1), (1, .ref L0), (2, .int v2), (13, .int v13), (14, .int v14), (15, .int v15), (16, .int v16), (17, .int v17)] [] (List.append [] (labX cB cC cI cO L0 ua v)) := by
  intro n
  induction n with
  | zero => intro v v2 v13 v14 v15 v16 v17 kk nn hf hb1 hb2; rw [fL_law_1019] at hf; cases hf
  | succ n ih =>
    intro v v2 v13 v14 v15 v16 v17 kk nn hf hb1 hb2
    rw [fL_law_1019] at hf
    refine g_iload C0 dL_law_1019 7 rfl ?_
    refine g_iconst C0 (v := (3 : Int32)) dL_law_1021 (by decide) ?_
    refine g_icmp_ge C0 (tgt := 1196) dL_law_1022 (by decide) (fun c214 => ?_) (fun c214 => ?_)
    · rw [if_pos c214] at hf
      refine g_aload_n C0 dL_law_1196 rfl 1 rfl ?_
      refine g_iload C0 dL_law_1197 3 rfl ?_
      refine g_iload C0 dL_law_1199 4 rfl ?_
      obtain ⟨r215, er215, hf⟩ := hl_bd hf
      obtain ⟨z216, ez216, hf⟩ := hl_inl hf
      have kr215 := mg_bestKind l hl0 D cB cC cI cO L0 ua v v13 v14 r215 er215
      rw [ez216] at kr215
      refine g_sufNi C0 E0.1.1 (P := []) (X := labX cB cC cI cO L0 ua v) (X1 := labX cB cC cI cO L0 ua r215.2) (As := [.int v13, .int v14]) (st := []) kr215 hmX6_bestKind q_596 ⟨Nat.le_of_ble_eq_true rfl, Nat.le_of_ble_eq_true rfl⟩ ⟨by omega, by omega⟩ rfl rfl rfl rfl rfl 0 rfl rfl rfl (Nat.le_of_ble_eq_true rfl) dL_law_1201 ?_
      refine g_iload C0 dL_law_1204 5 rfl ?_
      refine g_icmp_eq C0 (tgt := 1211) dL_law_1206 (by decide) (fun c217 => ?_) (fun c217 => ?_)
      · rw [if_pos c217] at hf
        refine g_aload_n C0 dL_law_1211 rfl 1 rfl ?_
        refine g_aload_n C0 dL_law_1212 rfl 0 rfl ?_
        refine g_sipush C0 (v := (130 : Int32)) dL_law_1213 (by decide) ?_
        refine g_iconst C0 (v := (3 : Int32)) dL_law_1216 (by decide) ?_
        refine g_iload_n C0 dL_law_1217 rfl 2 rfl ?_
        refine g_imul C0 dL_law_1218 ?_
        refine g_iadd C0 dL_law_1219 ?_
        obtain ⟨r218, er218, hf⟩ := hl_bd hf
        refine g_lSv C0 E0 (P := []) (X := labX cB cC cI cO L0 ua r215.2) (X1 := labX cB cC cI cO L0 ua r218) (As := [.ref L0, .ref g.2.2.1, .int ((130 : Int32) + ((3 : Int32) * v2))]) (st := []) (mL_acts l hl0 D cB cC cI cO g L0 ua r215.2 ((130 : Int32) + ((3 : Int32) * v2)) r218 er218) hmL_acts q_796 ⟨Nat.le_of_ble_eq_true rfl, Nat.le_of_ble_eq_true rfl⟩ rfl rfl ⟨by omega, by omega⟩ rfl rfl rfl rfl (Nat.le_of_ble_eq_true rfl) dL_law_1220 ?_
        refine g_iinc C0 (lv' := [(2, .int (v2 + (1 : Int32))), (0, .ref g.2.2.1), (1, .ref L0), (13, .int v13), (14, .int v14), (15, .int v15), (16, .int v16), (17, .int v17)]) dL_law_1223 2 rfl rfl (by decide) rfl ?_
        refine g_goto C0 (tgt := 15) dL_law_1226 (by decide) ?_
        refine g_lv [1, 2, 0] (lv' := [(0, .ref g.2.2.1), (1, .ref L0), (2, .int (v2 + (1 : Int32)))]) rfl ?_
        exact hrec15 r218 (v2 + (1 : Int32))  _ _ hf (by omega) (by omega)
      · rw [if_neg c217] at hf
        refine g_iconst C0 (v := (0 : Int32)) dL_law_1209 (by decide) ?_
        cases hf
    · rw [if_neg c214] at hf
      refine g_new (ci := 6) (fs := labNew) C0 hinX6 tyX6_ok q_43 q_44 q_12 rfl (fun z hz => hl_dX6 z hz) (by omega) (by omega) dL_law_1025 (fun Lq219 => ?_)
      refine g_dup C0 dL_law_1028 rfl ?_
      refine g_ctorO (P := labX cB cC cI cO L0 ua v) (X := [(Lq219, .inr (6, labNew))]) (As := []) (st := [.ref Lq219]) (b := Lq219) C0 E0.2.2.2.1 (mX6_init l D cB cC cI cO Lq219 K0 hK0) hmX6_init q_45 ⟨Nat.le_of_ble_eq_true rfl, Nat.le_of_ble_eq_true rfl⟩ rfl rfl ⟨by omega, by omega⟩ rfl rfl rfl (Nat.le_of_ble_eq_true rfl) dL_law_1029 (fun ua220 => ?_)
      refine g_eq (ws' := (List.append (labX cB cC cI cO L0 ua v) (labX cB cC cI cO Lq219 ua220 (lv0 K0)))) rfl rfl rfl ?_
      refine g_astore C0 (lv' := [(18, .ref Lq219), (0, .ref g.2.2.1), (1, .ref L0), (2, .int v2), (13, .int v13), (14, .int v14), (15, .int v15), (16, .int v16), (17, .int v17)]) dL_law_1032 (by decide) rfl ?_
      refine g_aload C0 dL_law_1034 0 rfl ?_
      refine g_iload C0 dL_law_1036 8 rfl ?_
      obtain ⟨r221, er221, hf⟩ := hl_bd hf
      refine g_hSi C0 E0 (P := labX cB cC cI cO L0 ua v) (X := labX cB cC cI cO Lq219 ua220 (lv0 K0)) (X1 := labX cB cC cI cO Lq219 ua220 r221.2) (As := [.ref Lq219, .int v17]) (st := []) (mL_setKind l hl0 D cB cC cI cO g Lq219 ua220 (lv0 K0) v17 r221 er221) hmL_setKind q_673 ⟨Nat.le_of_ble_eq_true rfl, Nat.le_of_ble_eq_true rfl⟩ rfl rfl ⟨by omega, by omega⟩ rfl rfl rfl rfl (Nat.le_of_ble_eq_true rfl) dL_law_1038 ?_
      refine g_istore C0 (lv' := [(19, .int r221.1), (18, .ref Lq219), (0, .ref g.2.2.1), (1, .ref L0), (2, .int v2), (13, .int v13), (14, .int v14), (15, .int v15), (16, .int v16), (17, .int v17)]) dL_law_1041 (by decide) rfl ?_
      refine g_iload C0 dL_law_1043 5 rfl ?_
      refine g_istore C0 (lv' := [(20, .int v13), (19, .int r221.1), (18, .ref Lq219), (0, .ref g.2.2.1), (1, .ref L0), (2, .int v2), (13, .int v13), (14, .int v14), (15, .int v15), (16, .int v16), (17, .int v17)]) dL_law_1045 (by decide) rfl ?_
      refine g_iconst C0 (v := (0 : Int32)) dL_law_1047 (by decide) ?_
      refine g_istore C0 (lv' := [(21, .int (0 : Int32)), (20, .int v13), (19, .int r221.1), (18, .ref Lq219), (0, .ref g.2.2.1), (1, .ref L0), (2, .int v2), (13, .int v13), (14, .int v14), (15, .int v15), (16, .int v16), (17, .int v17)]) dL_law_1048 (by decide) rfl ?_
      refine g_aload C0 dL_law_1050 3 rfl ?_
      refine g_aload_n C0 dL_law_1052 rfl 5 rfl ?_
      obtain ⟨r222, er222, hf⟩ := hl_bd hf
      refine g_prei C0 (P := labX cB cC cI cO Lq219 ua220 r221.2) (X := labX cB cC cI cO L0 ua v) (X1 := labX cB cC cI cO L0 ua v) (As := []) (st := [.ref Lq219]) (mg_seed l D cB cC cI cO L0 ua v  r222 er222) hmX6_seed q_209 ⟨Nat.le_of_ble_eq_true rfl, Nat.le_of_ble_eq_true rfl⟩ ⟨by omega, by omega⟩ rfl rfl rfl rfl rfl 0 rfl rfl rfl (Nat.le_of_ble_eq_true rfl) dL_law_1053 ?_
      obtain ⟨r223, er223, hf⟩ := hl_bd hf
      refine g_hSi C0 E0 (P := labX cB cC cI cO L0 ua v) (X := labX cB cC cI cO Lq219 ua220 r221.2) (X1 := labX cB cC cI cO Lq219 ua220 r223.2) (As := [.ref Lq219, .int r222]) (st := []) (mL_setSeed l hl0 D cB cC cI cO g Lq219 ua220 r221.2 r222 r223 er223) hmL_setSeed q_692 ⟨Nat.le_of_ble_eq_true rfl, Nat.le_of_ble_eq_true rfl⟩ rfl rfl ⟨by omega, by omega⟩ rfl rfl rfl rfl (Nat.le_of_ble_eq_true rfl) dL_law_1056 ?_
      refine g_istore C0 (lv' := [(19, .int r223.1), (21, .int (0 : Int32)), (20, .int v13), (18, .ref Lq219), (0, .ref g.2.2.1), (1, .ref L0), (2, .int v2), (13, .int v13), (14, .int v14), (15, .int v15), (16, .int v16), (17, .int v17)]) dL_law_1059 (by decide) rfl ?_
      refine g_aload C0 dL_law_1061 3 rfl ?_
      refine g_aload_n C0 dL_law_1063 rfl 5 rfl ?_
      obtain ⟨r224, er224, hf⟩ := hl_bd hf
      refine g_prei C0 (P := labX cB cC cI cO Lq219 ua220 r223.2) (X := labX cB cC cI cO L0 ua v) (X1 := labX cB cC cI cO L0 ua v) (As := []) (st := [.ref Lq219]) (mg_limit l D cB cC cI cO L0 ua v  r224 er224) hmX6_limit q_213 ⟨Nat.le_of_ble_eq_true rfl, Nat.le_of_ble_eq_true rfl⟩ ⟨by omega, by omega⟩ rfl rfl rfl rfl rfl 0 rfl rfl rfl (Nat.le_of_ble_eq_true rfl) dL_law_1064 ?_
      obtain ⟨r225, er225, hf⟩ := hl_bd hf
      refine g_hSi C0 E0 (P := labX cB cC cI cO L0 ua v) (X := labX cB cC cI cO Lq219 ua220 r223.2) (X1 := labX cB cC cI cO Lq219 ua220 r225.2) (As := [.ref Lq219, .int r224]) (st := []) (mL_setLimit l hl0 D cB cC cI cO g Lq219 ua220 r223.2 r224 r225 er225) hmL_setLimit q_707 ⟨Nat.le_of_ble_eq_true rfl, Nat.le_of_ble_eq_true rfl⟩ rfl rfl ⟨by omega, by omega⟩ rfl rfl rfl rfl (Nat.le_of_ble_eq_true rfl) dL_law_1067 ?_
      refine g_istore C0 (lv' := [(19, .int r225.1), (21, .int (0 : Int32)), (20, .int v13), (18, .ref Lq219), (0, .ref g.2.2.1), (1, .ref L0), (2, .int v2), (13, .int v13), (14, .int v14), (15, .int v15), (16, .int v16), (17, .int v17)]) dL_law_1070 (by decide) rfl ?_
      refine g_iconst C0 (v := (0 : Int32)) dL_law_1072 (by decide) ?_
      refine g_istore C0 (lv' := [(22, .int (0 : Int32)), (19, .int r225.1), (21, .int (0 : Int32)), (20, .int v13), (18, .ref Lq219), (0, .ref g.2.2.1), (1, .ref L0), (2, .int v2), (13, .int v13), (14, .int v14), (15, .int v15), (16, .int v16), (17, .int v17)]) dL_law_1073 (by decide) rfl ?_
      refine g_lv [5, 6, 7, 8, 9, 10, 11, 12, 4, 3, 2, 0] (lv' := [(0, .ref g.2.2.1), (1, .ref L0), (2, .int v2), (13, .int v13), (14, .int v14), (15, .int v15), (16, .int v16), (17, .int v17), (18, .ref Lq219), (20, .int v13), (21, .int (0 : Int32)), (22, .int (0 : Int32))]) rfl ?_
      exact bL_law_1075 C0 E0 hl0 K0 hK0 KE L0 ua out rec15 (fL_law_1019 g rec15 n) hrec15 ih  15  v r225.2 v2 v13 v14 v15 v16 v17 v13 (0 : Int32) (0 : Int32) Lq219 ua220 _ _ hf (by omega) (by omega)
set_option maxHeartbeats 8000000 in
set_option maxRecDepth 100000 in
theorem bL_law_983 {p : Program} {l : Launch} {e : Env} {s : State} {m : MethodId} {args : Array Value} {below : List Frame} {meth : Method} {c : Code} {D : va_G} {cB cC cI cO : ClassId} {A : Nat → Prop} {g : LG} (C0 : gC RL cL_law 23 (some .boolean) p s m args meth c D (hTy cB cC cI cO) A) (E0 : hLw g A s) (hl0 : l.stackTraces = false) (K0 : Nat → Int32) (hK0 : fJ7_fill_53178 64 (fun _ => 0) (-1 : Int32) = some K0) {Q : State → Prop} (KE : ∀ (lv : List (Nat × Value)) (ws : va_W) (kk nn : Nat), kk ≤ room_1.cells → nn ≤ room_1.slots → gG p l e room_1 s m args below meth c D A 23 Q kk nn 1230 lv [.int 1] ws) (L0 : Nat) (ua : LA) (out : Unit) {B15a B15b : Nat} (rec15 : LV → Int32 → Option (Unit)) (hrec15 : ∀ (v : LV) (v2 : Int32)  (kk nn : Nat), rec15 v v2 = some out → kk + (B15a) ≤ room_1.cells → nn + (B15b) ≤ room_1.slots → gG p l e room_1 s m args below meth c D A 23 Q kk nn 15 [(0, .ref g.2.2.1), (1, .ref L0), (2, .int v2)] [] (List.append [] (labX cB cC cI cO L0 ua v))) : ∀ (v : LV) (v2 : Int32)  (kk nn : Nat), fL_law_983 g rec15  v v2 = some out → kk + (419 + B15a) ≤ room_1.cells → nn + (17338 + B15b) ≤ room_1.slots → gG p l e room_1 s m args below meth c D A 23 Q kk nn 983 [(0, .ref g.2.2.1), (1, .ref L0), (2, .int v2)] [] (List.append [] (labX cB cC cI cO L0 ua v)) := by
  intro v v2 kk nn hf hb1 hb2
  unfold fL_law_983 at hf
  refine g_aload_n C0 dL_law_983 rfl 0 rfl ?_
  refine g_bipush C0 (v := (120 : Int32)) dL_law_984 (by decide) ?_
  refine g_iload_n C0 dL_law_986 rfl 2 rfl ?_
  refine g_iadd C0 dL_law_987 ?_
  refine g_sipush C0 (v := (10007 : Int32)) dL_law_988 (by decide) ?_
  obtain ⟨r139, er139, hf⟩ := hl_bd hf
  refine g_l0i C0 E0 (mL_some l hl0 D cB cC cI cO g ((120 : Int32) + v2) (10007 : Int32) r139 er139) hmL_some q_667 ⟨Nat.le_of_ble_eq_true rfl, Nat.le_of_ble_eq_true rfl⟩ rfl rfl ⟨by omega, by omega⟩ rfl rfl (Nat.le_of_ble_eq_true rfl) dL_law_991 ?_
  refine g_istore C0 (lv' := [(13, .int r139), (0, .ref g.2.2.1), (1, .ref L0), (2, .int v2)]) dL_law_994 (by decide) rfl ?_
  refine g_iconst C0 (v := (1 : Int32)) dL_law_996 (by decide) ?_
  refine g_aload_n C0 dL_law_997 rfl 1 rfl ?_
  refine g_bipush C0 (v := (124 : Int32)) dL_law_998 (by decide) ?_
  refine g_iload_n C0 dL_law_1000 rfl 3 rfl ?_
  refine g_iadd C0 dL_law_1001 ?_
  refine g_bipush C0 (v := (14 : Int32)) dL_law_1002 (by decide) ?_
  obtain ⟨r140, er140, hf⟩ := hl_bd hf
  refine g_l0i C0 E0 (mL_some l hl0 D cB cC cI cO g ((124 : Int32) + v2) (14 : Int32) r140 er140) hmL_some q_667 ⟨Nat.le_of_ble_eq_true rfl, Nat.le_of_ble_eq_true rfl⟩ rfl rfl ⟨by omega, by omega⟩ rfl rfl (Nat.le_of_ble_eq_true rfl) dL_law_1004 ?_
  refine g_iadd C0 dL_law_1007 ?_
  refine g_istore C0 (lv' := [(14, .int ((1 : Int32) + r140)), (13, .int r139), (0, .ref g.2.2.1), (1, .ref L0), (2, .int v2)]) dL_law_1008 (by decide) rfl ?_
  refine g_iconst C0 (v := (0 : Int32)) dL_law_1010 (by decide) ?_
  refine g_istore C0 (lv' := [(15, .int (0 : Int32)), (14, .int ((1 : Int32) + r140)), (13, .int r139), (0, .ref g.2.2.1), (1, .ref L0), (2, .int v2)]) dL_law_1011 (by decide) rfl ?_
  refine g_iconst C0 (v := (0 : Int32)) dL_law_1013 (by decide) ?_
  refine g_istore C0 (lv' := [(16, .int (0 : Int32)), (15, .int (0 : Int32)), (14, .int ((1 : Int32) + r140)), (13, .int r139), (0, .ref g.2.2.1), (1, .ref L0), (2, .int v2)]) dL_law_1014 (by decide) rfl ?_
  refine g_iconst C0 (v := (0 : Int32)) dL_law_1016 (by decide) ?_
  refine g_istore C0 (lv' := [(17, .int (0 : Int32)), (16, .int (0 : Int32)), (15, .int (0 : Int32)), (14, .int ((1 : Int32) + r140)), (13, .int r139), (0, .ref g.2.2.1), (1, .ref L0), (2, .int v2)]) dL_law_1017 (by decide) rfl ?_
  refine g_lv [5, 6, 7, 4, 3, 2, 1, 0] (lv' := [(0, .ref g.2.2.1), (1, .ref L0), (2, .int v2), (13, .int r139), (14, .int ((1 : Int32) + r140)), (15, .int (0 : Int32)), (16, .int (0 : Int32)), (17, .int (0 : Int32))]) rfl ?_
  exact bL_law_1019 C0 E0 hl0 K0 hK0 KE L0 ua out rec15 hrec15  4  v v2 r139 ((1 : Int32) + r140) (0 : Int32) (0 : Int32) (0 : Int32)  _ _ hf (by omega) (by omega)
set_option maxHeartbeats 8000000 in
set_option maxRecDepth 100000 in
theorem bL_law_887_KK {p : Program} {l : Launch} {e : Env} {s : State} {m : MethodId} {args : Array Value} {below : List Frame} {meth : Method} {c : Code} {D : va_G} {cB cC cI cO : ClassId} {A : Nat → Prop} {g : LG} (C0 : gC RL cL_law 23 (some .boolean) p s m args meth c D (hTy cB cC cI cO) A) (E0 : hLw g A s) (hl0 : l.stackTraces = false) (K0 : Nat → Int32) (hK0 : fJ7_fill_53178 64 (fun _ => 0) (-1 : Int32) = some K0) {Q : State → Prop} (KE : ∀ (lv : List (Nat × Value)) (ws : va_W) (kk nn : Nat), kk ≤ room_1.cells → nn ≤ room_1.slots → gG p l e room_1 s m args below meth c D A 23 Q kk nn 1230 lv [.int 1] ws) (L0 : Nat) (ua : LA) (out : Unit) {B15a B15b : Nat} (rec15 : LV → Int32 → Option (Unit)) (hrec15 : ∀ (v : LV) (v2 : Int32)  (kk nn : Nat), rec15 v v2 = some out → kk + (B15a) ≤ room_1.cells → nn + (B15b) ≤ room_1.slots → gG p l e room_1 s m args below meth c D A 23 Q kk nn 15 [(0, .ref g.2.2.1), (1, .ref L0), (2, .int v2)] [] (List.append [] (labX cB cC cI cO L0 ua v))) : ∀ (v : LV) (v2 : Int32) (v3 : Int32) (v4 : Int32) (v8 : Int32) (_ : Nat) (_ : Nat → Int32) (_ : Nat) (_ : Nat → Int32) (k0 : Int32) (k1 : Int32)  (kk nn : Nat), fL_law_887 g rec15  v v2 v3 v4 v8 (kLen 0) (kByt 0) (kLen 0) (kByt 0) k0 k1 = some out → kk + (1828 + B15a) ≤ room_1.cells → nn + (25792 + B15b) ≤ room_1.slots → gG p l e room_1 s m args below meth c D A 23 Q kk nn 887 [(0, .ref g.2.2.1), (1, .ref L0), (2, .int v2), (3, .int v3), (4, .int v4), (8, .int v8), (11, .ref (g.1 0)), (12, .ref (g.1 0))] [.int k0, .int k1] (List.append [] (labX cB cC cI cO L0 ua v)) := by
  intro v v2 v3 v4 v8 _ _ _ _ k0 k1 kk nn hf hb1 hb2
  unfold fL_law_887 at hf
  refine g_icmp_ne C0 (tgt := 944) dL_law_887 (by decide) (fun c104 => ?_) (fun c104 => ?_)
  · rw [if_neg c104] at hf
    refine g_iconst C0 (v := (0 : Int32)) dL_law_944 (by decide) ?_
    cases hf
  · rw [if_pos c104] at hf
    refine g_aload_n C0 dL_law_890 rfl 1 rfl ?_
    obtain ⟨r105, er105, hf⟩ := hl_bd hf
    refine g_suff C0 (P := []) (X := labX cB cC cI cO L0 ua v) (X1 := labX cB cC cI cO L0 ua v) (As := []) (st := []) (mg_load l D cB cC cI cO L0 ua v  r105 er105) hmX6_load q_529 ⟨Nat.le_of_ble_eq_true rfl, Nat.le_of_ble_eq_true rfl⟩ ⟨by omega, by omega⟩ rfl rfl rfl rfl rfl 0 rfl rfl rfl (Nat.le_of_ble_eq_true rfl) dL_law_891 ?_
    refine g_iload C0 dL_law_894 4 rfl ?_
    refine g_i2f C0 dL_law_896 ?_
    refine g_iload_n C0 dL_law_897 rfl 3 rfl ?_
    refine g_i2f C0 dL_law_898 ?_
    obtain ⟨n106, hf⟩ := hl_ifS hf
    refine g_fdiv C0 dL_law_899 (hl_n32P n106) ?_
    refine g_fcmp C0 dL_law_900 ?_
    refine g_if_ne C0 (tgt := 944) dL_law_901 (by decide) (fun c107 => ?_) (fun c107 => ?_)
    · rw [if_neg c107] at hf
      refine g_iconst C0 (v := (0 : Int32)) dL_law_944 (by decide) ?_
      cases hf
    · rw [if_pos c107] at hf
      refine g_aload_n C0 dL_law_904 rfl 1 rfl ?_
      obtain ⟨r108, er108, hf⟩ := hl_bd hf
      refine g_sufi C0 (P := []) (X := labX cB cC cI cO L0 ua v) (X1 := labX cB cC cI cO L0 ua v) (As := []) (st := []) (mg_loadBits l D cB cC cI cO L0 ua v  r108 er108) hmX6_loadBits q_537 ⟨Nat.le_of_ble_eq_true rfl, Nat.le_of_ble_eq_true rfl⟩ ⟨by omega, by omega⟩ rfl rfl rfl rfl rfl 0 rfl rfl rfl (Nat.le_of_ble_eq_true rfl) dL_law_905 ?_
      refine g_aload_n C0 dL_law_908 rfl 1 rfl ?_
      obtain ⟨r109, er109, hf⟩ := hl_bd hf
      refine g_suff C0 (P := []) (X := labX cB cC cI cO L0 ua v) (X1 := labX cB cC cI cO L0 ua v) (As := []) (st := [.int r108]) (mg_load l D cB cC cI cO L0 ua v  r109 er109) hmX6_load q_529 ⟨Nat.le_of_ble_eq_true rfl, Nat.le_of_ble_eq_true rfl⟩ ⟨by omega, by omega⟩ rfl rfl rfl rfl rfl 0 rfl rfl rfl (Nat.le_of_ble_eq_true rfl) dL_law_909 ?_
      obtain ⟨r110, er110, hf⟩ := hl_bd hf
      refine g_l0pi C0 (mJxf58ca_floatToIntBits_5c35a l D cB cC cI cO r109 r110 er110) hmJxf58ca_floatToIntBits_5c35a q_902 ⟨Nat.le_of_ble_eq_true rfl, Nat.le_of_ble_eq_true rfl⟩ ⟨by omega, by omega⟩ rfl rfl rfl rfl (Nat.le_of_ble_eq_true rfl) dL_law_912 ?_
      refine g_icmp_ne C0 (tgt := 944) dL_law_915 (by decide) (fun c111 => ?_) (fun c111 => ?_)
      · rw [if_neg c111] at hf
        refine g_iconst C0 (v := (0 : Int32)) dL_law_944 (by decide) ?_
        cases hf
      · rw [if_pos c111] at hf
        refine g_aload_n C0 dL_law_918 rfl 1 rfl ?_
        refine g_aload_n C0 dL_law_919 rfl 1 rfl ?_
        obtain ⟨r112, er112, hf⟩ := hl_bd hf
        refine g_sufi C0 (P := []) (X := labX cB cC cI cO L0 ua v) (X1 := labX cB cC cI cO L0 ua r112.2) (As := []) (st := [.ref L0]) (mg_writeSlots l D cB cC cI cO L0 ua v  r112 er112) hmX6_writeSlots q_639 ⟨Nat.le_of_ble_eq_true rfl, Nat.le_of_ble_eq_true rfl⟩ ⟨by omega, by omega⟩ rfl rfl rfl rfl rfl 0 rfl rfl rfl (Nat.le_of_ble_eq_true rfl) dL_law_920 ?_
        refine g_aload C0 dL_law_923 6 rfl ?_
        obtain ⟨r113, er113, hf⟩ := hl_bd hf
        have lr113 : fL_isLine r112.2 (kLen 0) (kByt 0) r112.1 = some r113 := (line_cong (fun _ _ => rfl)).trans er113
        refine g_lineS C0 (hLt_ok g _ _ _ _) (xl_K E0 (by decide : 0 < 6)) (P := []) (X := labX cB cC cI cO L0 ua r112.2) (X1 := labX cB cC cI cO L0 ua r112.2) (As := [.ref L0, .int r112.1, .ref (g.1 0)]) (st := []) (mL_isLine l hl0 D cB cC cI cO g L0 ua r112.2 (g.1 0) (g.2.1 0) (kLen 0) (kByt 0) r112.1 r113 (by omega) (kAsc 0 (by decide)) lr113) hmL_isLine q_832 ⟨Nat.le_of_ble_eq_true rfl, Nat.le_of_ble_eq_true rfl⟩ rfl rfl ⟨by omega, by omega⟩ rfl rfl rfl rfl (Nat.le_of_ble_eq_true rfl) dL_law_925 ?_
        refine g_if_eq C0 (tgt := 944) dL_law_928 (by decide) (fun c114 => ?_) (fun c114 => ?_)
        · rw [if_pos c114] at hf
          refine g_iconst C0 (v := (0 : Int32)) dL_law_944 (by decide) ?_
          cases hf
        · rw [if_neg c114] at hf
          refine g_aload_n C0 dL_law_931 rfl 1 rfl ?_
          refine g_aload_n C0 dL_law_932 rfl 1 rfl ?_
          obtain ⟨r115, er115, hf⟩ := hl_bd hf
          refine g_sufi C0 (P := []) (X := labX cB cC cI cO L0 ua r112.2) (X1 := labX cB cC cI cO L0 ua r115.2) (As := []) (st := [.ref L0]) (mg_writeKeys l D cB cC cI cO L0 ua r112.2  r115 er115) hmX6_writeKeys q_655 ⟨Nat.le_of_ble_eq_true rfl, Nat.le_of_ble_eq_true rfl⟩ ⟨by omega, by omega⟩ rfl rfl rfl rfl rfl 0 rfl rfl rfl (Nat.le_of_ble_eq_true rfl) dL_law_933 ?_
          refine g_aload C0 dL_law_936 7 rfl ?_
          obtain ⟨r116, er116, hf⟩ := hl_bd hf
          have lr116 : fL_isLine r115.2 (kLen 0) (kByt 0) r115.1 = some r116 := (line_cong (fun _ _ => rfl)).trans er116
          refine g_lineS C0 (hLt_ok g _ _ _ _) (xl_K E0 (by decide : 0 < 6)) (P := []) (X := labX cB cC cI cO L0 ua r115.2) (X1 := labX cB cC cI cO L0 ua r115.2) (As := [.ref L0, .int r115.1, .ref (g.1 0)]) (st := []) (mL_isLine l hl0 D cB cC cI cO g L0 ua r115.2 (g.1 0) (g.2.1 0) (kLen 0) (kByt 0) r115.1 r116 (by omega) (kAsc 0 (by decide)) lr116) hmL_isLine q_832 ⟨Nat.le_of_ble_eq_true rfl, Nat.le_of_ble_eq_true rfl⟩ rfl rfl ⟨by omega, by omega⟩ rfl rfl rfl rfl (Nat.le_of_ble_eq_true rfl) dL_law_938 ?_
          refine g_if_ne C0 (tgt := 946) dL_law_941 (by decide) (fun c117 => ?_) (fun c117 => ?_)
          · rw [if_neg c117] at hf
            refine g_iload C0 dL_law_946 4 rfl ?_
            refine g_if_le C0 (tgt := 983) dL_law_948 (by decide) (fun c118 => ?_) (fun c118 => ?_)
            · rw [if_pos c118] at hf
              refine g_lv [0, 1, 2] (lv' := [(0, .ref g.2.2.1), (1, .ref L0), (2, .int v2)]) rfl ?_
              exact bL_law_983 C0 E0 hl0 K0 hK0 KE L0 ua out rec15 hrec15   r115.2 v2  _ _ hf (by omega) (by omega)
            · rw [if_neg c118] at hf
              refine g_aload_n C0 dL_law_951 rfl 1 rfl ?_
              obtain ⟨r119, er119, hf⟩ := hl_bd hf
              obtain ⟨z120, ez120, hf⟩ := hl_inl hf
              have kr119 := mg_meanProbes l hl0 D cB cC cI cO L0 ua r115.2  r119 er119
              rw [ez120] at kr119
              refine g_sufNd C0 E0.1.1 (P := []) (X := labX cB cC cI cO L0 ua r115.2) (X1 := labX cB cC cI cO L0 ua r115.2) (As := []) (st := []) kr119 hmX6_meanProbes q_494 ⟨Nat.le_of_ble_eq_true rfl, Nat.le_of_ble_eq_true rfl⟩ ⟨by omega, by omega⟩ rfl rfl rfl rfl rfl 0 rfl rfl rfl (Nat.le_of_ble_eq_true rfl) dL_law_952 ?_
              refine g_iload C0 dL_law_955 5 rfl ?_
              refine g_i2d C0 dL_law_957 ?_
              refine g_iload C0 dL_law_958 4 rfl ?_
              refine g_i2d C0 dL_law_960 ?_
              obtain ⟨n121, hf⟩ := hl_ifS hf
              refine g_ddiv C0 dL_law_961 (hl_n64P n121) ?_
              refine g_dcmp C0 dL_law_962 ?_
              refine g_if_ne C0 (tgt := 981) dL_law_963 (by decide) (fun c122 => ?_) (fun c122 => ?_)
              · rw [if_neg c122] at hf
                refine g_iconst C0 (v := (0 : Int32)) dL_law_981 (by decide) ?_
                cases hf
              · rw [if_pos c122] at hf
                refine g_aload_n C0 dL_law_966 rfl 1 rfl ?_
                obtain ⟨r123, er123, hf⟩ := hl_bd hf
                obtain ⟨z124, ez124, hf⟩ := hl_inl hf
                have kr123 := mg_meanProbesBits l hl0 D cB cC cI cO L0 ua r115.2  r123 er123
                rw [ez124] at kr123
                refine g_sufNl C0 E0.1.1 (P := []) (X := labX cB cC cI cO L0 ua r115.2) (X1 := labX cB cC cI cO L0 ua r115.2) (As := []) (st := []) kr123 hmX6_meanProbesBits q_518 ⟨Nat.le_of_ble_eq_true rfl, Nat.le_of_ble_eq_true rfl⟩ ⟨by omega, by omega⟩ rfl rfl rfl rfl rfl 0 rfl rfl rfl (Nat.le_of_ble_eq_true rfl) dL_law_967 ?_
                refine g_aload_n C0 dL_law_970 rfl 1 rfl ?_
                obtain ⟨r125, er125, hf⟩ := hl_bd hf
                obtain ⟨z126, ez126, hf⟩ := hl_inl hf
                have kr125 := mg_meanProbes l hl0 D cB cC cI cO L0 ua r115.2  r125 er125
                rw [ez126] at kr125
                refine g_sufNd C0 E0.1.1 (P := []) (X := labX cB cC cI cO L0 ua r115.2) (X1 := labX cB cC cI cO L0 ua r115.2) (As := []) (st := [.long z124]) kr125 hmX6_meanProbes q_494 ⟨Nat.le_of_ble_eq_true rfl, Nat.le_of_ble_eq_true rfl⟩ ⟨by omega, by omega⟩ rfl rfl rfl rfl rfl 0 rfl rfl rfl (Nat.le_of_ble_eq_true rfl) dL_law_971 ?_
                obtain ⟨r127, er127, hf⟩ := hl_bd hf
                refine g_l0pl C0 (mJxe99ae_doubleToLongBits_ccdee l D cB cC cI cO z126 r127 er127) hmJxe99ae_doubleToLongBits_ccdee q_892 ⟨Nat.le_of_ble_eq_true rfl, Nat.le_of_ble_eq_true rfl⟩ ⟨by omega, by omega⟩ rfl rfl rfl rfl (Nat.le_of_ble_eq_true rfl) dL_law_974 ?_
                refine g_lcmp C0 dL_law_977 ?_
                refine g_if_eq C0 (tgt := 983) dL_law_978 (by decide) (fun c128 => ?_) (fun c128 => ?_)
                · rw [if_pos c128] at hf
                  refine g_lv [0, 1, 2] (lv' := [(0, .ref g.2.2.1), (1, .ref L0), (2, .int v2)]) rfl ?_
                  exact bL_law_983 C0 E0 hl0 K0 hK0 KE L0 ua out rec15 hrec15   r115.2 v2  _ _ hf (by omega) (by omega)
                · rw [if_neg c128] at hf
                  refine g_iconst C0 (v := (0 : Int32)) dL_law_981 (by decide) ?_
                  cases hf
          · rw [if_pos c117] at hf
            refine g_iconst C0 (v := (0 : Int32)) dL_law_944 (by decide) ?_
            cases hf
set_option maxHeartbeats 8000000 in
set_option maxRecDepth 100000 in
theorem bL_law_769_KK {p : Program} {l : Launch} {e : Env} {s : State} {m : MethodId} {args : Array Value} {below : List Frame} {meth : Method} {c : Code} {D : va_G} {cB cC cI cO : ClassId} {A : Nat → Prop} {g : LG} (C0 : gC RL cL_law 23 (some .boolean) p s m args meth c D (hTy cB cC cI cO) A) (E0 : hLw g A s) (hl0 : l.stackTraces = false) (K0 : Nat → Int32) (hK0 : fJ7_fill_53178 64 (fun _ => 0) (-1 : Int32) = some K0) {Q : State → Prop} (KE : ∀ (lv : List (Nat × Value)) (ws : va_W) (kk nn : Nat), kk ≤ room_1.cells → nn ≤ room_1.slots → gG p l e room_1 s m args below meth c D A 23 Q kk nn 1230 lv [.int 1] ws) (L0 : Nat) (ua : LA) (out : Unit) {B15a B15b : Nat} {B650a B650b : Nat} (rec15 : LV → Int32 → Option (Unit)) (rec650 : LV → Int32 → Int32 → Int32 → Int32 → Int32 → Int32 → Int32 → Int32 → Nat → (Nat → Int32) → Nat → (Nat → Int32) → Int32 → Option (Unit)) (hrec15 : ∀ (v : LV) (v2 : Int32)  (kk nn : Nat), rec15 v v2 = some out → kk + (B15a) ≤ room_1.cells → nn + (B15b) ≤ room_1.slots → gG p l e room_1 s m args below meth c D A 23 Q kk nn 15 [(0, .ref g.2.2.1), (1, .ref L0), (2, .int v2)] [] (List.append [] (labX cB cC cI cO L0 ua v))) (hrec650 : ∀ (v : LV) (v2 : Int32) (v3 : Int32) (v4 : Int32) (v5 : Int32) (v6 : Int32) (v7 : Int32) (v8 : Int32) (v9 : Int32) (_ : Nat) (_ : Nat → Int32) (_ : Nat) (_ : Nat → Int32) (v13 : Int32)  (kk nn : Nat), rec650 v v2 v3 v4 v5 v6 v7 v8 v9 (kLen 0) (kByt 0) (kLen 0) (kByt 0) v13 = some out → kk + (B650a) ≤ room_1.cells → nn + (B650b) ≤ room_1.slots → gG p l e room_1 s m args below meth c D A 23 Q kk nn 650 [(0, .ref g.2.2.1), (1, .ref L0), (2, .int v2), (3, .int v3), (4, .int v4), (5, .int v5), (6, .int v6), (7, .int v7), (8, .int v8), (9, .int v9), (11, .ref (g.1 0)), (12, .ref (g.1 0)), (13, .int v13)] [] (List.append [] (labX cB cC cI cO L0 ua v))) : ∀ (v : LV) (v2 : Int32) (v3 : Int32) (v4 : Int32) (v5 : Int32) (v6 : Int32) (v7 : Int32) (v8 : Int32) (v9 : Int32) (_ : Nat) (_ : Nat → Int32) (_ : Nat) (_ : Nat → Int32) (v13 : Int32)  (kk nn : Nat), fL_law_769 g rec15 rec650  v v2 v3 v4 v5 v6 v7 v8 v9 (kLen 0) (kByt 0) (kLen 0) (kByt 0) v13 = some out → kk + (0 + B650a) ≤ room_1.cells → nn + (0 + B650b) ≤ room_1.slots → gG p l e room_1 s m args below meth c D A 23 Q kk nn 769 [(0, .ref g.2.2.1), (1, .ref L0), (2, .int v2), (3, .int v3), (4, .int v4), (5, .int v5), (6, .int v6), (7, .int v7), (8, .int v8), (9, .int v9), (11, .ref (g.1 0)), (12, .ref (g.1 0)), (13, .int v13)] [] (List.append [] (labX cB cC cI cO L0 ua v)) := by
  intro v v2 v3 v4 v5 v6 v7 v8 v9 _ _ _ _ v13 kk nn hf hb1 hb2
  unfold fL_law_769 at hf
  refine g_iinc C0 (lv' := [(13, .int (v13 + (1 : Int32))), (0, .ref g.2.2.1), (1, .ref L0), (2, .int v2), (3, .int v3), (4, .int v4), (5, .int v5), (6, .int v6), (7, .int v7), (8, .int v8), (9, .int v9), (11, .ref (g.1 0)), (12, .ref (g.1 0))]) dL_law_769 12 rfl rfl (by decide) rfl ?_
  refine g_goto C0 (tgt := 650) dL_law_772 (by decide) ?_
  refine g_lv [1, 2, 3, 4, 5, 6, 7, 8, 9, 10, 11, 12, 0] (lv' := [(0, .ref g.2.2.1), (1, .ref L0), (2, .int v2), (3, .int v3), (4, .int v4), (5, .int v5), (6, .int v6), (7, .int v7), (8, .int v8), (9, .int v9), (11, .ref (g.1 0)), (12, .ref (g.1 0)), (13, .int (v13 + (1 : Int32)))]) rfl ?_
  exact hrec650 v v2 v3 v4 v5 v6 v7 v8 v9 (kLen 0) (kByt 0) (kLen 0) (kByt 0) (v13 + (1 : Int32))  _ _ hf (by omega) (by omega)
set_option maxHeartbeats 8000000 in
set_option maxRecDepth 100000 in
theorem bL_law_650_KK {p : Program} {l : Launch} {e : Env} {s : State} {m : MethodId} {args : Array Value} {below : List Frame} {meth : Method} {c : Code} {D : va_G} {cB cC cI cO : ClassId} {A : Nat → Prop} {g : LG} (C0 : gC RL cL_law 23 (some .boolean) p s m args meth c D (hTy cB cC cI cO) A) (E0 : hLw g A s) (hl0 : l.stackTraces = false) (K0 : Nat → Int32) (hK0 : fJ7_fill_53178 64 (fun _ => 0) (-1 : Int32) = some K0) {Q : State → Prop} (KE : ∀ (lv : List (Nat × Value)) (ws : va_W) (kk nn : Nat), kk ≤ room_1.cells → nn ≤ room_1.slots → gG p l e room_1 s m args below meth c D A 23 Q kk nn 1230 lv [.int 1] ws) (L0 : Nat) (ua : LA) (out : Unit) {B15a B15b : Nat} (rec15 : LV → Int32 → Option (Unit)) (hrec15 : ∀ (v : LV) (v2 : Int32)  (kk nn : Nat), rec15 v v2 = some out → kk + (B15a) ≤ room_1.cells → nn + (B15b) ≤ room_1.slots → gG p l e room_1 s m args below meth c D A 23 Q kk nn 15 [(0, .ref g.2.2.1), (1, .ref L0), (2, .int v2)] [] (List.append [] (labX cB cC cI cO L0 ua v))) : ∀ (n : Nat) (v : LV) (v2 : Int32) (v3 : Int32) (v4 : Int32) (v5 : Int32) (v6 : Int32) (v7 : Int32) (v8 : Int32) (v9 : Int32) (_ : Nat) (_ : Nat → Int32) (_ : Nat) (_ : Nat → Int32) (v13 : Int32)  (kk nn : Nat), fL_law_650 g rec15 n v v2 v3 v4 v5 v6 v7 v8 v9 (kLen 0) (kByt 0) (kLen 0) (kByt 0) v13 = some out → kk + (n * 206 + (1830 + B15a)) ≤ room_1.cells → nn + (n * 1236 + (25804 + B15b)) ≤ room_1.slots → gG p l e room_1 s m args below meth c D A 23 Q kk nn 650 [(0, .ref g.2.2.1), (1, .ref L0), (2, .int v2), (3, .int v3), (4, .int v4), (5, .int v5), (6, .int v6), (7, .int v7), (8, .int v8), (9, .int v9), (11, .ref (g.1 0)), (12, .ref (g.1 0)), (13, .int v13)] [] (List.append [] (labX cB cC cI cO L0 ua v)) := by
  intro n
  induction n with
  | zero => intro v v2 v3 v4 v5 v6 v7 v8 v9 _ _ _ _ v13 kk nn hf hb1 hb2; rw [fL_law_650] at hf; cases hf
  | succ n ih =>
    intro v v2 v3 v4 v5 v6 v7 v8 v9 _ _ _ _ v13 kk nn hf hb1 hb2
    rw [fL_law_650] at hf
    refine g_iload C0 dL_law_650 12 rfl ?_
    refine g_bipush C0 (v := (6 : Int32)) dL_law_652 (by decide) ?_
    refine g_icmp_ge C0 (tgt := 775) dL_law_654 (by decide) (fun c29 => ?_) (fun c29 => ?_)
    · rw [if_pos c29] at hf
      refine g_aload_n C0 dL_law_775 rfl 1 rfl ?_
      obtain ⟨r30, er30, hf⟩ := hl_bd hf
      refine g_sufi C0 (P := []) (X := labX cB cC cI cO L0 ua v) (X1 := labX cB cC cI cO L0 ua v) (As := []) (st := []) (mg_size l D cB cC cI cO L0 ua v  r30 er30) hmX6_size q_197 ⟨Nat.le_of_ble_eq_true rfl, Nat.le_of_ble_eq_true rfl⟩ ⟨by omega, by omega⟩ rfl rfl rfl rfl rfl 0 rfl rfl rfl (Nat.le_of_ble_eq_true rfl) dL_law_776 ?_
      refine g_iload C0 dL_law_779 4 rfl ?_
      refine g_icmp_ne C0 (tgt := 944) dL_law_781 (by decide) (fun c31 => ?_) (fun c31 => ?_)
      · rw [if_neg c31] at hf
        refine g_iconst C0 (v := (0 : Int32)) dL_law_944 (by decide) ?_
        cases hf
      · rw [if_pos c31] at hf
        refine g_aload_n C0 dL_law_784 rfl 1 rfl ?_
        obtain ⟨r32, er32, hf⟩ := hl_bd hf
        refine g_sufi C0 (P := []) (X := labX cB cC cI cO L0 ua v) (X1 := labX cB cC cI cO L0 ua v) (As := []) (st := []) (mg_tombstones l D cB cC cI cO L0 ua v  r32 er32) hmX6_tombstones q_205 ⟨Nat.le_of_ble_eq_true rfl, Nat.le_of_ble_eq_true rfl⟩ ⟨by omega, by omega⟩ rfl rfl rfl rfl rfl 0 rfl rfl rfl (Nat.le_of_ble_eq_true rfl) dL_law_785 ?_
        refine g_iload C0 dL_law_788 5 rfl ?_
        refine g_icmp_ne C0 (tgt := 944) dL_law_790 (by decide) (fun c33 => ?_) (fun c33 => ?_)
        · rw [if_neg c33] at hf
          refine g_iconst C0 (v := (0 : Int32)) dL_law_944 (by decide) ?_
          cases hf
        · rw [if_pos c33] at hf
          refine g_aload_n C0 dL_law_793 rfl 1 rfl ?_
          obtain ⟨r34, er34, hf⟩ := hl_bd hf
          refine g_sufi C0 (P := []) (X := labX cB cC cI cO L0 ua v) (X1 := labX cB cC cI cO L0 ua v) (As := []) (st := []) (mg_clusters l D cB cC cI cO L0 ua v  r34 er34) hmX6_clusters q_449 ⟨Nat.le_of_ble_eq_true rfl, Nat.le_of_ble_eq_true rfl⟩ ⟨by omega, by omega⟩ rfl rfl rfl rfl rfl 0 rfl rfl rfl (Nat.le_of_ble_eq_true rfl) dL_law_794 ?_
          refine g_iload C0 dL_law_797 6 rfl ?_
          refine g_icmp_ne C0 (tgt := 944) dL_law_799 (by decide) (fun c35 => ?_) (fun c35 => ?_)
          · rw [if_neg c35] at hf
            refine g_iconst C0 (v := (0 : Int32)) dL_law_944 (by decide) ?_
            cases hf
          · rw [if_pos c35] at hf
            refine g_aload_n C0 dL_law_802 rfl 1 rfl ?_
            obtain ⟨r36, er36, hf⟩ := hl_bd hf
            refine g_sufi C0 (P := []) (X := labX cB cC cI cO L0 ua v) (X1 := labX cB cC cI cO L0 ua v) (As := []) (st := []) (mg_largestCluster l D cB cC cI cO L0 ua v  r36 er36) hmX6_largestCluster q_468 ⟨Nat.le_of_ble_eq_true rfl, Nat.le_of_ble_eq_true rfl⟩ ⟨by omega, by omega⟩ rfl rfl rfl rfl rfl 0 rfl rfl rfl (Nat.le_of_ble_eq_true rfl) dL_law_803 ?_
            refine g_iload C0 dL_law_806 7 rfl ?_
            refine g_icmp_ne C0 (tgt := 944) dL_law_808 (by decide) (fun c37 => ?_) (fun c37 => ?_)
            · rw [if_neg c37] at hf
              refine g_iconst C0 (v := (0 : Int32)) dL_law_944 (by decide) ?_
              cases hf
            · rw [if_pos c37] at hf
              refine g_aload_n C0 dL_law_811 rfl 1 rfl ?_
              obtain ⟨r38, er38, hf⟩ := hl_bd hf
              refine g_sufi C0 (P := []) (X := labX cB cC cI cO L0 ua v) (X1 := labX cB cC cI cO L0 ua v) (As := []) (st := []) (mg_largestClusterByHalves l D cB cC cI cO L0 ua v  r38 er38) hmX6_largestClusterByHalves q_478 ⟨Nat.le_of_ble_eq_true rfl, Nat.le_of_ble_eq_true rfl⟩ ⟨by omega, by omega⟩ rfl rfl rfl rfl rfl 0 rfl rfl rfl (Nat.le_of_ble_eq_true rfl) dL_law_812 ?_
              refine g_iload C0 dL_law_815 7 rfl ?_
              refine g_icmp_ne C0 (tgt := 944) dL_law_817 (by decide) (fun c39 => ?_) (fun c39 => ?_)
              · rw [if_neg c39] at hf
                refine g_iconst C0 (v := (0 : Int32)) dL_law_944 (by decide) ?_
                cases hf
              · rw [if_pos c39] at hf
                refine g_aload_n C0 dL_law_820 rfl 1 rfl ?_
                obtain ⟨r40, er40, hf⟩ := hl_bd hf
                refine g_hSi C0 E0 (P := []) (X := labX cB cC cI cO L0 ua v) (X1 := labX cB cC cI cO L0 ua v) (As := [.ref L0]) (st := []) (mL_hardestKey l hl0 D cB cC cI cO g L0 ua v  r40 er40) hmL_hardestKey q_728 ⟨Nat.le_of_ble_eq_true rfl, Nat.le_of_ble_eq_true rfl⟩ rfl rfl ⟨by omega, by omega⟩ rfl rfl rfl rfl (Nat.le_of_ble_eq_true rfl) dL_law_821 ?_
                refine g_iload C0 dL_law_824 9 rfl ?_
                refine g_icmp_ne C0 (tgt := 944) dL_law_826 (by decide) (fun c41 => ?_) (fun c41 => ?_)
                · rw [if_neg c41] at hf
                  refine g_iconst C0 (v := (0 : Int32)) dL_law_944 (by decide) ?_
                  cases hf
                · rw [if_pos c41] at hf
                  refine g_aload_n C0 dL_law_829 rfl 1 rfl ?_
                  refine g_iload C0 dL_law_830 4 rfl ?_
                  obtain ⟨r42, er42, hf⟩ := hl_bd hf
                  refine g_hSi C0 E0 (P := []) (X := labX cB cC cI cO L0 ua v) (X1 := labX cB cC cI cO L0 ua v) (As := [.ref L0, .int v4]) (st := []) (mL_keyAt l hl0 D cB cC cI cO g L0 ua v v4 r42 er42) hmL_keyAt q_725 ⟨Nat.le_of_ble_eq_true rfl, Nat.le_of_ble_eq_true rfl⟩ rfl rfl ⟨by omega, by omega⟩ rfl rfl rfl rfl (Nat.le_of_ble_eq_true rfl) dL_law_832 ?_
                  refine g_sipush C0 (v := (-30000 : Int32)) dL_law_835 (by decide) ?_
                  refine g_icmp_ne C0 (tgt := 944) dL_law_838 (by decide) (fun c43 => ?_) (fun c43 => ?_)
                  · rw [if_neg c43] at hf
                    refine g_iconst C0 (v := (0 : Int32)) dL_law_944 (by decide) ?_
                    cases hf
                  · rw [if_pos c43] at hf
                    refine g_aload_n C0 dL_law_841 rfl 1 rfl ?_
                    obtain ⟨r44, er44, hf⟩ := hl_bd hf
                    refine g_sufi C0 (P := []) (X := labX cB cC cI cO L0 ua v) (X1 := labX cB cC cI cO L0 ua r44.2) (As := []) (st := []) (mg_isConsistent l D cB cC cI cO L0 ua v  r44 er44) hmX6_isConsistent q_600 ⟨Nat.le_of_ble_eq_true rfl, Nat.le_of_ble_eq_true rfl⟩ ⟨by omega, by omega⟩ rfl rfl rfl rfl rfl 0 rfl rfl rfl (Nat.le_of_ble_eq_true rfl) dL_law_842 ?_
                    refine g_if_eq C0 (tgt := 944) dL_law_845 (by decide) (fun c45 => ?_) (fun c45 => ?_)
                    · rw [if_pos c45] at hf
                      refine g_iconst C0 (v := (0 : Int32)) dL_law_944 (by decide) ?_
                      cases hf
                    · rw [if_neg c45] at hf
                      refine g_aload_n C0 dL_law_848 rfl 1 rfl ?_
                      obtain ⟨r46, er46, hf⟩ := hl_bd hf
                      refine g_sufi C0 (P := []) (X := labX cB cC cI cO L0 ua r44.2) (X1 := labX cB cC cI cO L0 ua r44.2) (As := []) (st := []) (mg_growths l D cB cC cI cO L0 ua r44.2  r46 er46) hmX6_growths q_221 ⟨Nat.le_of_ble_eq_true rfl, Nat.le_of_ble_eq_true rfl⟩ ⟨by omega, by omega⟩ rfl rfl rfl rfl rfl 0 rfl rfl rfl (Nat.le_of_ble_eq_true rfl) dL_law_849 ?_
                      refine g_aload_n C0 dL_law_852 rfl 1 rfl ?_
                      obtain ⟨r47, er47, hf⟩ := hl_bd hf
                      refine g_sufi C0 (P := []) (X := labX cB cC cI cO L0 ua r44.2) (X1 := labX cB cC cI cO L0 ua r44.2) (As := []) (st := [.int r46]) (mg_rebuilds l D cB cC cI cO L0 ua r44.2  r47 er47) hmX6_rebuilds q_217 ⟨Nat.le_of_ble_eq_true rfl, Nat.le_of_ble_eq_true rfl⟩ ⟨by omega, by omega⟩ rfl rfl rfl rfl rfl 0 rfl rfl rfl (Nat.le_of_ble_eq_true rfl) dL_law_853 ?_
                      refine g_icmp_gt C0 (tgt := 944) dL_law_856 (by decide) (fun c48 => ?_) (fun c48 => ?_)
                      · rw [if_pos c48] at hf
                        refine g_iconst C0 (v := (0 : Int32)) dL_law_944 (by decide) ?_
                        cases hf
                      · rw [if_neg c48] at hf
                        refine g_aload_n C0 dL_law_859 rfl 1 rfl ?_
                        obtain ⟨r49, er49, hf⟩ := hl_bd hf
                        refine g_sufi C0 (P := []) (X := labX cB cC cI cO L0 ua r44.2) (X1 := labX cB cC cI cO L0 ua r44.2) (As := []) (st := []) (mg_isNearLimit l D cB cC cI cO L0 ua r44.2  r49 er49) hmX6_isNearLimit q_225 ⟨Nat.le_of_ble_eq_true rfl, Nat.le_of_ble_eq_true rfl⟩ ⟨by omega, by omega⟩ rfl rfl rfl rfl rfl 0 rfl rfl rfl (Nat.le_of_ble_eq_true rfl) dL_law_860 ?_
                        refine g_bipush C0 (v := (100 : Int32)) dL_law_863 (by decide) ?_
                        refine g_iload C0 dL_law_865 4 rfl ?_
                        refine g_iload C0 dL_law_867 5 rfl ?_
                        refine g_iadd C0 dL_law_869 ?_
                        refine g_iconst C0 (v := (1 : Int32)) dL_law_870 (by decide) ?_
                        refine g_iadd C0 dL_law_871 ?_
                        refine g_imul C0 dL_law_872 ?_
                        refine g_aload_n C0 dL_law_873 rfl 1 rfl ?_
                        obtain ⟨r50, er50, hf⟩ := hl_bd hf
                        refine g_sufi C0 (P := []) (X := labX cB cC cI cO L0 ua r44.2) (X1 := labX cB cC cI cO L0 ua r44.2) (As := []) (st := [.int ((100 : Int32) * ((v4 + v5) + (1 : Int32))), .int r49]) (mg_limit l D cB cC cI cO L0 ua r44.2  r50 er50) hmX6_limit q_213 ⟨Nat.le_of_ble_eq_true rfl, Nat.le_of_ble_eq_true rfl⟩ ⟨by omega, by omega⟩ rfl rfl rfl rfl rfl 0 rfl rfl rfl (Nat.le_of_ble_eq_true rfl) dL_law_874 ?_
                        refine g_iload_n C0 dL_law_877 rfl 3 rfl ?_
                        refine g_imul C0 dL_law_878 ?_
                        refine g_icmp_le C0 (tgt := 886) dL_law_879 (by decide) (fun c51 => ?_) (fun c51 => ?_)
                        · rw [if_pos c51] at hf
                          refine g_iconst C0 (v := (0 : Int32)) dL_law_886 (by decide) ?_
                          refine g_lv [0, 1, 2, 3, 4, 8, 10, 11] (lv' := [(0, .ref g.2.2.1), (1, .ref L0), (2, .int v2), (3, .int v3), (4, .int v4), (8, .int v8), (11, .ref (g.1 0)), (12, .ref (g.1 0))]) rfl ?_
                          exact bL_law_887_KK C0 E0 hl0 K0 hK0 KE L0 ua out rec15 hrec15   r44.2 v2 v3 v4 v8 (kLen 0) (kByt 0) (kLen 0) (kByt 0) (0 : Int32) r49  _ _ hf (by omega) (by omega)
                        · rw [if_neg c51] at hf
                          refine g_iconst C0 (v := (1 : Int32)) dL_law_882 (by decide) ?_
                          refine g_goto C0 (tgt := 887) dL_law_883 (by decide) ?_
                          refine g_lv [0, 1, 2, 3, 4, 8, 10, 11] (lv' := [(0, .ref g.2.2.1), (1, .ref L0), (2, .int v2), (3, .int v3), (4, .int v4), (8, .int v8), (11, .ref (g.1 0)), (12, .ref (g.1 0))]) rfl ?_
                          exact bL_law_887_KK C0 E0 hl0 K0 hK0 KE L0 ua out rec15 hrec15   r44.2 v2 v3 v4 v8 (kLen 0) (kByt 0) (kLen 0) (kByt 0) (1 : Int32) r49  _ _ hf (by omega) (by omega)
    · rw [if_neg c29] at hf
      refine g_aload_n C0 dL_law_657 rfl 0 rfl ?_
      refine g_bipush C0 (v := (90 : Int32)) dL_law_658 (by decide) ?_
      refine g_bipush C0 (v := (6 : Int32)) dL_law_660 (by decide) ?_
      refine g_iload_n C0 dL_law_662 rfl 2 rfl ?_
      refine g_imul C0 dL_law_663 ?_
      refine g_iadd C0 dL_law_664 ?_
      refine g_iload C0 dL_law_665 12 rfl ?_
      refine g_iadd C0 dL_law_667 ?_
      refine g_sipush C0 (v := (10000 : Int32)) dL_law_668 (by decide) ?_
      obtain ⟨r52, er52, hf⟩ := hl_bd hf
      refine g_l0i C0 E0 (mL_some l hl0 D cB cC cI cO g (((90 : Int32) + ((6 : Int32) * v2)) + v13) (10000 : Int32) r52 er52) hmL_some q_667 ⟨Nat.le_of_ble_eq_true rfl, Nat.le_of_ble_eq_true rfl⟩ rfl rfl ⟨by omega, by omega⟩ rfl rfl (Nat.le_of_ble_eq_true rfl) dL_law_671 ?_
      refine g_istore C0 (lv' := [(14, .int r52), (0, .ref g.2.2.1), (1, .ref L0), (2, .int v2), (3, .int v3), (4, .int v4), (5, .int v5), (6, .int v6), (7, .int v7), (8, .int v8), (9, .int v9), (11, .ref (g.1 0)), (12, .ref (g.1 0)), (13, .int v13)]) dL_law_674 (by decide) rfl ?_
      refine g_aload_n C0 dL_law_676 rfl 1 rfl ?_
      refine g_bipush C0 (v := (110 : Int32)) dL_law_677 (by decide) ?_
      refine g_iload C0 dL_law_679 13 rfl ?_
      refine g_iadd C0 dL_law_681 ?_
      refine g_iload_n C0 dL_law_682 rfl 4 rfl ?_
      obtain ⟨r53, er53, hf⟩ := hl_bd hf
      refine g_l0i C0 E0 (mL_some l hl0 D cB cC cI cO g ((110 : Int32) + v13) v3 r53 er53) hmL_some q_667 ⟨Nat.le_of_ble_eq_true rfl, Nat.le_of_ble_eq_true rfl⟩ rfl rfl ⟨by omega, by omega⟩ rfl rfl (Nat.le_of_ble_eq_true rfl) dL_law_683 ?_
      refine g_istore C0 (lv' := [(15, .int r53), (14, .int r52), (0, .ref g.2.2.1), (1, .ref L0), (2, .int v2), (3, .int v3), (4, .int v4), (5, .int v5), (6, .int v6), (7, .int v7), (8, .int v8), (9, .int v9), (11, .ref (g.1 0)), (12, .ref (g.1 0)), (13, .int v13)]) dL_law_686 (by decide) rfl ?_
      refine g_aload_n C0 dL_law_688 rfl 3 rfl ?_
      refine g_iload C0 dL_law_689 1 rfl ?_
      refine g_iload C0 dL_law_691 0 rfl ?_
      obtain ⟨r54, er54, hf⟩ := hl_bd hf
      obtain ⟨z55, ez55, hf⟩ := hl_inl hf
      have kr54 := mg_probe l hl0 D cB cC cI cO L0 ua v r52 r53 r54 er54
      rw [ez55] at kr54
      refine g_sufNi C0 E0.1.1 (P := []) (X := labX cB cC cI cO L0 ua v) (X1 := labX cB cC cI cO L0 ua v) (As := [.int r52, .int r53]) (st := []) kr54 hmX6_probe q_364 ⟨Nat.le_of_ble_eq_true rfl, Nat.le_of_ble_eq_true rfl⟩ ⟨by omega, by omega⟩ rfl rfl rfl rfl rfl 0 rfl rfl rfl (Nat.le_of_ble_eq_true rfl) dL_law_693 ?_
      refine g_aload_n C0 dL_law_696 rfl 3 rfl ?_
      refine g_iload C0 dL_law_697 1 rfl ?_
      refine g_iload C0 dL_law_699 0 rfl ?_
      obtain ⟨r56, er56, hf⟩ := hl_bd hf
      refine g_lSi C0 E0 (P := []) (X := labX cB cC cI cO L0 ua v) (X1 := labX cB cC cI cO L0 ua v) (As := [.ref L0, .int r52, .int r53]) (st := [.int z55]) (mL_slot l hl0 D cB cC cI cO g L0 ua v r52 r53 r56 er56) hmL_slot q_820 ⟨Nat.le_of_ble_eq_true rfl, Nat.le_of_ble_eq_true rfl⟩ rfl rfl ⟨by omega, by omega⟩ rfl rfl rfl rfl (Nat.le_of_ble_eq_true rfl) dL_law_701 ?_
      refine g_icmp_ne C0 (tgt := 767) dL_law_704 (by decide) (fun c57 => ?_) (fun c57 => ?_)
      · rw [if_neg c57] at hf
        refine g_iconst C0 (v := (0 : Int32)) dL_law_767 (by decide) ?_
        cases hf
      · rw [if_pos c57] at hf
        refine g_aload_n C0 dL_law_707 rfl 3 rfl ?_
        refine g_iload C0 dL_law_708 1 rfl ?_
        obtain ⟨r58, er58, hf⟩ := hl_bd hf
        obtain ⟨z59, ez59, hf⟩ := hl_inl hf
        have kr58 := mg_probes l hl0 D cB cC cI cO L0 ua v r52 r58 er58
        rw [ez59] at kr58
        refine g_sufNi C0 E0.1.1 (P := []) (X := labX cB cC cI cO L0 ua v) (X1 := labX cB cC cI cO L0 ua v) (As := [.int r52]) (st := []) kr58 hmX6_probes q_412 ⟨Nat.le_of_ble_eq_true rfl, Nat.le_of_ble_eq_true rfl⟩ ⟨by omega, by omega⟩ rfl rfl rfl rfl rfl 0 rfl rfl rfl (Nat.le_of_ble_eq_true rfl) dL_law_710 ?_
        refine g_aload_n C0 dL_law_713 rfl 3 rfl ?_
        refine g_iload C0 dL_law_714 1 rfl ?_
        obtain ⟨r60, er60, hf⟩ := hl_bd hf
        refine g_lSi C0 E0 (P := []) (X := labX cB cC cI cO L0 ua v) (X1 := labX cB cC cI cO L0 ua v) (As := [.ref L0, .int r52]) (st := [.int z59]) (mL_examined l hl0 D cB cC cI cO g L0 ua v r52 r60 er60) hmL_examined q_829 ⟨Nat.le_of_ble_eq_true rfl, Nat.le_of_ble_eq_true rfl⟩ rfl rfl ⟨by omega, by omega⟩ rfl rfl rfl rfl (Nat.le_of_ble_eq_true rfl) dL_law_716 ?_
        refine g_icmp_ne C0 (tgt := 767) dL_law_719 (by decide) (fun c61 => ?_) (fun c61 => ?_)
        · rw [if_neg c61] at hf
          refine g_iconst C0 (v := (0 : Int32)) dL_law_767 (by decide) ?_
          cases hf
        · rw [if_pos c61] at hf
          refine g_aload_n C0 dL_law_722 rfl 3 rfl ?_
          refine g_iload C0 dL_law_723 1 rfl ?_
          obtain ⟨r62, er62, hf⟩ := hl_bd hf
          obtain ⟨z63, ez63, hf⟩ := hl_inl hf
          have kr62 := mg_step l hl0 D cB cC cI cO L0 ua v r52 r62 er62
          rw [ez63] at kr62
          refine g_sufNi C0 E0.1.1 (P := []) (X := labX cB cC cI cO L0 ua v) (X1 := labX cB cC cI cO L0 ua v) (As := [.int r52]) (st := []) kr62 hmX6_step q_406 ⟨Nat.le_of_ble_eq_true rfl, Nat.le_of_ble_eq_true rfl⟩ ⟨by omega, by omega⟩ rfl rfl rfl rfl rfl 0 rfl rfl rfl (Nat.le_of_ble_eq_true rfl) dL_law_725 ?_
          refine g_iconst C0 (v := (2 : Int32)) dL_law_728 (by decide) ?_
          refine g_irem C0 dL_law_729 (by decide) ?_
          refine g_iconst C0 (v := (1 : Int32)) dL_law_730 (by decide) ?_
          refine g_icmp_ne C0 (tgt := 767) dL_law_731 (by decide) (fun c64 => ?_) (fun c64 => ?_)
          · rw [if_neg c64] at hf
            refine g_iconst C0 (v := (0 : Int32)) dL_law_767 (by decide) ?_
            cases hf
          · rw [if_pos c64] at hf
            refine g_aload_n C0 dL_law_734 rfl 3 rfl ?_
            refine g_iload C0 dL_law_735 1 rfl ?_
            obtain ⟨r65, er65, hf⟩ := hl_bd hf
            refine g_sufi C0 (P := []) (X := labX cB cC cI cO L0 ua v) (X1 := labX cB cC cI cO L0 ua v) (As := [.int r52]) (st := []) (mg_contains l D cB cC cI cO L0 ua v r52 r65 er65) hmX6_contains q_237 ⟨Nat.le_of_ble_eq_true rfl, Nat.le_of_ble_eq_true rfl⟩ ⟨by omega, by omega⟩ rfl rfl rfl rfl rfl 0 rfl rfl rfl (Nat.le_of_ble_eq_true rfl) dL_law_737 ?_
            refine g_if_ne C0 (tgt := 769) dL_law_740 (by decide) (fun c66 => ?_) (fun c66 => ?_)
            · rw [if_neg c66] at hf
              refine g_lv [2, 3, 4, 5, 6, 7, 8, 9, 10, 11, 12, 13, 14] (lv' := [(0, .ref g.2.2.1), (1, .ref L0), (2, .int v2), (3, .int v3), (4, .int v4), (5, .int v5), (6, .int v6), (7, .int v7), (8, .int v8), (9, .int v9), (11, .ref (g.1 0)), (12, .ref (g.1 0)), (13, .int v13)]) rfl ?_
              exact bL_law_769_KK C0 E0 hl0 K0 hK0 KE L0 ua out rec15 (fL_law_650 g rec15 n) hrec15 ih   v v2 v3 v4 v5 v6 v7 v8 v9 (kLen 0) (kByt 0) (kLen 0) (kByt 0) v13  _ _ hf (by omega) (by omega)
            · rw [if_pos c66] at hf
              refine g_aload_n C0 dL_law_743 rfl 3 rfl ?_
              refine g_iload C0 dL_law_744 1 rfl ?_
              obtain ⟨r67, er67, hf⟩ := hl_bd hf
              refine g_hSi C0 E0 (P := []) (X := labX cB cC cI cO L0 ua v) (X1 := labX cB cC cI cO L0 ua v) (As := [.ref L0, .int r52]) (st := []) (mL_get l hl0 D cB cC cI cO g L0 ua v r52 r67 er67) hmL_get q_718 ⟨Nat.le_of_ble_eq_true rfl, Nat.le_of_ble_eq_true rfl⟩ rfl rfl ⟨by omega, by omega⟩ rfl rfl rfl rfl (Nat.le_of_ble_eq_true rfl) dL_law_746 ?_
              refine g_sipush C0 (v := (-30000 : Int32)) dL_law_749 (by decide) ?_
              refine g_icmp_ne C0 (tgt := 767) dL_law_752 (by decide) (fun c68 => ?_) (fun c68 => ?_)
              · rw [if_neg c68] at hf
                refine g_iconst C0 (v := (0 : Int32)) dL_law_767 (by decide) ?_
                cases hf
              · rw [if_pos c68] at hf
                refine g_aload_n C0 dL_law_755 rfl 3 rfl ?_
                refine g_iload C0 dL_law_756 1 rfl ?_
                obtain ⟨r69, er69, hf⟩ := hl_bd hf
                refine g_hSi C0 E0 (P := []) (X := labX cB cC cI cO L0 ua v) (X1 := labX cB cC cI cO L0 ua v) (As := [.ref L0, .int r52]) (st := []) (mL_probesBySlot l hl0 D cB cC cI cO g L0 ua v r52 r69 er69) hmL_probesBySlot q_722 ⟨Nat.le_of_ble_eq_true rfl, Nat.le_of_ble_eq_true rfl⟩ rfl rfl ⟨by omega, by omega⟩ rfl rfl rfl rfl (Nat.le_of_ble_eq_true rfl) dL_law_758 ?_
                refine g_sipush C0 (v := (-30000 : Int32)) dL_law_761 (by decide) ?_
                refine g_icmp_eq C0 (tgt := 769) dL_law_764 (by decide) (fun c70 => ?_) (fun c70 => ?_)
                · rw [if_pos c70] at hf
                  refine g_lv [2, 3, 4, 5, 6, 7, 8, 9, 10, 11, 12, 13, 14] (lv' := [(0, .ref g.2.2.1), (1, .ref L0), (2, .int v2), (3, .int v3), (4, .int v4), (5, .int v5), (6, .int v6), (7, .int v7), (8, .int v8), (9, .int v9), (11, .ref (g.1 0)), (12, .ref (g.1 0)), (13, .int v13)]) rfl ?_
                  exact bL_law_769_KK C0 E0 hl0 K0 hK0 KE L0 ua out rec15 (fL_law_650 g rec15 n) hrec15 ih   v v2 v3 v4 v5 v6 v7 v8 v9 (kLen 0) (kByt 0) (kLen 0) (kByt 0) v13  _ _ hf (by omega) (by omega)
                · rw [if_neg c70] at hf
                  refine g_iconst C0 (v := (0 : Int32)) dL_law_767 (by decide) ?_
                  cases hf
set_option maxHeartbeats 8000000 in
set_option maxRecDepth 100000 in
theorem bL_law_590_KK {p : Program} {l : Launch} {e : Env} {s : State} {m : MethodId} {args : Array Value} {below : List Frame} {meth : Method} {c : Code} {D : va_G} {cB cC cI cO : ClassId} {A : Nat → Prop} {g : LG} (C0 : gC RL cL_law 23 (some .boolean) p s m args meth c D (hTy cB cC cI cO) A) (E0 : hLw g A s) (hl0 : l.stackTraces = false) (K0 : Nat → Int32) (hK0 : fJ7_fill_53178 64 (fun _ => 0) (-1 : Int32) = some K0) {Q : State → Prop} (KE : ∀ (lv : List (Nat × Value)) (ws : va_W) (kk nn : Nat), kk ≤ room_1.cells → nn ≤ room_1.slots → gG p l e room_1 s m args below meth c D A 23 Q kk nn 1230 lv [.int 1] ws) (L0 : Nat) (ua : LA) (out : Unit) {B15a B15b : Nat} {B555a B555b : Nat} (rec15 : LV → Int32 → Option (Unit)) (rec555 : LV → Int32 → Int32 → Int32 → Int32 → Int32 → Int32 → Int32 → Int32 → Nat → (Nat → Int32) → Nat → (Nat → Int32) → Int32 → Option (Unit)) (hrec15 : ∀ (v : LV) (v2 : Int32)  (kk nn : Nat), rec15 v v2 = some out → kk + (B15a) ≤ room_1.cells → nn + (B15b) ≤ room_1.slots → gG p l e room_1 s m args below meth c D A 23 Q kk nn 15 [(0, .ref g.2.2.1), (1, .ref L0), (2, .int v2)] [] (List.append [] (labX cB cC cI cO L0 ua v))) (hrec555 : ∀ (v : LV) (v2 : Int32) (v3 : Int32) (v4 : Int32) (v5 : Int32) (v6 : Int32) (v7 : Int32) (v8 : Int32) (v9 : Int32) (_ : Nat) (_ : Nat → Int32) (t12n : Nat) (t12f : Nat → Int32) (v13 : Int32) (a12 w12 : Nat) (f12 : Nat → Int32) (hx12 : ∀ j, j < t12n → f12 j = t12f j) (hc12 : asc t12n f12) (kk nn : Nat), rec555 v v2 v3 v4 v5 v6 v7 v8 v9 (kLen 0) (kByt 0) t12n t12f v13 = some out → kk + (B555a) ≤ room_1.cells → nn + (B555b) ≤ room_1.slots → gG p l e room_1 s m args below meth c D A 23 Q kk nn 555 [(0, .ref g.2.2.1), (1, .ref L0), (2, .int v2), (3, .int v3), (4, .int v4), (5, .int v5), (6, .int v6), (7, .int v7), (8, .int v8), (9, .int v9), (11, .ref (g.1 0)), (12, .ref a12), (13, .int v13)] [] (List.append [(a12, .inr (0, [.ref w12, .int 0, .int 0, .int 0])), (w12, .inl (cB, t12n, .inl f12))] (labX cB cC cI cO L0 ua v))) : ∀ (v : LV) (v2 : Int32) (v3 : Int32) (v4 : Int32) (v5 : Int32) (v6 : Int32) (v7 : Int32) (v8 : Int32) (v9 : Int32) (_ : Nat) (_ : Nat → Int32) (_ : Nat) (_ : Nat → Int32) (v13 : Int32) (v14 : Int32)  (kk nn : Nat), fL_law_590 g rec15 rec555  v v2 v3 v4 v5 v6 v7 v8 v9 (kLen 0) (kByt 0) (kLen 0) (kByt 0) v13 v14 = some out → kk + (10 + B555a) ≤ room_1.cells → nn + (7730 + B555b) ≤ room_1.slots → gG p l e room_1 s m args below meth c D A 23 Q kk nn 590 [(0, .ref g.2.2.1), (1, .ref L0), (2, .int v2), (3, .int v3), (4, .int v4), (5, .int v5), (6, .int v6), (7, .int v7), (8, .int v8), (9, .int v9), (11, .ref (g.1 0)), (12, .ref (g.1 0)), (13, .int v13), (14, .int v14)] [] (List.append [] (labX cB cC cI cO L0 ua v)) := by
  intro v v2 v3 v4 v5 v6 v7 v8 v9 _ _ _ _ v13 v14 kk nn hf hb1 hb2
  unfold fL_law_590 at hf
  refine g_new (ci := 1) (fs := [.null, .int 0, .int 0, .int 0]) C0 hinJ4 tyJ4_ok q_914 q_915 q_31 rfl (fun z hz => hl_dB z hz) (by omega) (by omega) dL_law_590 (fun b71 => ?_)
  refine g_rot ?_
  refine g_eq (ws' := (List.append [(b71, .inr (1, [.null, .int 0, .int 0, .int 0]))] (labX cB cC cI cO L0 ua v))) rfl rfl rfl ?_
  refine g_dup C0 dL_law_593 rfl ?_
  refine g_xIv (ret := none) (X := [(b71, .inr (1, [.null, .int 0, .int 0, .int 0]))]) (pl := labX cB cC cI cO L0 ua v) (wr := []) (As := []) (st := [.ref b71]) (b := b71) C0 jE_ok (xe_of C0 jE_ok E0.1.2) (mJ4_init_da8c8 l D cB cC cI cO b71) hmJ4_init_da8c8 q_916 ⟨Nat.le_of_ble_eq_true rfl, Nat.le_of_ble_eq_true rfl⟩ rfl rfl ⟨by omega, by omega⟩ rfl [0] [] rfl rfl rfl rfl (by decide) rfl rfl (Nat.le_of_ble_eq_true rfl) dL_law_594 (fun w72 => ?_)
  refine g_eq (ws' := (List.append [(b71, .inr (1, [.ref w72, .int 0, .int 0, .int (Int32.ofNat 0)])), (w72, .inl (cB, 16, .inl (fun _ => 0)))] (labX cB cC cI cO L0 ua v))) rfl rfl rfl ?_
  refine g_aload C0 dL_law_597 11 rfl ?_
  obtain ⟨h73, hf⟩ := hl_ifS hf
  refine g_xVr (X := [(b71, .inr (1, [.ref w72, .int 0, .int 0, .int (Int32.ofNat 0)])), (w72, .inl (cB, 16, .inl (fun _ => 0)))]) (pl := labX cB cC cI cO L0 ua v) (wr := []) (As := [.ref (g.1 0)]) (st := []) (b := b71) C0 (jT_ok _ _ _ _) (xe_of C0 (jT_ok _ _ _ _) ⟨E0.1.2, hKt_tx E0.2.1 (by decide : 0 < 6)⟩) (xr_w C0 0 rfl rfl) (mJ4_append_15ec4 l D cB cC cI cO (g.1 0) (g.2.1 0) (kLen 0) (kByt 0) b71 w72 0 0 16 (fun _ => 0) (fun _ => 0) (by omega) (by omega) (kAsc 0 (by decide)) (sbP0 w72)) hmJ4_append_15ec4 q_944 ⟨Nat.le_of_ble_eq_true rfl, Nat.le_of_ble_eq_true rfl⟩ rfl rfl ⟨by omega, by omega⟩ rfl [0, 1] [] rfl rfl rfl rfl (by decide) rfl rfl (Nat.le_of_ble_eq_true rfl) dL_law_599 (fun u74 => ?_)
  refine g_widen (kk1 := kk + 3) (nn1 := nn + 1420) (by omega) (by omega) ?_
  have qu74 : asc (0 + (kLen 0)) (tcat 0 (fun _ => 0) (kByt 0)) := asc_cat (asc0 _) (kAsc 0 (by decide))
  have eu74 : ∀ j, j < 0 + (kLen 0) → (tcat 0 (fun _ => 0) (kByt 0)) j = (tcat 0 (fun _ => 0) (kByt 0)) j := tcat_eq (fun _ _ => rfl) (fun _ _ => rfl)
  refine g_eq (ws' := (List.append [(b71, .inr (1, [.ref u74.1.1, .int 0, .int 0, .int (Int32.ofNat (0 + (kLen 0)))])), (u74.1.1, .inl (cB, u74.1.2.1, .inl u74.1.2.2))] (labX cB cC cI cO L0 ua v))) rfl rfl rfl ?_
  refine g_iload C0 dL_law_602 12 rfl ?_
  refine g_if_le C0 (tgt := 612) dL_law_604 (by decide) (fun c75 => ?_) (fun c75 => ?_)
  · rw [if_pos c75] at hf
    refine g_ldcS C0 (E0.2.1.2 0 (123, "") rfl) dL_law_612 ?_
    obtain ⟨h76, hf⟩ := hl_ifS hf
    refine g_xVr (X := [(b71, .inr (1, [.ref u74.1.1, .int 0, .int 0, .int (Int32.ofNat (0 + (kLen 0)))])), (u74.1.1, .inl (cB, u74.1.2.1, .inl u74.1.2.2))]) (pl := labX cB cC cI cO L0 ua v) (wr := []) (As := [.ref (g.1 0)]) (st := []) (b := b71) C0 (jT_ok _ _ _ _) (xe_of C0 (jT_ok _ _ _ _) ⟨E0.1.2, hKt_tx E0.2.1 (by decide : 0 < 6)⟩) (xr_w C0 0 rfl rfl) (mJ4_append_15ec4 l D cB cC cI cO (g.1 0) (g.2.1 0) (kLen 0) (kByt 0) b71 u74.1.1 0 (0 + (kLen 0)) u74.1.2.1 u74.1.2.2 (tcat 0 (fun _ => 0) (kByt 0)) (by omega) (by omega) (kAsc 0 (by decide)) u74.2) hmJ4_append_15ec4 q_944 ⟨Nat.le_of_ble_eq_true rfl, Nat.le_of_ble_eq_true rfl⟩ rfl rfl ⟨by omega, by omega⟩ rfl [0, 1] [] rfl rfl rfl rfl (by decide) rfl rfl (Nat.le_of_ble_eq_true rfl) dL_law_614 (fun u77 => ?_)
    refine g_widen (kk1 := kk + 4) (nn1 := nn + 2820) (by omega) (by omega) ?_
    have qu77 : asc ((0 + (kLen 0)) + (kLen 0)) (tcat (0 + (kLen 0)) (tcat 0 (fun _ => 0) (kByt 0)) (kByt 0)) := asc_cat qu74 (kAsc 0 (by decide))
    have eu77 : ∀ j, j < (0 + (kLen 0)) + (kLen 0) → (tcat (0 + (kLen 0)) (tcat 0 (fun _ => 0) (kByt 0)) (kByt 0)) j = (tcat (0 + (kLen 0)) (tcat 0 (fun _ => 0) (kByt 0)) (kByt 0)) j := tcat_eq eu74 (fun _ _ => rfl)
    refine g_eq (ws' := (List.append [(b71, .inr (1, [.ref u77.1.1, .int 0, .int 0, .int (Int32.ofNat ((0 + (kLen 0)) + (kLen 0)))])), (u77.1.1, .inl (cB, u77.1.2.1, .inl u77.1.2.2))] (labX cB cC cI cO L0 ua v))) rfl rfl rfl ?_
    refine g_iload C0 dL_law_617 13 rfl ?_
    obtain ⟨h78, hf⟩ := hl_ifS hf
    refine g_xVr (X := [(b71, .inr (1, [.ref u77.1.1, .int 0, .int 0, .int (Int32.ofNat ((0 + (kLen 0)) + (kLen 0)))])), (u77.1.1, .inl (cB, u77.1.2.1, .inl u77.1.2.2))]) (pl := labX cB cC cI cO L0 ua v) (wr := []) (As := [.int v14]) (st := []) (b := b71) C0 jE_ok (xe_of C0 jE_ok E0.1.2) (xr_w C0 0 rfl rfl) (mJ4_append_bf812 l D cB cC cI cO v14 (nLen v14) (nDig v14) b71 u77.1.1 0 ((0 + (kLen 0)) + (kLen 0)) u77.1.2.1 u77.1.2.2 (tcat (0 + (kLen 0)) (tcat 0 (fun _ => 0) (kByt 0)) (kByt 0)) (by omega) (by omega) (numOK_T h78.2) u77.2) hmJ4_append_bf812 q_1039 ⟨Nat.le_of_ble_eq_true rfl, Nat.le_of_ble_eq_true rfl⟩ rfl rfl ⟨by omega, by omega⟩ rfl [0, 1] [] rfl rfl rfl rfl (by decide) rfl rfl (Nat.le_of_ble_eq_true rfl) dL_law_619 (fun u79 => ?_)
    refine g_widen (kk1 := kk + 5) (nn1 := nn + 4220) (by omega) (by omega) ?_
    have qu79 : asc (((0 + (kLen 0)) + (kLen 0)) + (nLen v14)) (tcat ((0 + (kLen 0)) + (kLen 0)) (tcat (0 + (kLen 0)) (tcat 0 (fun _ => 0) (kByt 0)) (kByt 0)) (nDig v14)) := asc_cat qu77 (numOK_asc h78.2)
    have eu79 : ∀ j, j < ((0 + (kLen 0)) + (kLen 0)) + (nLen v14) → (tcat ((0 + (kLen 0)) + (kLen 0)) (tcat (0 + (kLen 0)) (tcat 0 (fun _ => 0) (kByt 0)) (kByt 0)) (nDig v14)) j = (tcat ((0 + (kLen 0)) + (kLen 0)) (tcat (0 + (kLen 0)) (tcat 0 (fun _ => 0) (kByt 0)) (kByt 0)) (nDig v14)) j := tcat_eq eu77 (fun _ _ => rfl)
    refine g_eq (ws' := (List.append [(b71, .inr (1, [.ref u79.1.1, .int 0, .int 0, .int (Int32.ofNat (((0 + (kLen 0)) + (kLen 0)) + (nLen v14)))])), (u79.1.1, .inl (cB, u79.1.2.1, .inl u79.1.2.2))] (labX cB cC cI cO L0 ua v))) rfl rfl rfl ?_
    refine g_ldcS C0 (E0.2.1.2 5 (168, "=") rfl) dL_law_622 ?_
    obtain ⟨h80, hf⟩ := hl_ifS hf
    refine g_xVr (X := [(b71, .inr (1, [.ref u79.1.1, .int 0, .int 0, .int (Int32.ofNat (((0 + (kLen 0)) + (kLen 0)) + (nLen v14)))])), (u79.1.1, .inl (cB, u79.1.2.1, .inl u79.1.2.2))]) (pl := labX cB cC cI cO L0 ua v) (wr := []) (As := [.ref (g.1 5)]) (st := []) (b := b71) C0 (jT_ok _ _ _ _) (xe_of C0 (jT_ok _ _ _ _) ⟨E0.1.2, hKt_tx E0.2.1 (by decide : 5 < 6)⟩) (xr_w C0 0 rfl rfl) (mJ4_append_15ec4 l D cB cC cI cO (g.1 5) (g.2.1 5) (kLen 5) (kByt 5) b71 u79.1.1 0 (((0 + (kLen 0)) + (kLen 0)) + (nLen v14)) u79.1.2.1 u79.1.2.2 (tcat ((0 + (kLen 0)) + (kLen 0)) (tcat (0 + (kLen 0)) (tcat 0 (fun _ => 0) (kByt 0)) (kByt 0)) (nDig v14)) (by omega) (by omega) (kAsc 5 (by decide)) u79.2) hmJ4_append_15ec4 q_944 ⟨Nat.le_of_ble_eq_true rfl, Nat.le_of_ble_eq_true rfl⟩ rfl rfl ⟨by omega, by omega⟩ rfl [0, 1] [] rfl rfl rfl rfl (by decide) rfl rfl (Nat.le_of_ble_eq_true rfl) dL_law_624 (fun u81 => ?_)
    refine g_widen (kk1 := kk + 6) (nn1 := nn + 5620) (by omega) (by omega) ?_
    have qu81 : asc ((((0 + (kLen 0)) + (kLen 0)) + (nLen v14)) + (kLen 5)) (tcat (((0 + (kLen 0)) + (kLen 0)) + (nLen v14)) (tcat ((0 + (kLen 0)) + (kLen 0)) (tcat (0 + (kLen 0)) (tcat 0 (fun _ => 0) (kByt 0)) (kByt 0)) (nDig v14)) (kByt 5)) := asc_cat qu79 (kAsc 5 (by decide))
    have eu81 : ∀ j, j < (((0 + (kLen 0)) + (kLen 0)) + (nLen v14)) + (kLen 5) → (tcat (((0 + (kLen 0)) + (kLen 0)) + (nLen v14)) (tcat ((0 + (kLen 0)) + (kLen 0)) (tcat (0 + (kLen 0)) (tcat 0 (fun _ => 0) (kByt 0)) (kByt 0)) (nDig v14)) (kByt 5)) j = (tcat (((0 + (kLen 0)) + (kLen 0)) + (nLen v14)) (tcat ((0 + (kLen 0)) + (kLen 0)) (tcat (0 + (kLen 0)) (tcat 0 (fun _ => 0) (kByt 0)) (kByt 0)) (nDig v14)) (kByt 5)) j := tcat_eq eu79 (fun _ _ => rfl)
    refine g_eq (ws' := (List.append [(b71, .inr (1, [.ref u81.1.1, .int 0, .int 0, .int (Int32.ofNat ((((0 + (kLen 0)) + (kLen 0)) + (nLen v14)) + (kLen 5)))])), (u81.1.1, .inl (cB, u81.1.2.1, .inl u81.1.2.2))] (labX cB cC cI cO L0 ua v))) rfl rfl rfl ?_
    refine g_aload_n C0 dL_law_627 rfl 1 rfl ?_
    refine g_iload C0 dL_law_628 13 rfl ?_
    obtain ⟨r82, er82, hf⟩ := hl_bd hf
    obtain ⟨z83, ez83, hf⟩ := hl_inl hf
    have kr82 := mg_get l hl0 D cB cC cI cO L0 ua v v14 r82 er82
    rw [ez83] at kr82
    refine g_sufNi C0 E0.1.1 (P := [(b71, .inr (1, [.ref u81.1.1, .int 0, .int 0, .int (Int32.ofNat ((((0 + (kLen 0)) + (kLen 0)) + (nLen v14)) + (kLen 5)))])), (u81.1.1, .inl (cB, u81.1.2.1, .inl u81.1.2.2))]) (X := labX cB cC cI cO L0 ua v) (X1 := labX cB cC cI cO L0 ua v) (As := [.int v14]) (st := [.ref b71]) kr82 hmX6_get q_281 ⟨Nat.le_of_ble_eq_true rfl, Nat.le_of_ble_eq_true rfl⟩ ⟨by omega, by omega⟩ rfl rfl rfl rfl rfl 0 rfl rfl rfl (Nat.le_of_ble_eq_true rfl) dL_law_630 ?_
    obtain ⟨h84, hf⟩ := hl_ifS hf
    refine g_xVr (X := [(b71, .inr (1, [.ref u81.1.1, .int 0, .int 0, .int (Int32.ofNat ((((0 + (kLen 0)) + (kLen 0)) + (nLen v14)) + (kLen 5)))])), (u81.1.1, .inl (cB, u81.1.2.1, .inl u81.1.2.2))]) (pl := labX cB cC cI cO L0 ua v) (wr := []) (As := [.int z83]) (st := []) (b := b71) C0 jE_ok (xe_of C0 jE_ok E0.1.2) (xr_w C0 0 rfl rfl) (mJ4_append_bf812 l D cB cC cI cO z83 (nLen z83) (nDig z83) b71 u81.1.1 0 ((((0 + (kLen 0)) + (kLen 0)) + (nLen v14)) + (kLen 5)) u81.1.2.1 u81.1.2.2 (tcat (((0 + (kLen 0)) + (kLen 0)) + (nLen v14)) (tcat ((0 + (kLen 0)) + (kLen 0)) (tcat (0 + (kLen 0)) (tcat 0 (fun _ => 0) (kByt 0)) (kByt 0)) (nDig v14)) (kByt 5)) (by omega) (by omega) (numOK_T h84.2) u81.2) hmJ4_append_bf812 q_1039 ⟨Nat.le_of_ble_eq_true rfl, Nat.le_of_ble_eq_true rfl⟩ rfl rfl ⟨by omega, by omega⟩ rfl [0, 1] [] rfl rfl rfl rfl (by decide) rfl rfl (Nat.le_of_ble_eq_true rfl) dL_law_633 (fun u85 => ?_)
    refine g_widen (kk1 := kk + 8) (nn1 := nn + 7026) (by omega) (by omega) ?_
    have qu85 : asc (((((0 + (kLen 0)) + (kLen 0)) + (nLen v14)) + (kLen 5)) + (nLen z83)) (tcat ((((0 + (kLen 0)) + (kLen 0)) + (nLen v14)) + (kLen 5)) (tcat (((0 + (kLen 0)) + (kLen 0)) + (nLen v14)) (tcat ((0 + (kLen 0)) + (kLen 0)) (tcat (0 + (kLen 0)) (tcat 0 (fun _ => 0) (kByt 0)) (kByt 0)) (nDig v14)) (kByt 5)) (nDig z83)) := asc_cat qu81 (numOK_asc h84.2)
    have eu85 : ∀ j, j < ((((0 + (kLen 0)) + (kLen 0)) + (nLen v14)) + (kLen 5)) + (nLen z83) → (tcat ((((0 + (kLen 0)) + (kLen 0)) + (nLen v14)) + (kLen 5)) (tcat (((0 + (kLen 0)) + (kLen 0)) + (nLen v14)) (tcat ((0 + (kLen 0)) + (kLen 0)) (tcat (0 + (kLen 0)) (tcat 0 (fun _ => 0) (kByt 0)) (kByt 0)) (nDig v14)) (kByt 5)) (nDig z83)) j = (tcat ((((0 + (kLen 0)) + (kLen 0)) + (nLen v14)) + (kLen 5)) (tcat (((0 + (kLen 0)) + (kLen 0)) + (nLen v14)) (tcat ((0 + (kLen 0)) + (kLen 0)) (tcat (0 + (kLen 0)) (tcat 0 (fun _ => 0) (kByt 0)) (kByt 0)) (nDig v14)) (kByt 5)) (nDig z83)) j := tcat_eq eu81 (fun _ _ => rfl)
    refine g_eq (ws' := (List.append [(b71, .inr (1, [.ref u85.1.1, .int 0, .int 0, .int (Int32.ofNat (((((0 + (kLen 0)) + (kLen 0)) + (nLen v14)) + (kLen 5)) + (nLen z83)))])), (u85.1.1, .inl (cB, u85.1.2.1, .inl u85.1.2.2))] (labX cB cC cI cO L0 ua v))) rfl rfl rfl ?_
    refine g_xVr (X := [(b71, .inr (1, [.ref u85.1.1, .int 0, .int 0, .int (Int32.ofNat (((((0 + (kLen 0)) + (kLen 0)) + (nLen v14)) + (kLen 5)) + (nLen z83)))])), (u85.1.1, .inl (cB, u85.1.2.1, .inl u85.1.2.2))]) (pl := labX cB cC cI cO L0 ua v) (wr := []) (As := []) (st := []) (b := b71) C0 jE_ok (xe_of C0 jE_ok E0.1.2) (xr_w C0 0 rfl rfl) (mJ4_toString_0e30d l D cB cC cI cO b71 u85.1.1 0 (((((0 + (kLen 0)) + (kLen 0)) + (nLen v14)) + (kLen 5)) + (nLen z83)) u85.1.2.1 u85.1.2.2 (tcat ((((0 + (kLen 0)) + (kLen 0)) + (nLen v14)) + (kLen 5)) (tcat (((0 + (kLen 0)) + (kLen 0)) + (nLen v14)) (tcat ((0 + (kLen 0)) + (kLen 0)) (tcat (0 + (kLen 0)) (tcat 0 (fun _ => 0) (kByt 0)) (kByt 0)) (nDig v14)) (kByt 5)) (nDig z83)) (by omega) u85.2) hmJ4_toString_0e30d q_1064 ⟨Nat.le_of_ble_eq_true rfl, Nat.le_of_ble_eq_true rfl⟩ rfl rfl ⟨by omega, by omega⟩ rfl [0, 1] [] rfl rfl rfl rfl (by decide) rfl rfl (Nat.le_of_ble_eq_true rfl) dL_law_636 (fun u86 => ?_)
    refine g_widen (kk1 := kk + 10) (nn1 := nn + 7730) (by omega) (by omega) ?_
    obtain ⟨⟨tau86, twu86, tfu86⟩, hfitu86, hyu86⟩ := u86
    have hxu86 : ∀ j, j < (((((0 + (kLen 0)) + (kLen 0)) + (nLen v14)) + (kLen 5)) + (nLen z83)) → tfu86 j = (tcat ((((0 + (kLen 0)) + (kLen 0)) + (nLen v14)) + (kLen 5)) (tcat (((0 + (kLen 0)) + (kLen 0)) + (nLen v14)) (tcat ((0 + (kLen 0)) + (kLen 0)) (tcat (0 + (kLen 0)) (tcat 0 (fun _ => 0) (kByt 0)) (kByt 0)) (nDig v14)) (kByt 5)) (nDig z83)) j := fun j hj => (hyu86 j hj).trans (eu85 j hj)
    have hcu86 : asc (((((0 + (kLen 0)) + (kLen 0)) + (nLen v14)) + (kLen 5)) + (nLen z83)) tfu86 := asc_of hyu86 qu85
    refine g_ordP (P' := [(tau86, .inr (0, [.ref twu86, .int 0, .int 0, .int 0])), (twu86, .inl (cB, (((((0 + (kLen 0)) + (kLen 0)) + (nLen v14)) + (kLen 5)) + (nLen z83)), .inl tfu86))]) (X := labX cB cC cI cO L0 ua v) [2, 3] rfl rfl rfl ?_
    refine g_eq (st' := [.ref tau86]) (ws' := (List.append [(tau86, .inr (0, [.ref twu86, .int 0, .int 0, .int 0])), (twu86, .inl (cB, (((((0 + (kLen 0)) + (kLen 0)) + (nLen v14)) + (kLen 5)) + (nLen z83)), .inl tfu86))] (labX cB cC cI cO L0 ua v))) rfl rfl rfl ?_
    refine g_astore C0 (lv' := [(12, .ref tau86), (0, .ref g.2.2.1), (1, .ref L0), (2, .int v2), (3, .int v3), (4, .int v4), (5, .int v5), (6, .int v6), (7, .int v7), (8, .int v8), (9, .int v9), (11, .ref (g.1 0)), (13, .int v13), (14, .int v14)]) dL_law_639 (by decide) rfl ?_
    refine g_iinc C0 (lv' := [(13, .int (v13 + (1 : Int32))), (12, .ref tau86), (0, .ref g.2.2.1), (1, .ref L0), (2, .int v2), (3, .int v3), (4, .int v4), (5, .int v5), (6, .int v6), (7, .int v7), (8, .int v8), (9, .int v9), (11, .ref (g.1 0)), (14, .int v14)]) dL_law_641 12 rfl rfl (by decide) rfl ?_
    refine g_goto C0 (tgt := 555) dL_law_644 (by decide) ?_
    refine g_lv [2, 3, 4, 5, 6, 7, 8, 9, 10, 11, 12, 1, 0] (lv' := [(0, .ref g.2.2.1), (1, .ref L0), (2, .int v2), (3, .int v3), (4, .int v4), (5, .int v5), (6, .int v6), (7, .int v7), (8, .int v8), (9, .int v9), (11, .ref (g.1 0)), (12, .ref tau86), (13, .int (v13 + (1 : Int32)))]) rfl ?_
    exact hrec555 v v2 v3 v4 v5 v6 v7 v8 v9 (kLen 0) (kByt 0) (((((0 + (kLen 0)) + (kLen 0)) + (nLen v14)) + (kLen 5)) + (nLen z83)) (tcat ((((0 + (kLen 0)) + (kLen 0)) + (nLen v14)) + (kLen 5)) (tcat (((0 + (kLen 0)) + (kLen 0)) + (nLen v14)) (tcat ((0 + (kLen 0)) + (kLen 0)) (tcat (0 + (kLen 0)) (tcat 0 (fun _ => 0) (kByt 0)) (kByt 0)) (nDig v14)) (kByt 5)) (nDig z83)) (v13 + (1 : Int32)) tau86 twu86 tfu86 hxu86 hcu86 _ _ hf (by omega) (by omega)
  · rw [if_neg c75] at hf
    refine g_ldcS C0 (E0.2.1.2 4 (166, ",") rfl) dL_law_607 ?_
    refine g_goto C0 (tgt := 614) dL_law_609 (by decide) ?_
    obtain ⟨h87, hf⟩ := hl_ifS hf
    refine g_xVr (X := [(b71, .inr (1, [.ref u74.1.1, .int 0, .int 0, .int (Int32.ofNat (0 + (kLen 0)))])), (u74.1.1, .inl (cB, u74.1.2.1, .inl u74.1.2.2))]) (pl := labX cB cC cI cO L0 ua v) (wr := []) (As := [.ref (g.1 4)]) (st := []) (b := b71) C0 (jT_ok _ _ _ _) (xe_of C0 (jT_ok _ _ _ _) ⟨E0.1.2, hKt_tx E0.2.1 (by decide : 4 < 6)⟩) (xr_w C0 0 rfl rfl) (mJ4_append_15ec4 l D cB cC cI cO (g.1 4) (g.2.1 4) (kLen 4) (kByt 4) b71 u74.1.1 0 (0 + (kLen 0)) u74.1.2.1 u74.1.2.2 (tcat 0 (fun _ => 0) (kByt 0)) (by omega) (by omega) (kAsc 4 (by decide)) u74.2) hmJ4_append_15ec4 q_944 ⟨Nat.le_of_ble_eq_true rfl, Nat.le_of_ble_eq_true rfl⟩ rfl rfl ⟨by omega, by omega⟩ rfl [0, 1] [] rfl rfl rfl rfl (by decide) rfl rfl (Nat.le_of_ble_eq_true rfl) dL_law_614 (fun u88 => ?_)
    refine g_widen (kk1 := kk + 4) (nn1 := nn + 2820) (by omega) (by omega) ?_
    have qu88 : asc ((0 + (kLen 0)) + (kLen 4)) (tcat (0 + (kLen 0)) (tcat 0 (fun _ => 0) (kByt 0)) (kByt 4)) := asc_cat qu74 (kAsc 4 (by decide))
    have eu88 : ∀ j, j < (0 + (kLen 0)) + (kLen 4) → (tcat (0 + (kLen 0)) (tcat 0 (fun _ => 0) (kByt 0)) (kByt 4)) j = (tcat (0 + (kLen 0)) (tcat 0 (fun _ => 0) (kByt 0)) (kByt 4)) j := tcat_eq eu74 (fun _ _ => rfl)
    refine g_eq (ws' := (List.append [(b71, .inr (1, [.ref u88.1.1, .int 0, .int 0, .int (Int32.ofNat ((0 + (kLen 0)) + (kLen 4)))])), (u88.1.1, .inl (cB, u88.1.2.1, .inl u88.1.2.2))] (labX cB cC cI cO L0 ua v))) rfl rfl rfl ?_
    refine g_iload C0 dL_law_617 13 rfl ?_
    obtain ⟨h89, hf⟩ := hl_ifS hf
    refine g_xVr (X := [(b71, .inr (1, [.ref u88.1.1, .int 0, .int 0, .int (Int32.ofNat ((0 + (kLen 0)) + (kLen 4)))])), (u88.1.1, .inl (cB, u88.1.2.1, .inl u88.1.2.2))]) (pl := labX cB cC cI cO L0 ua v) (wr := []) (As := [.int v14]) (st := []) (b := b71) C0 jE_ok (xe_of C0 jE_ok E0.1.2) (xr_w C0 0 rfl rfl) (mJ4_append_bf812 l D cB cC cI cO v14 (nLen v14) (nDig v14) b71 u88.1.1 0 ((0 + (kLen 0)) + (kLen 4)) u88.1.2.1 u88.1.2.2 (tcat (0 + (kLen 0)) (tcat 0 (fun _ => 0) (kByt 0)) (kByt 4)) (by omega) (by omega) (numOK_T h89.2) u88.2) hmJ4_append_bf812 q_1039 ⟨Nat.le_of_ble_eq_true rfl, Nat.le_of_ble_eq_true rfl⟩ rfl rfl ⟨by omega, by omega⟩ rfl [0, 1] [] rfl rfl rfl rfl (by decide) rfl rfl (Nat.le_of_ble_eq_true rfl) dL_law_619 (fun u90 => ?_)
    refine g_widen (kk1 := kk + 5) (nn1 := nn + 4220) (by omega) (by omega) ?_
    have qu90 : asc (((0 + (kLen 0)) + (kLen 4)) + (nLen v14)) (tcat ((0 + (kLen 0)) + (kLen 4)) (tcat (0 + (kLen 0)) (tcat 0 (fun _ => 0) (kByt 0)) (kByt 4)) (nDig v14)) := asc_cat qu88 (numOK_asc h89.2)
    have eu90 : ∀ j, j < ((0 + (kLen 0)) + (kLen 4)) + (nLen v14) → (tcat ((0 + (kLen 0)) + (kLen 4)) (tcat (0 + (kLen 0)) (tcat 0 (fun _ => 0) (kByt 0)) (kByt 4)) (nDig v14)) j = (tcat ((0 + (kLen 0)) + (kLen 4)) (tcat (0 + (kLen 0)) (tcat 0 (fun _ => 0) (kByt 0)) (kByt 4)) (nDig v14)) j := tcat_eq eu88 (fun _ _ => rfl)
    refine g_eq (ws' := (List.append [(b71, .inr (1, [.ref u90.1.1, .int 0, .int 0, .int (Int32.ofNat (((0 + (kLen 0)) + (kLen 4)) + (nLen v14)))])), (u90.1.1, .inl (cB, u90.1.2.1, .inl u90.1.2.2))] (labX cB cC cI cO L0 ua v))) rfl rfl rfl ?_
    refine g_ldcS C0 (E0.2.1.2 5 (168, "=") rfl) dL_law_622 ?_
    obtain ⟨h91, hf⟩ := hl_ifS hf
    refine g_xVr (X := [(b71, .inr (1, [.ref u90.1.1, .int 0, .int 0, .int (Int32.ofNat (((0 + (kLen 0)) + (kLen 4)) + (nLen v14)))])), (u90.1.1, .inl (cB, u90.1.2.1, .inl u90.1.2.2))]) (pl := labX cB cC cI cO L0 ua v) (wr := []) (As := [.ref (g.1 5)]) (st := []) (b := b71) C0 (jT_ok _ _ _ _) (xe_of C0 (jT_ok _ _ _ _) ⟨E0.1.2, hKt_tx E0.2.1 (by decide : 5 < 6)⟩) (xr_w C0 0 rfl rfl) (mJ4_append_15ec4 l D cB cC cI cO (g.1 5) (g.2.1 5) (kLen 5) (kByt 5) b71 u90.1.1 0 (((0 + (kLen 0)) + (kLen 4)) + (nLen v14)) u90.1.2.1 u90.1.2.2 (tcat ((0 + (kLen 0)) + (kLen 4)) (tcat (0 + (kLen 0)) (tcat 0 (fun _ => 0) (kByt 0)) (kByt 4)) (nDig v14)) (by omega) (by omega) (kAsc 5 (by decide)) u90.2) hmJ4_append_15ec4 q_944 ⟨Nat.le_of_ble_eq_true rfl, Nat.le_of_ble_eq_true rfl⟩ rfl rfl ⟨by omega, by omega⟩ rfl [0, 1] [] rfl rfl rfl rfl (by decide) rfl rfl (Nat.le_of_ble_eq_true rfl) dL_law_624 (fun u92 => ?_)
    refine g_widen (kk1 := kk + 6) (nn1 := nn + 5620) (by omega) (by omega) ?_
    have qu92 : asc ((((0 + (kLen 0)) + (kLen 4)) + (nLen v14)) + (kLen 5)) (tcat (((0 + (kLen 0)) + (kLen 4)) + (nLen v14)) (tcat ((0 + (kLen 0)) + (kLen 4)) (tcat (0 + (kLen 0)) (tcat 0 (fun _ => 0) (kByt 0)) (kByt 4)) (nDig v14)) (kByt 5)) := asc_cat qu90 (kAsc 5 (by decide))
    have eu92 : ∀ j, j < (((0 + (kLen 0)) + (kLen 4)) + (nLen v14)) + (kLen 5) → (tcat (((0 + (kLen 0)) + (kLen 4)) + (nLen v14)) (tcat ((0 + (kLen 0)) + (kLen 4)) (tcat (0 + (kLen 0)) (tcat 0 (fun _ => 0) (kByt 0)) (kByt 4)) (nDig v14)) (kByt 5)) j = (tcat (((0 + (kLen 0)) + (kLen 4)) + (nLen v14)) (tcat ((0 + (kLen 0)) + (kLen 4)) (tcat (0 + (kLen 0)) (tcat 0 (fun _ => 0) (kByt 0)) (kByt 4)) (nDig v14)) (kByt 5)) j := tcat_eq eu90 (fun _ _ => rfl)
    refine g_eq (ws' := (List.append [(b71, .inr (1, [.ref u92.1.1, .int 0, .int 0, .int (Int32.ofNat ((((0 + (kLen 0)) + (kLen 4)) + (nLen v14)) + (kLen 5)))])), (u92.1.1, .inl (cB, u92.1.2.1, .inl u92.1.2.2))] (labX cB cC cI cO L0 ua v))) rfl rfl rfl ?_
    refine g_aload_n C0 dL_law_627 rfl 1 rfl ?_
    refine g_iload C0 dL_law_628 13 rfl ?_
    obtain ⟨r93, er93, hf⟩ := hl_bd hf
    obtain ⟨z94, ez94, hf⟩ := hl_inl hf
    have kr93 := mg_get l hl0 D cB cC cI cO L0 ua v v14 r93 er93
    rw [ez94] at kr93
    refine g_sufNi C0 E0.1.1 (P := [(b71, .inr (1, [.ref u92.1.1, .int 0, .int 0, .int (Int32.ofNat ((((0 + (kLen 0)) + (kLen 4)) + (nLen v14)) + (kLen 5)))])), (u92.1.1, .inl (cB, u92.1.2.1, .inl u92.1.2.2))]) (X := labX cB cC cI cO L0 ua v) (X1 := labX cB cC cI cO L0 ua v) (As := [.int v14]) (st := [.ref b71]) kr93 hmX6_get q_281 ⟨Nat.le_of_ble_eq_true rfl, Nat.le_of_ble_eq_true rfl⟩ ⟨by omega, by omega⟩ rfl rfl rfl rfl rfl 0 rfl rfl rfl (Nat.le_of_ble_eq_true rfl) dL_law_630 ?_
    obtain ⟨h95, hf⟩ := hl_ifS hf
    refine g_xVr (X := [(b71, .inr (1, [.ref u92.1.1, .int 0, .int 0, .int (Int32.ofNat ((((0 + (kLen 0)) + (kLen 4)) + (nLen v14)) + (kLen 5)))])), (u92.1.1, .inl (cB, u92.1.2.1, .inl u92.1.2.2))]) (pl := labX cB cC cI cO L0 ua v) (wr := []) (As := [.int z94]) (st := []) (b := b71) C0 jE_ok (xe_of C0 jE_ok E0.1.2) (xr_w C0 0 rfl rfl) (mJ4_append_bf812 l D cB cC cI cO z94 (nLen z94) (nDig z94) b71 u92.1.1 0 ((((0 + (kLen 0)) + (kLen 4)) + (nLen v14)) + (kLen 5)) u92.1.2.1 u92.1.2.2 (tcat (((0 + (kLen 0)) + (kLen 4)) + (nLen v14)) (tcat ((0 + (kLen 0)) + (kLen 4)) (tcat (0 + (kLen 0)) (tcat 0 (fun _ => 0) (kByt 0)) (kByt 4)) (nDig v14)) (kByt 5)) (by omega) (by omega) (numOK_T h95.2) u92.2) hmJ4_append_bf812 q_1039 ⟨Nat.le_of_ble_eq_true rfl, Nat.le_of_ble_eq_true rfl⟩ rfl rfl ⟨by omega, by omega⟩ rfl [0, 1] [] rfl rfl rfl rfl (by decide) rfl rfl (Nat.le_of_ble_eq_true rfl) dL_law_633 (fun u96 => ?_)
    refine g_widen (kk1 := kk + 8) (nn1 := nn + 7026) (by omega) (by omega) ?_
    have qu96 : asc (((((0 + (kLen 0)) + (kLen 4)) + (nLen v14)) + (kLen 5)) + (nLen z94)) (tcat ((((0 + (kLen 0)) + (kLen 4)) + (nLen v14)) + (kLen 5)) (tcat (((0 + (kLen 0)) + (kLen 4)) + (nLen v14)) (tcat ((0 + (kLen 0)) + (kLen 4)) (tcat (0 + (kLen 0)) (tcat 0 (fun _ => 0) (kByt 0)) (kByt 4)) (nDig v14)) (kByt 5)) (nDig z94)) := asc_cat qu92 (numOK_asc h95.2)
    have eu96 : ∀ j, j < ((((0 + (kLen 0)) + (kLen 4)) + (nLen v14)) + (kLen 5)) + (nLen z94) → (tcat ((((0 + (kLen 0)) + (kLen 4)) + (nLen v14)) + (kLen 5)) (tcat (((0 + (kLen 0)) + (kLen 4)) + (nLen v14)) (tcat ((0 + (kLen 0)) + (kLen 4)) (tcat (0 + (kLen 0)) (tcat 0 (fun _ => 0) (kByt 0)) (kByt 4)) (nDig v14)) (kByt 5)) (nDig z94)) j = (tcat ((((0 + (kLen 0)) + (kLen 4)) + (nLen v14)) + (kLen 5)) (tcat (((0 + (kLen 0)) + (kLen 4)) + (nLen v14)) (tcat ((0 + (kLen 0)) + (kLen 4)) (tcat (0 + (kLen 0)) (tcat 0 (fun _ => 0) (kByt 0)) (kByt 4)) (nDig v14)) (kByt 5)) (nDig z94)) j := tcat_eq eu92 (fun _ _ => rfl)
    refine g_eq (ws' := (List.append [(b71, .inr (1, [.ref u96.1.1, .int 0, .int 0, .int (Int32.ofNat (((((0 + (kLen 0)) + (kLen 4)) + (nLen v14)) + (kLen 5)) + (nLen z94)))])), (u96.1.1, .inl (cB, u96.1.2.1, .inl u96.1.2.2))] (labX cB cC cI cO L0 ua v))) rfl rfl rfl ?_
    refine g_xVr (X := [(b71, .inr (1, [.ref u96.1.1, .int 0, .int 0, .int (Int32.ofNat (((((0 + (kLen 0)) + (kLen 4)) + (nLen v14)) + (kLen 5)) + (nLen z94)))])), (u96.1.1, .inl (cB, u96.1.2.1, .inl u96.1.2.2))]) (pl := labX cB cC cI cO L0 ua v) (wr := []) (As := []) (st := []) (b := b71) C0 jE_ok (xe_of C0 jE_ok E0.1.2) (xr_w C0 0 rfl rfl) (mJ4_toString_0e30d l D cB cC cI cO b71 u96.1.1 0 (((((0 + (kLen 0)) + (kLen 4)) + (nLen v14)) + (kLen 5)) + (nLen z94)) u96.1.2.1 u96.1.2.2 (tcat ((((0 + (kLen 0)) + (kLen 4)) + (nLen v14)) + (kLen 5)) (tcat (((0 + (kLen 0)) + (kLen 4)) + (nLen v14)) (tcat ((0 + (kLen 0)) + (kLen 4)) (tcat (0 + (kLen 0)) (tcat 0 (fun _ => 0) (kByt 0)) (kByt 4)) (nDig v14)) (kByt 5)) (nDig z94)) (by omega) u96.2) hmJ4_toString_0e30d q_1064 ⟨Nat.le_of_ble_eq_true rfl, Nat.le_of_ble_eq_true rfl⟩ rfl rfl ⟨by omega, by omega⟩ rfl [0, 1] [] rfl rfl rfl rfl (by decide) rfl rfl (Nat.le_of_ble_eq_true rfl) dL_law_636 (fun u97 => ?_)
    refine g_widen (kk1 := kk + 10) (nn1 := nn + 7730) (by omega) (by omega) ?_
    obtain ⟨⟨tau97, twu97, tfu97⟩, hfitu97, hyu97⟩ := u97
    have hxu97 : ∀ j, j < (((((0 + (kLen 0)) + (kLen 4)) + (nLen v14)) + (kLen 5)) + (nLen z94)) → tfu97 j = (tcat ((((0 + (kLen 0)) + (kLen 4)) + (nLen v14)) + (kLen 5)) (tcat (((0 + (kLen 0)) + (kLen 4)) + (nLen v14)) (tcat ((0 + (kLen 0)) + (kLen 4)) (tcat (0 + (kLen 0)) (tcat 0 (fun _ => 0) (kByt 0)) (kByt 4)) (nDig v14)) (kByt 5)) (nDig z94)) j := fun j hj => (hyu97 j hj).trans (eu96 j hj)
    have hcu97 : asc (((((0 + (kLen 0)) + (kLen 4)) + (nLen v14)) + (kLen 5)) + (nLen z94)) tfu97 := asc_of hyu97 qu96
    refine g_ordP (P' := [(tau97, .inr (0, [.ref twu97, .int 0, .int 0, .int 0])), (twu97, .inl (cB, (((((0 + (kLen 0)) + (kLen 4)) + (nLen v14)) + (kLen 5)) + (nLen z94)), .inl tfu97))]) (X := labX cB cC cI cO L0 ua v) [2, 3] rfl rfl rfl ?_
    refine g_eq (st' := [.ref tau97]) (ws' := (List.append [(tau97, .inr (0, [.ref twu97, .int 0, .int 0, .int 0])), (twu97, .inl (cB, (((((0 + (kLen 0)) + (kLen 4)) + (nLen v14)) + (kLen 5)) + (nLen z94)), .inl tfu97))] (labX cB cC cI cO L0 ua v))) rfl rfl rfl ?_
    refine g_astore C0 (lv' := [(12, .ref tau97), (0, .ref g.2.2.1), (1, .ref L0), (2, .int v2), (3, .int v3), (4, .int v4), (5, .int v5), (6, .int v6), (7, .int v7), (8, .int v8), (9, .int v9), (11, .ref (g.1 0)), (13, .int v13), (14, .int v14)]) dL_law_639 (by decide) rfl ?_
    refine g_iinc C0 (lv' := [(13, .int (v13 + (1 : Int32))), (12, .ref tau97), (0, .ref g.2.2.1), (1, .ref L0), (2, .int v2), (3, .int v3), (4, .int v4), (5, .int v5), (6, .int v6), (7, .int v7), (8, .int v8), (9, .int v9), (11, .ref (g.1 0)), (14, .int v14)]) dL_law_641 12 rfl rfl (by decide) rfl ?_
    refine g_goto C0 (tgt := 555) dL_law_644 (by decide) ?_
    refine g_lv [2, 3, 4, 5, 6, 7, 8, 9, 10, 11, 12, 1, 0] (lv' := [(0, .ref g.2.2.1), (1, .ref L0), (2, .int v2), (3, .int v3), (4, .int v4), (5, .int v5), (6, .int v6), (7, .int v7), (8, .int v8), (9, .int v9), (11, .ref (g.1 0)), (12, .ref tau97), (13, .int (v13 + (1 : Int32)))]) rfl ?_
    exact hrec555 v v2 v3 v4 v5 v6 v7 v8 v9 (kLen 0) (kByt 0) (((((0 + (kLen 0)) + (kLen 4)) + (nLen v14)) + (kLen 5)) + (nLen z94)) (tcat ((((0 + (kLen 0)) + (kLen 4)) + (nLen v14)) + (kLen 5)) (tcat (((0 + (kLen 0)) + (kLen 4)) + (nLen v14)) (tcat ((0 + (kLen 0)) + (kLen 4)) (tcat (0 + (kLen 0)) (tcat 0 (fun _ => 0) (kByt 0)) (kByt 4)) (nDig v14)) (kByt 5)) (nDig z94)) (v13 + (1 : Int32)) tau97 twu97 tfu97 hxu97 hcu97 _ _ hf (by omega) (by omega)
set_option maxHeartbeats 8000000 in
set_option maxRecDepth 100000 in
theorem bL_law_555_KK {p : Program} {l : Launch} {e : Env} {s : State} {m : MethodId} {args : Array Value} {below : List Frame} {meth : Method} {c : Code} {D : va_G} {cB cC cI cO : ClassId} {A : Nat → Prop} {g : LG} (C0 : gC RL cL_law 23 (some .boolean) p s m args meth c D (hTy cB cC cI cO) A) (E0 : hLw g A s) (hl0 : l.stackTraces = false) (K0 : Nat → Int32) (hK0 : fJ7_fill_53178 64 (fun _ => 0) (-1 : Int32) = some K0) {Q : State → Prop} (KE : ∀ (lv : List (Nat × Value)) (ws : va_W) (kk nn : Nat), kk ≤ room_1.cells → nn ≤ room_1.slots → gG p l e room_1 s m args below meth c D A 23 Q kk nn 1230 lv [.int 1] ws) (L0 : Nat) (ua : LA) (out : Unit) {B15a B15b : Nat} (rec15 : LV → Int32 → Option (Unit)) (hrec15 : ∀ (v : LV) (v2 : Int32)  (kk nn : Nat), rec15 v v2 = some out → kk + (B15a) ≤ room_1.cells → nn + (B15b) ≤ room_1.slots → gG p l e room_1 s m args below meth c D A 23 Q kk nn 15 [(0, .ref g.2.2.1), (1, .ref L0), (2, .int v2)] [] (List.append [] (labX cB cC cI cO L0 ua v))) : ∀ (n : Nat) (v : LV) (v2 : Int32) (v3 : Int32) (v4 : Int32) (v5 : Int32) (v6 : Int32) (v7 : Int32) (v8 : Int32) (v9 : Int32) (_ : Nat) (_ : Nat → Int32) (_ : Nat) (_ : Nat → Int32) (v13 : Int32)  (kk nn : Nat), fL_law_555 g rec15 n v v2 v3 v4 v5 v6 v7 v8 v9 (kLen 0) (kByt 0) (kLen 0) (kByt 0) v13 = some out → kk + (n * 12 + (3272 + B15a)) ≤ room_1.cells → nn + (n * 7742 + (34456 + B15b)) ≤ room_1.slots → gG p l e room_1 s m args below meth c D A 23 Q kk nn 555 [(0, .ref g.2.2.1), (1, .ref L0), (2, .int v2), (3, .int v3), (4, .int v4), (5, .int v5), (6, .int v6), (7, .int v7), (8, .int v8), (9, .int v9), (11, .ref (g.1 0)), (12, .ref (g.1 0)), (13, .int v13)] [] (List.append [] (labX cB cC cI cO L0 ua v)) := by
  intro n
  cases n with
  | zero => intro v v2 v3 v4 v5 v6 v7 v8 v9 _ _ _ _ v13 kk nn hf hb1 hb2; rw [fL_law_555] at hf; cases hf
  | succ n =>
    intro v v2 v3 v4 v5 v6 v7 v8 v9 _ _ _ _ v13 kk nn hf hb1 hb2
    have ih := bL_law_555_KW C0 E0 hl0 K0 hK0 KE L0 ua out rec15 hrec15 n
    rw [fL_law_555] at hf
    refine g_iload C0 dL_law_555 12 rfl ?_
    refine g_iload C0 dL_law_557 4 rfl ?_
    refine g_icmp_ge C0 (tgt := 647) dL_law_559 (by decide) (fun c14 => ?_) (fun c14 => ?_)
    · rw [if_pos c14] at hf
      refine g_iconst C0 (v := (0 : Int32)) dL_law_647 (by decide) ?_
      refine g_istore C0 (lv' := [(13, .int (0 : Int32)), (0, .ref g.2.2.1), (1, .ref L0), (2, .int v2), (3, .int v3), (4, .int v4), (5, .int v5), (6, .int v6), (7, .int v7), (8, .int v8), (9, .int v9), (11, .ref (g.1 0)), (12, .ref (g.1 0))]) dL_law_648 (by decide) rfl ?_
      refine g_lv [1, 2, 3, 4, 5, 6, 7, 8, 9, 10, 11, 12, 0] (lv' := [(0, .ref g.2.2.1), (1, .ref L0), (2, .int v2), (3, .int v3), (4, .int v4), (5, .int v5), (6, .int v6), (7, .int v7), (8, .int v8), (9, .int v9), (11, .ref (g.1 0)), (12, .ref (g.1 0)), (13, .int (0 : Int32))]) rfl ?_
      exact bL_law_650_KK C0 E0 hl0 K0 hK0 KE L0 ua out rec15 hrec15  7  v v2 v3 v4 v5 v6 v7 v8 v9 (kLen 0) (kByt 0) (kLen 0) (kByt 0) (0 : Int32)  _ _ hf (by omega) (by omega)
    · rw [if_neg c14] at hf
      refine g_aload_n C0 dL_law_562 rfl 1 rfl ?_
      refine g_iload C0 dL_law_563 12 rfl ?_
      obtain ⟨r15, er15, hf⟩ := hl_bd hf
      obtain ⟨z16, ez16, hf⟩ := hl_inl hf
      have kr15 := mg_keyAt l hl0 D cB cC cI cO L0 ua v v13 r15 er15
      rw [ez16] at kr15
      refine g_sufNi C0 E0.1.1 (P := []) (X := labX cB cC cI cO L0 ua v) (X1 := labX cB cC cI cO L0 ua v) (As := [.int v13]) (st := []) kr15 hmX6_keyAt q_425 ⟨Nat.le_of_ble_eq_true rfl, Nat.le_of_ble_eq_true rfl⟩ ⟨by omega, by omega⟩ rfl rfl rfl rfl rfl 0 rfl rfl rfl (Nat.le_of_ble_eq_true rfl) dL_law_565 ?_
      refine g_istore C0 (lv' := [(14, .int z16), (0, .ref g.2.2.1), (1, .ref L0), (2, .int v2), (3, .int v3), (4, .int v4), (5, .int v5), (6, .int v6), (7, .int v7), (8, .int v8), (9, .int v9), (11, .ref (g.1 0)), (12, .ref (g.1 0)), (13, .int v13)]) dL_law_568 (by decide) rfl ?_
      refine g_iload C0 dL_law_570 13 rfl ?_
      refine g_if_le C0 (tgt := 590) dL_law_572 (by decide) (fun c17 => ?_) (fun c17 => ?_)
      · rw [if_pos c17] at hf
        refine g_lv [1, 2, 3, 4, 5, 6, 7, 8, 9, 10, 11, 12, 13, 0] (lv' := [(0, .ref g.2.2.1), (1, .ref L0), (2, .int v2), (3, .int v3), (4, .int v4), (5, .int v5), (6, .int v6), (7, .int v7), (8, .int v8), (9, .int v9), (11, .ref (g.1 0)), (12, .ref (g.1 0)), (13, .int v13), (14, .int z16)]) rfl ?_
        exact bL_law_590_KK C0 E0 hl0 K0 hK0 KE L0 ua out rec15 (fL_law_555 g rec15 n) hrec15 ih   v v2 v3 v4 v5 v6 v7 v8 v9 (kLen 0) (kByt 0) (kLen 0) (kByt 0) v13 z16  _ _ hf (by omega) (by omega)
      · rw [if_neg c17] at hf
        refine g_iload C0 dL_law_575 0 rfl ?_
        refine g_aload_n C0 dL_law_577 rfl 2 rfl ?_
        refine g_iload C0 dL_law_578 13 rfl ?_
        refine g_iconst C0 (v := (1 : Int32)) dL_law_580 (by decide) ?_
        refine g_isub C0 dL_law_581 ?_
        obtain ⟨r18, er18, hf⟩ := hl_bd hf
        obtain ⟨z19, ez19, hf⟩ := hl_inl hf
        have kr18 := mg_keyAt l hl0 D cB cC cI cO L0 ua v (v13 - (1 : Int32)) r18 er18
        rw [ez19] at kr18
        refine g_sufNi C0 E0.1.1 (P := []) (X := labX cB cC cI cO L0 ua v) (X1 := labX cB cC cI cO L0 ua v) (As := [.int (v13 - (1 : Int32))]) (st := [.int z16]) kr18 hmX6_keyAt q_425 ⟨Nat.le_of_ble_eq_true rfl, Nat.le_of_ble_eq_true rfl⟩ ⟨by omega, by omega⟩ rfl rfl rfl rfl rfl 0 rfl rfl rfl (Nat.le_of_ble_eq_true rfl) dL_law_582 ?_
        refine g_icmp_gt C0 (tgt := 590) dL_law_585 (by decide) (fun c20 => ?_) (fun c20 => ?_)
        · rw [if_pos c20] at hf
          refine g_lv [1, 2, 3, 4, 5, 6, 7, 8, 9, 10, 11, 12, 13, 0] (lv' := [(0, .ref g.2.2.1), (1, .ref L0), (2, .int v2), (3, .int v3), (4, .int v4), (5, .int v5), (6, .int v6), (7, .int v7), (8, .int v8), (9, .int v9), (11, .ref (g.1 0)), (12, .ref (g.1 0)), (13, .int v13), (14, .int z16)]) rfl ?_
          exact bL_law_590_KK C0 E0 hl0 K0 hK0 KE L0 ua out rec15 (fL_law_555 g rec15 n) hrec15 ih   v v2 v3 v4 v5 v6 v7 v8 v9 (kLen 0) (kByt 0) (kLen 0) (kByt 0) v13 z16  _ _ hf (by omega) (by omega)
        · rw [if_neg c20] at hf
          refine g_iconst C0 (v := (0 : Int32)) dL_law_588 (by decide) ?_
          cases hf
set_option maxHeartbeats 8000000 in
set_option maxRecDepth 100000 in
theorem bL_law_546_WK {p : Program} {l : Launch} {e : Env} {s : State} {m : MethodId} {args : Array Value} {below : List Frame} {meth : Method} {c : Code} {D : va_G} {cB cC cI cO : ClassId} {A : Nat → Prop} {g : LG} (C0 : gC RL cL_law 23 (some .boolean) p s m args meth c D (hTy cB cC cI cO) A) (E0 : hLw g A s) (hl0 : l.stackTraces = false) (K0 : Nat → Int32) (hK0 : fJ7_fill_53178 64 (fun _ => 0) (-1 : Int32) = some K0) {Q : State → Prop} (KE : ∀ (lv : List (Nat × Value)) (ws : va_W) (kk nn : Nat), kk ≤ room_1.cells → nn ≤ room_1.slots → gG p l e room_1 s m args below meth c D A 23 Q kk nn 1230 lv [.int 1] ws) (L0 : Nat) (ua : LA) (out : Unit) {B15a B15b : Nat} {B59a B59b : Nat} (rec15 : LV → Int32 → Option (Unit)) (rec59 : LV → Int32 → Int32 → Int32 → Int32 → Int32 → Int32 → Int32 → Int32 → Int32 → Nat → (Nat → Int32) → Nat → (Nat → Int32) → Int32 → Option (Unit)) (hrec15 : ∀ (v : LV) (v2 : Int32)  (kk nn : Nat), rec15 v v2 = some out → kk + (B15a) ≤ room_1.cells → nn + (B15b) ≤ room_1.slots → gG p l e room_1 s m args below meth c D A 23 Q kk nn 15 [(0, .ref g.2.2.1), (1, .ref L0), (2, .int v2)] [] (List.append [] (labX cB cC cI cO L0 ua v))) (hrec59 : ∀ (v : LV) (v2 : Int32) (v3 : Int32) (v4 : Int32) (v5 : Int32) (v6 : Int32) (v7 : Int32) (v8 : Int32) (v9 : Int32) (v10 : Int32) (t11n : Nat) (t11f : Nat → Int32) (_ : Nat) (_ : Nat → Int32) (v13 : Int32) (a11 w11 : Nat) (f11 : Nat → Int32) (hx11 : ∀ j, j < t11n → f11 j = t11f j) (hc11 : asc t11n f11) (kk nn : Nat), rec59 v v2 v3 v4 v5 v6 v7 v8 v9 v10 t11n t11f (kLen 0) (kByt 0) v13 = some out → kk + (B59a) ≤ room_1.cells → nn + (B59b) ≤ room_1.slots → gG p l e room_1 s m args below meth c D A 23 Q kk nn 59 [(0, .ref g.2.2.1), (1, .ref L0), (2, .int v2), (3, .int v3), (4, .int v4), (5, .int v5), (6, .int v6), (7, .int v7), (8, .int v8), (9, .int v9), (10, .int v10), (11, .ref a11), (12, .ref (g.1 0)), (13, .int v13)] [] (List.append [(a11, .inr (0, [.ref w11, .int 0, .int 0, .int 0])), (w11, .inl (cB, t11n, .inl f11))] (labX cB cC cI cO L0 ua v))) : ∀ (v : LV) (v2 : Int32) (v3 : Int32) (v4 : Int32) (v5 : Int32) (v6 : Int32) (v7 : Int32) (v8 : Int32) (v9 : Int32) (v10 : Int32) (t11n : Nat) (t11f : Nat → Int32) (_ : Nat) (_ : Nat → Int32) (v13 : Int32) (a11 w11 : Nat) (f11 : Nat → Int32) (hx11 : ∀ j, j < t11n → f11 j = t11f j) (hc11 : asc t11n f11) (kk nn : Nat), fL_law_546 g rec15 rec59  v v2 v3 v4 v5 v6 v7 v8 v9 v10 t11n t11f (kLen 0) (kByt 0) v13 = some out → kk + (0 + B59a) ≤ room_1.cells → nn + (0 + B59b) ≤ room_1.slots → gG p l e room_1 s m args below meth c D A 23 Q kk nn 546 [(0, .ref g.2.2.1), (1, .ref L0), (2, .int v2), (3, .int v3), (4, .int v4), (5, .int v5), (6, .int v6), (7, .int v7), (8, .int v8), (9, .int v9), (10, .int v10), (11, .ref a11), (12, .ref (g.1 0)), (13, .int v13)] [] (List.append [(a11, .inr (0, [.ref w11, .int 0, .int 0, .int 0])), (w11, .inl (cB, t11n, .inl f11))] (labX cB cC cI cO L0 ua v)) := by
  intro v v2 v3 v4 v5 v6 v7 v8 v9 v10 t11n t11f _ _ v13 a11 w11 f11 hx11 hc11 kk nn hf hb1 hb2
  unfold fL_law_546 at hf
  refine g_iinc C0 (lv' := [(13, .int (v13 + (1 : Int32))), (0, .ref g.2.2.1), (1, .ref L0), (2, .int v2), (3, .int v3), (4, .int v4), (5, .int v5), (6, .int v6), (7, .int v7), (8, .int v8), (9, .int v9), (10, .int v10), (11, .ref a11), (12, .ref (g.1 0))]) dL_law_546 13 rfl rfl (by decide) rfl ?_
  refine g_goto C0 (tgt := 59) dL_law_549 (by decide) ?_
  refine g_lv [1, 2, 3, 4, 5, 6, 7, 8, 9, 10, 11, 12, 13, 0] (lv' := [(0, .ref g.2.2.1), (1, .ref L0), (2, .int v2), (3, .int v3), (4, .int v4), (5, .int v5), (6, .int v6), (7, .int v7), (8, .int v8), (9, .int v9), (10, .int v10), (11, .ref a11), (12, .ref (g.1 0)), (13, .int (v13 + (1 : Int32)))]) rfl ?_
  exact hrec59 v v2 v3 v4 v5 v6 v7 v8 v9 v10 t11n t11f (kLen 0) (kByt 0) (v13 + (1 : Int32)) a11 w11 f11 hx11 hc11 _ _ hf (by omega) (by omega)
set_option maxHeartbeats 8000000 in
set_option maxRecDepth 100000 in
theorem bL_law_476_WK {p : Program} {l : Launch} {e : Env} {s : State} {m : MethodId} {args : Array Value} {below : List Frame} {meth : Method} {c : Code} {D : va_G} {cB cC cI cO : ClassId} {A : Nat → Prop} {g : LG} (C0 : gC RL cL_law 23 (some .boolean) p s m args meth c D (hTy cB cC cI cO) A) (E0 : hLw g A s) (hl0 : l.stackTraces = false) (K0 : Nat → Int32) (hK0 : fJ7_fill_53178 64 (fun _ => 0) (-1 : Int32) = some K0) {Q : State → Prop} (KE : ∀ (lv : List (Nat × Value)) (ws : va_W) (kk nn : Nat), kk ≤ room_1.cells → nn ≤ room_1.slots → gG p l e room_1 s m args below meth c D A 23 Q kk nn 1230 lv [.int 1] ws) (L0 : Nat) (ua : LA) (out : Unit) {B15a B15b : Nat} {B59a B59b : Nat} (rec15 : LV → Int32 → Option (Unit)) (rec59 : LV → Int32 → Int32 → Int32 → Int32 → Int32 → Int32 → Int32 → Int32 → Int32 → Nat → (Nat → Int32) → Nat → (Nat → Int32) → Int32 → Option (Unit)) (hrec15 : ∀ (v : LV) (v2 : Int32)  (kk nn : Nat), rec15 v v2 = some out → kk + (B15a) ≤ room_1.cells → nn + (B15b) ≤ room_1.slots → gG p l e room_1 s m args below meth c D A 23 Q kk nn 15 [(0, .ref g.2.2.1), (1, .ref L0), (2, .int v2)] [] (List.append [] (labX cB cC cI cO L0 ua v))) (hrec59 : ∀ (v : LV) (v2 : Int32) (v3 : Int32) (v4 : Int32) (v5 : Int32) (v6 : Int32) (v7 : Int32) (v8 : Int32) (v9 : Int32) (v10 : Int32) (t11n : Nat) (t11f : Nat → Int32) (_ : Nat) (_ : Nat → Int32) (v13 : Int32) (a11 w11 : Nat) (f11 : Nat → Int32) (hx11 : ∀ j, j < t11n → f11 j = t11f j) (hc11 : asc t11n f11) (kk nn : Nat), rec59 v v2 v3 v4 v5 v6 v7 v8 v9 v10 t11n t11f (kLen 0) (kByt 0) v13 = some out → kk + (B59a) ≤ room_1.cells → nn + (B59b) ≤ room_1.slots → gG p l e room_1 s m args below meth c D A 23 Q kk nn 59 [(0, .ref g.2.2.1), (1, .ref L0), (2, .int v2), (3, .int v3), (4, .int v4), (5, .int v5), (6, .int v6), (7, .int v7), (8, .int v8), (9, .int v9), (10, .int v10), (11, .ref a11), (12, .ref (g.1 0)), (13, .int v13)] [] (List.append [(a11, .inr (0, [.ref w11, .int 0, .int 0, .int 0])), (w11, .inl (cB, t11n, .inl f11))] (labX cB cC cI cO L0 ua v))) : ∀ (v : LV) (v2 : Int32) (v3 : Int32) (v4 : Int32) (v5 : Int32) (v6 : Int32) (v7 : Int32) (v8 : Int32) (v10 : Int32) (t11n : Nat) (t11f : Nat → Int32) (_ : Nat) (_ : Nat → Int32) (v13 : Int32) (v14 : Int32) (v18 : Int32) (k0 : Int32) (a11 w11 : Nat) (f11 : Nat → Int32) (hx11 : ∀ j, j < t11n → f11 j = t11f j) (hc11 : asc t11n f11) (kk nn : Nat), fL_law_476 g rec15 rec59  v v2 v3 v4 v5 v6 v7 v8 v10 t11n t11f (kLen 0) (kByt 0) v13 v14 v18 k0 = some out → kk + (3 + B59a) ≤ room_1.cells → nn + (18 + B59b) ≤ room_1.slots → gG p l e room_1 s m args below meth c D A 23 Q kk nn 476 [(0, .ref g.2.2.1), (1, .ref L0), (2, .int v2), (3, .int v3), (4, .int v4), (5, .int v5), (6, .int v6), (7, .int v7), (8, .int v8), (10, .int v10), (11, .ref a11), (12, .ref (g.1 0)), (13, .int v13), (14, .int v14), (18, .int v18)] [.int k0] (List.append [(a11, .inr (0, [.ref w11, .int 0, .int 0, .int 0])), (w11, .inl (cB, t11n, .inl f11))] (labX cB cC cI cO L0 ua v)) := by
  intro v v2 v3 v4 v5 v6 v7 v8 v10 t11n t11f _ _ v13 v14 v18 k0 a11 w11 f11 hx11 hc11 kk nn hf hb1 hb2
  unfold fL_law_476 at hf
  refine g_istore C0 (lv' := [(9, .int k0), (0, .ref g.2.2.1), (1, .ref L0), (2, .int v2), (3, .int v3), (4, .int v4), (5, .int v5), (6, .int v6), (7, .int v7), (8, .int v8), (10, .int v10), (11, .ref a11), (12, .ref (g.1 0)), (13, .int v13), (14, .int v14), (18, .int v18)]) dL_law_476 (by decide) rfl ?_
  refine g_iload C0 dL_law_478 10 rfl ?_
  refine g_iload C0 dL_law_480 15 rfl ?_
  refine g_mmax C0 q_912 q_476 q_22 q_477 (Nat.le_of_ble_eq_true rfl) ⟨by omega, by omega⟩ (Nat.le_of_ble_eq_true rfl) dL_law_482 ?_
  refine g_istore C0 (lv' := [(10, .int (if v10 < v18 then v18 else v10)), (9, .int k0), (0, .ref g.2.2.1), (1, .ref L0), (2, .int v2), (3, .int v3), (4, .int v4), (5, .int v5), (6, .int v6), (7, .int v7), (8, .int v8), (11, .ref a11), (12, .ref (g.1 0)), (13, .int v13), (14, .int v14), (18, .int v18)]) dL_law_485 (by decide) rfl ?_
  refine g_aload_n C0 dL_law_487 rfl 3 rfl ?_
  refine g_iload C0 dL_law_488 14 rfl ?_
  obtain ⟨r319, er319, hf⟩ := hl_bd hf
  obtain ⟨z320, ez320, hf⟩ := hl_inl hf
  have kr319 := mg_slotOf l hl0 D cB cC cI cO L0 ua v v14 r319 er319
  rw [ez320] at kr319
  refine g_sufNi C0 E0.1.1 (P := [(a11, .inr (0, [.ref w11, .int 0, .int 0, .int 0])), (w11, .inl (cB, t11n, .inl f11))]) (X := labX cB cC cI cO L0 ua v) (X1 := labX cB cC cI cO L0 ua v) (As := [.int v14]) (st := []) kr319 hmX6_slotOf q_360 ⟨Nat.le_of_ble_eq_true rfl, Nat.le_of_ble_eq_true rfl⟩ ⟨by omega, by omega⟩ rfl rfl rfl rfl rfl 0 rfl rfl rfl (Nat.le_of_ble_eq_true rfl) dL_law_490 ?_
  refine g_iload C0 dL_law_493 13 rfl ?_
  refine g_icmp_ne C0 (tgt := 544) dL_law_495 (by decide) (fun c321 => ?_) (fun c321 => ?_)
  · rw [if_neg c321] at hf
    refine g_iconst C0 (v := (0 : Int32)) dL_law_544 (by decide) ?_
    cases hf
  · rw [if_pos c321] at hf
    refine g_aload_n C0 dL_law_498 rfl 3 rfl ?_
    refine g_iload C0 dL_law_499 14 rfl ?_
    refine g_iload C0 dL_law_501 15 rfl ?_
    refine g_iconst C0 (v := (1 : Int32)) dL_law_503 (by decide) ?_
    refine g_isub C0 dL_law_504 ?_
    obtain ⟨r322, er322, hf⟩ := hl_bd hf
    refine g_lSi C0 E0 (P := [(a11, .inr (0, [.ref w11, .int 0, .int 0, .int 0])), (w11, .inl (cB, t11n, .inl f11))]) (X := labX cB cC cI cO L0 ua v) (X1 := labX cB cC cI cO L0 ua v) (As := [.ref L0, .int v14, .int (v18 - (1 : Int32))]) (st := []) (mL_slot l hl0 D cB cC cI cO g L0 ua v v14 (v18 - (1 : Int32)) r322 er322) hmL_slot q_820 ⟨Nat.le_of_ble_eq_true rfl, Nat.le_of_ble_eq_true rfl⟩ rfl rfl ⟨by omega, by omega⟩ rfl rfl rfl rfl (Nat.le_of_ble_eq_true rfl) dL_law_505 ?_
    refine g_iload C0 dL_law_508 13 rfl ?_
    refine g_icmp_ne C0 (tgt := 544) dL_law_510 (by decide) (fun c323 => ?_) (fun c323 => ?_)
    · rw [if_neg c323] at hf
      refine g_iconst C0 (v := (0 : Int32)) dL_law_544 (by decide) ?_
      cases hf
    · rw [if_pos c323] at hf
      refine g_aload_n C0 dL_law_513 rfl 3 rfl ?_
      refine g_iload C0 dL_law_514 14 rfl ?_
      obtain ⟨r324, er324, hf⟩ := hl_bd hf
      obtain ⟨z325, ez325, hf⟩ := hl_inl hf
      have kr324 := mg_probes l hl0 D cB cC cI cO L0 ua v v14 r324 er324
      rw [ez325] at kr324
      refine g_sufNi C0 E0.1.1 (P := [(a11, .inr (0, [.ref w11, .int 0, .int 0, .int 0])), (w11, .inl (cB, t11n, .inl f11))]) (X := labX cB cC cI cO L0 ua v) (X1 := labX cB cC cI cO L0 ua v) (As := [.int v14]) (st := []) kr324 hmX6_probes q_412 ⟨Nat.le_of_ble_eq_true rfl, Nat.le_of_ble_eq_true rfl⟩ ⟨by omega, by omega⟩ rfl rfl rfl rfl rfl 0 rfl rfl rfl (Nat.le_of_ble_eq_true rfl) dL_law_516 ?_
      refine g_iload C0 dL_law_519 15 rfl ?_
      refine g_icmp_ne C0 (tgt := 544) dL_law_521 (by decide) (fun c326 => ?_) (fun c326 => ?_)
      · rw [if_neg c326] at hf
        refine g_iconst C0 (v := (0 : Int32)) dL_law_544 (by decide) ?_
        cases hf
      · rw [if_pos c326] at hf
        refine g_aload_n C0 dL_law_524 rfl 3 rfl ?_
        refine g_iload C0 dL_law_525 14 rfl ?_
        obtain ⟨r327, er327, hf⟩ := hl_bd hf
        obtain ⟨z328, ez328, hf⟩ := hl_inl hf
        have kr327 := mg_probesBySlot l hl0 D cB cC cI cO L0 ua v v14 r327 er327
        rw [ez328] at kr327
        refine g_sufNi C0 E0.1.1 (P := [(a11, .inr (0, [.ref w11, .int 0, .int 0, .int 0])), (w11, .inl (cB, t11n, .inl f11))]) (X := labX cB cC cI cO L0 ua v) (X1 := labX cB cC cI cO L0 ua v) (As := [.int v14]) (st := []) kr327 hmX6_probesBySlot q_417 ⟨Nat.le_of_ble_eq_true rfl, Nat.le_of_ble_eq_true rfl⟩ ⟨by omega, by omega⟩ rfl rfl rfl rfl rfl 0 rfl rfl rfl (Nat.le_of_ble_eq_true rfl) dL_law_527 ?_
        refine g_iload C0 dL_law_530 15 rfl ?_
        refine g_icmp_ne C0 (tgt := 544) dL_law_532 (by decide) (fun c329 => ?_) (fun c329 => ?_)
        · rw [if_neg c329] at hf
          refine g_iconst C0 (v := (0 : Int32)) dL_law_544 (by decide) ?_
          cases hf
        · rw [if_pos c329] at hf
          refine g_aload_n C0 dL_law_535 rfl 3 rfl ?_
          refine g_iload C0 dL_law_536 14 rfl ?_
          obtain ⟨r330, er330, hf⟩ := hl_bd hf
          refine g_sufi C0 (P := [(a11, .inr (0, [.ref w11, .int 0, .int 0, .int 0])), (w11, .inl (cB, t11n, .inl f11))]) (X := labX cB cC cI cO L0 ua v) (X1 := labX cB cC cI cO L0 ua v) (As := [.int v14]) (st := []) (mg_contains l D cB cC cI cO L0 ua v v14 r330 er330) hmX6_contains q_237 ⟨Nat.le_of_ble_eq_true rfl, Nat.le_of_ble_eq_true rfl⟩ ⟨by omega, by omega⟩ rfl rfl rfl rfl rfl 0 rfl rfl rfl (Nat.le_of_ble_eq_true rfl) dL_law_538 ?_
          refine g_if_ne C0 (tgt := 546) dL_law_541 (by decide) (fun c331 => ?_) (fun c331 => ?_)
          · rw [if_neg c331] at hf
            refine g_lv [2, 3, 4, 5, 6, 7, 8, 9, 10, 1, 0, 11, 12, 13] (lv' := [(0, .ref g.2.2.1), (1, .ref L0), (2, .int v2), (3, .int v3), (4, .int v4), (5, .int v5), (6, .int v6), (7, .int v7), (8, .int v8), (9, .int k0), (10, .int (if v10 < v18 then v18 else v10)), (11, .ref a11), (12, .ref (g.1 0)), (13, .int v13)]) rfl ?_
            exact bL_law_546_WK C0 E0 hl0 K0 hK0 KE L0 ua out rec15 rec59 hrec15 hrec59   v v2 v3 v4 v5 v6 v7 v8 k0 (if v10 < v18 then v18 else v10) t11n t11f (kLen 0) (kByt 0) v13 a11 w11 f11 hx11 hc11 _ _ hf (by omega) (by omega)
          · rw [if_pos c331] at hf
            refine g_iconst C0 (v := (0 : Int32)) dL_law_544 (by decide) ?_
            cases hf
