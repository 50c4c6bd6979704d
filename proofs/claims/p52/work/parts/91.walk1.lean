/-! the law, walked: 1 -/
def ascB (n : Nat) (f : Nat → Int32) : Prop := n ≤ 700 ∧ asc n f
set_option maxHeartbeats 8000000 in
set_option maxRecDepth 100000 in
theorem bL_law_1171 {p : Program} {l : Launch} {e : Env} {s : State} {m : MethodId} {args : Array Value} {below : List Frame} {meth : Method} {c : Code} {D : va_G} {cB cC cI cO : ClassId} {A : Nat → Prop} {g : LG} (C0 : gC RL cL_law 23 (some .boolean) p s m args meth c D (hTy cB cC cI cO) A) (E0 : hLw g A s) (hl0 : l.stackTraces = false) (K0 : Nat → Int32) (hK0 : fJ7_fill_53178 64 (fun _ => 0) (-1 : Int32) = some K0) {Q : State → Prop} (KE : ∀ (lv : List (Nat × Value)) (ws : va_W) (kk nn : Nat), kk ≤ room_1.cells → nn ≤ room_1.slots → gG p l e room_1 s m args below meth c D A 23 Q kk nn 1230 lv [.int 1] ws) (L0 : Nat) (ua : LA) (out : Unit) {B15a B15b : Nat} {B1019a B1019b : Nat} (rec15 : LV → Int32 → Option (Unit)) (rec1019 : LV → Int32 → Int32 → Int32 → Int32 → Int32 → Int32 → Option (Unit)) (hrec15 : ∀ (v : LV) (v2 : Int32)  (kk nn : Nat), rec15 v v2 = some out → kk + (B15a) ≤ room_1.cells → nn + (B15b) ≤ room_1.slots → gG p l e room_1 s m args below meth c D A 23 Q kk nn 15 [(0, .ref g.2.2.1), (1, .ref L0), (2, .int v2)] [] (List.append [] (labX cB cC cI cO L0 ua v))) (hrec1019 : ∀ (v : LV) (v2 : Int32) (v13 : Int32) (v14 : Int32) (v15 : Int32) (v16 : Int32) (v17 : Int32)  (kk nn : Nat), rec1019 v v2 v13 v14 v15 v16 v17 = some out → kk + (B1019a) ≤ room_1.cells → nn + (B1019b) ≤ room_1.slots → gG p l e room_1 s m args below meth c D A 23 Q kk nn 1019 [(0, .ref g.2.2.1), (1, .ref L0), (2, .int v2), (13, .int v13), (14, .int v14), (15, .int v15), (16, .int v16), (17, .int v17)] [] (List.append [] (labX cB cC cI cO L0 ua v))) : ∀ (v : LV) (v2 : Int32) (v13 : Int32) (v14 : Int32) (v15 : Int32) (v17 : Int32) (v21 : Int32) (k0 : Int32)  (kk nn : Nat), fL_law_1171 g K0 rec15 rec1019  v v2 v13 v14 v15 v17 v21 k0 = some out → kk + (1 + B1019a) ≤ room_1.cells → nn + (6 + B1019b) ≤ room_1.slots → gG p l e room_1 s m args below meth c D A 23 Q kk nn 1171 [(0, .ref g.2.2.1), (1, .ref L0), (2, .int v2), (13, .int v13), (14, .int v14), (15, .int v15), (17, .int v17), (21, .int v21)] [.int k0] (List.append [] (labX cB cC cI cO L0 ua v)) := by
  intro v v2 v13 v14 v15 v17 v21 k0 kk nn hf hb1 hb2
  unfold fL_law_1171 at hf
  refine g_istore C0 (lv' := [(16, .int k0), (0, .ref g.2.2.1), (1, .ref L0), (2, .int v2), (13, .int v13), (14, .int v14), (15, .int v15), (17, .int v17), (21, .int v21)]) dL_law_1171 (by decide) rfl ?_
  refine g_aload_n C0 dL_law_1173 rfl 2 rfl ?_
  refine g_iload C0 dL_law_1174 7 rfl ?_
  refine g_iload C0 dL_law_1176 4 rfl ?_
  refine g_iload C0 dL_law_1178 5 rfl ?_
  obtain ⟨r264, er264, hf⟩ := hl_bd hf
  obtain ⟨z265, ez265, hf⟩ := hl_inl hf
  have kr264 := mg_trial l hl0 D cB cC cI cO L0 ua v v17 v13 v14 r264 er264
  rw [ez265] at kr264
  refine g_sufNi C0 E0.1.1 (P := []) (X := labX cB cC cI cO L0 ua v) (X1 := labX cB cC cI cO L0 ua r264.2) (As := [.int v17, .int v13, .int v14]) (st := []) kr264 hmX6_trial q_545 ⟨Nat.le_of_ble_eq_true rfl, Nat.le_of_ble_eq_true rfl⟩ ⟨by omega, by omega⟩ rfl rfl rfl rfl rfl 0 rfl rfl rfl (Nat.le_of_ble_eq_true rfl) dL_law_1180 ?_
  refine g_iload C0 dL_law_1183 8 rfl ?_
  refine g_icmp_eq C0 (tgt := 1190) dL_law_1185 (by decide) (fun c266 => ?_) (fun c266 => ?_)
  · rw [if_pos c266] at hf
    refine g_iinc C0 (lv' := [(17, .int (v17 + (1 : Int32))), (16, .int k0), (0, .ref g.2.2.1), (1, .ref L0), (2, .int v2), (13, .int v13), (14, .int v14), (15, .int v15), (21, .int v21)]) dL_law_1190 7 rfl rfl (by decide) rfl ?_
    refine g_goto C0 (tgt := 1019) dL_law_1193 (by decide) ?_
    refine g_lv [2, 3, 4, 5, 6, 7, 1, 0] (lv' := [(0, .ref g.2.2.1), (1, .ref L0), (2, .int v2), (13, .int v13), (14, .int v14), (15, .int v15), (16, .int k0), (17, .int (v17 + (1 : Int32)))]) rfl ?_
    exact hrec1019 r264.2 v2 v13 v14 v15 k0 (v17 + (1 : Int32))  _ _ hf (by omega) (by omega)
  · rw [if_neg c266] at hf
    refine g_iconst C0 (v := (0 : Int32)) dL_law_1188 (by decide) ?_
    cases hf
set_option maxHeartbeats 8000000 in
set_option maxRecDepth 100000 in
theorem bL_law_1152 {p : Program} {l : Launch} {e : Env} {s : State} {m : MethodId} {args : Array Value} {below : List Frame} {meth : Method} {c : Code} {D : va_G} {cB cC cI cO : ClassId} {A : Nat → Prop} {g : LG} (C0 : gC RL cL_law 23 (some .boolean) p s m args meth c D (hTy cB cC cI cO) A) (E0 : hLw g A s) (hl0 : l.stackTraces = false) (K0 : Nat → Int32) (hK0 : fJ7_fill_53178 64 (fun _ => 0) (-1 : Int32) = some K0) {Q : State → Prop} (KE : ∀ (lv : List (Nat × Value)) (ws : va_W) (kk nn : Nat), kk ≤ room_1.cells → nn ≤ room_1.slots → gG p l e room_1 s m args below meth c D A 23 Q kk nn 1230 lv [.int 1] ws) (L0 : Nat) (ua : LA) (out : Unit) {B15a B15b : Nat} {B1019a B1019b : Nat} (rec15 : LV → Int32 → Option (Unit)) (rec1019 : LV → Int32 → Int32 → Int32 → Int32 → Int32 → Int32 → Option (Unit)) (hrec15 : ∀ (v : LV) (v2 : Int32)  (kk nn : Nat), rec15 v v2 = some out → kk + (B15a) ≤ room_1.cells → nn + (B15b) ≤ room_1.slots → gG p l e room_1 s m args below meth c D A 23 Q kk nn 15 [(0, .ref g.2.2.1), (1, .ref L0), (2, .int v2)] [] (List.append [] (labX cB cC cI cO L0 ua v))) (hrec1019 : ∀ (v : LV) (v2 : Int32) (v13 : Int32) (v14 : Int32) (v15 : Int32) (v16 : Int32) (v17 : Int32)  (kk nn : Nat), rec1019 v v2 v13 v14 v15 v16 v17 = some out → kk + (B1019a) ≤ room_1.cells → nn + (B1019b) ≤ room_1.slots → gG p l e room_1 s m args below meth c D A 23 Q kk nn 1019 [(0, .ref g.2.2.1), (1, .ref L0), (2, .int v2), (13, .int v13), (14, .int v14), (15, .int v15), (16, .int v16), (17, .int v17)] [] (List.append [] (labX cB cC cI cO L0 ua v))) : ∀ (v : LV) (v2 : Int32) (v13 : Int32) (v14 : Int32) (v16 : Int32) (v17 : Int32) (v21 : Int32) (k0 : Int32)  (kk nn : Nat), fL_law_1152 g K0 rec15 rec1019  v v2 v13 v14 v16 v17 v21 k0 = some out → kk + (1 + B1019a) ≤ room_1.cells → nn + (6 + B1019b) ≤ room_1.slots → gG p l e room_1 s m args below meth c D A 23 Q kk nn 1152 [(0, .ref g.2.2.1), (1, .ref L0), (2, .int v2), (13, .int v13), (14, .int v14), (16, .int v16), (17, .int v17), (21, .int v21)] [.int k0] (List.append [] (labX cB cC cI cO L0 ua v)) := by
  intro v v2 v13 v14 v16 v17 v21 k0 kk nn hf hb1 hb2
  unfold fL_law_1152 at hf
  refine g_istore C0 (lv' := [(15, .int k0), (0, .ref g.2.2.1), (1, .ref L0), (2, .int v2), (13, .int v13), (14, .int v14), (16, .int v16), (17, .int v17), (21, .int v21)]) dL_law_1152 (by decide) rfl ?_
  refine g_iload C0 dL_law_1154 7 rfl ?_
  refine g_if_ne C0 (tgt := 1164) dL_law_1156 (by decide) (fun c262 => ?_) (fun c262 => ?_)
  · rw [if_neg c262] at hf
    refine g_iload C0 dL_law_1164 6 rfl ?_
    refine g_iload C0 dL_law_1166 8 rfl ?_
    refine g_mmin C0 q_913 q_583 q_22 q_584 (Nat.le_of_ble_eq_true rfl) ⟨by omega, by omega⟩ (Nat.le_of_ble_eq_true rfl) dL_law_1168 ?_
    refine g_lv [1, 2, 3, 4, 5, 0, 7, 8] (lv' := [(0, .ref g.2.2.1), (1, .ref L0), (2, .int v2), (13, .int v13), (14, .int v14), (15, .int k0), (17, .int v17), (21, .int v21)]) rfl ?_
    exact bL_law_1171 C0 E0 hl0 K0 hK0 KE L0 ua out rec15 rec1019 hrec15 hrec1019   v v2 v13 v14 k0 v17 v21 (if v21 < v16 then v21 else v16)  _ _ hf (by omega) (by omega)
  · rw [if_pos c262] at hf
    refine g_iload C0 dL_law_1159 8 rfl ?_
    refine g_goto C0 (tgt := 1171) dL_law_1161 (by decide) ?_
    refine g_lv [1, 2, 3, 4, 5, 0, 7, 8] (lv' := [(0, .ref g.2.2.1), (1, .ref L0), (2, .int v2), (13, .int v13), (14, .int v14), (15, .int k0), (17, .int v17), (21, .int v21)]) rfl ?_
    exact bL_law_1171 C0 E0 hl0 K0 hK0 KE L0 ua out rec15 rec1019 hrec15 hrec1019   v v2 v13 v14 k0 v17 v21 v21  _ _ hf (by omega) (by omega)
set_option maxHeartbeats 8000000 in
set_option maxRecDepth 100000 in
theorem bL_law_1075 {p : Program} {l : Launch} {e : Env} {s : State} {m : MethodId} {args : Array Value} {below : List Frame} {meth : Method} {c : Code} {D : va_G} {cB cC cI cO : ClassId} {A : Nat → Prop} {g : LG} (C0 : gC RL cL_law 23 (some .boolean) p s m args meth c D (hTy cB cC cI cO) A) (E0 : hLw g A s) (hl0 : l.stackTraces = false) (K0 : Nat → Int32) (hK0 : fJ7_fill_53178 64 (fun _ => 0) (-1 : Int32) = some K0) {Q : State → Prop} (KE : ∀ (lv : List (Nat × Value)) (ws : va_W) (kk nn : Nat), kk ≤ room_1.cells → nn ≤ room_1.slots → gG p l e room_1 s m args below meth c D A 23 Q kk nn 1230 lv [.int 1] ws) (L0 : Nat) (ua : LA) (out : Unit) {B15a B15b : Nat} {B1019a B1019b : Nat} (rec15 : LV → Int32 → Option (Unit)) (rec1019 : LV → Int32 → Int32 → Int32 → Int32 → Int32 → Int32 → Option (Unit)) (hrec15 : ∀ (v : LV) (v2 : Int32)  (kk nn : Nat), rec15 v v2 = some out → kk + (B15a) ≤ room_1.cells → nn + (B15b) ≤ room_1.slots → gG p l e room_1 s m args below meth c D A 23 Q kk nn 15 [(0, .ref g.2.2.1), (1, .ref L0), (2, .int v2)] [] (List.append [] (labX cB cC cI cO L0 ua v))) (hrec1019 : ∀ (v : LV) (v2 : Int32) (v13 : Int32) (v14 : Int32) (v15 : Int32) (v16 : Int32) (v17 : Int32)  (kk nn : Nat), rec1019 v v2 v13 v14 v15 v16 v17 = some out → kk + (B1019a) ≤ room_1.cells → nn + (B1019b) ≤ room_1.slots → gG p l e room_1 s m args below meth c D A 23 Q kk nn 1019 [(0, .ref g.2.2.1), (1, .ref L0), (2, .int v2), (13, .int v13), (14, .int v14), (15, .int v15), (16, .int v16), (17, .int v17)] [] (List.append [] (labX cB cC cI cO L0 ua v))) : ∀ (n : Nat) (v : LV) (vq : LV) (v2 : Int32) (v13 : Int32) (v14 : Int32) (v15 : Int32) (v16 : Int32) (v17 : Int32) (v20 : Int32) (v21 : Int32) (v22 : Int32) (Lq : Nat) (uq : LA) (kk nn : Nat), fL_law_1075 g K0 rec15 rec1019 n v vq v2 v13 v14 v15 v16 v17 v20 v21 v22 = some out → kk + (n * 2 + (1 + B1019a)) ≤ room_1.cells → nn + (n * 12 + (6 + B1019b)) ≤ room_1.slots → gG p l e room_1 s m args below meth c D A 23 Q kk nn 1075 [(0, .ref g.2.2.1), (1, .ref L0), (2, .int v2), (13, .int v13), (14, .int v14), (15, .int v15), (16, .int v16), (17, .int v17), (18, .ref Lq), (20, .int v20), (21, .int v21), (22, .int v22)] [] (List.append (labX cB cC cI cO L0 ua v) (labX cB cC cI cO Lq uq vq)) := by
  intro n
  induction n with
  | zero => intro v vq v2 v13 v14 v15 v16 v17 v20 v21 v22 Lq uq kk nn hf hb1 hb2; rw [fL_law_1075] at hf; cases hf
  | succ n ih =>
    intro v vq v2 v13 v14 v15 v16 v17 v20 v21 v22 Lq uq kk nn hf hb1 hb2
    rw [fL_law_1075] at hf
    refine g_iload C0 dL_law_1075 11 rfl ?_
    refine g_iload C0 dL_law_1077 4 rfl ?_
    refine g_icmp_ge C0 (tgt := 1133) dL_law_1079 (by decide) (fun c254 => ?_) (fun c254 => ?_)
    · rw [if_pos c254] at hf
      refine g_iload C0 dL_law_1133 7 rfl ?_
      refine g_if_eq C0 (tgt := 1145) dL_law_1135 (by decide) (fun c255 => ?_) (fun c255 => ?_)
      · rw [if_pos c255] at hf
        refine g_iload C0 dL_law_1145 7 rfl ?_
        refine g_goto C0 (tgt := 1152) dL_law_1147 (by decide) ?_
        refine g_dropR (X := labX cB cC cI cO L0 ua v) (P := labX cB cC cI cO Lq uq vq) rfl ?_
        refine g_lv [0, 1, 2, 3, 4, 6, 7, 10] (lv' := [(0, .ref g.2.2.1), (1, .ref L0), (2, .int v2), (13, .int v13), (14, .int v14), (16, .int v16), (17, .int v17), (21, .int v21)]) rfl ?_
        exact bL_law_1152 C0 E0 hl0 K0 hK0 KE L0 ua out rec15 rec1019 hrec15 hrec1019   v v2 v13 v14 v16 v17 v21 v17  _ _ hf (by omega) (by omega)
      · rw [if_neg c255] at hf
        refine g_iload C0 dL_law_1138 10 rfl ?_
        refine g_iload C0 dL_law_1140 6 rfl ?_
        refine g_icmp_ge C0 (tgt := 1150) dL_law_1142 (by decide) (fun c256 => ?_) (fun c256 => ?_)
        · rw [if_pos c256] at hf
          refine g_iload C0 dL_law_1150 5 rfl ?_
          refine g_dropR (X := labX cB cC cI cO L0 ua v) (P := labX cB cC cI cO Lq uq vq) rfl ?_
          refine g_lv [0, 1, 2, 3, 4, 6, 7, 10] (lv' := [(0, .ref g.2.2.1), (1, .ref L0), (2, .int v2), (13, .int v13), (14, .int v14), (16, .int v16), (17, .int v17), (21, .int v21)]) rfl ?_
          exact bL_law_1152 C0 E0 hl0 K0 hK0 KE L0 ua out rec15 rec1019 hrec15 hrec1019   v v2 v13 v14 v16 v17 v21 v15  _ _ hf (by omega) (by omega)
        · rw [if_neg c256] at hf
          refine g_iload C0 dL_law_1145 7 rfl ?_
          refine g_goto C0 (tgt := 1152) dL_law_1147 (by decide) ?_
          refine g_dropR (X := labX cB cC cI cO L0 ua v) (P := labX cB cC cI cO Lq uq vq) rfl ?_
          refine g_lv [0, 1, 2, 3, 4, 6, 7, 10] (lv' := [(0, .ref g.2.2.1), (1, .ref L0), (2, .int v2), (13, .int v13), (14, .int v14), (16, .int v16), (17, .int v17), (21, .int v21)]) rfl ?_
          exact bL_law_1152 C0 E0 hl0 K0 hK0 KE L0 ua out rec15 rec1019 hrec15 hrec1019   v v2 v13 v14 v16 v17 v21 v17  _ _ hf (by omega) (by omega)
    · rw [if_neg c254] at hf
      refine g_sipush C0 (v := (137 : Int32)) dL_law_1082 (by decide) ?_
      refine g_iload C0 dL_law_1085 9 rfl ?_
      refine g_imul C0 dL_law_1087 ?_
      refine g_bipush C0 (v := (59 : Int32)) dL_law_1088 (by decide) ?_
      refine g_iadd C0 dL_law_1090 ?_
      refine g_sipush C0 (v := (10007 : Int32)) dL_law_1091 (by decide) ?_
      refine g_irem C0 dL_law_1094 (by decide) ?_
      refine g_istore C0 (lv' := [(20, .int (hl_rem (((137 : Int32) * v20) + (59 : Int32)) (10007 : Int32))), (0, .ref g.2.2.1), (1, .ref L0), (2, .int v2), (13, .int v13), (14, .int v14), (15, .int v15), (16, .int v16), (17, .int v17), (18, .ref Lq), (21, .int v21), (22, .int v22)]) dL_law_1095 (by decide) rfl ?_
      refine g_iload C0 dL_law_1097 10 rfl ?_
      refine g_aload C0 dL_law_1099 9 rfl ?_
      refine g_iload C0 dL_law_1101 0 rfl ?_
      refine g_sipush C0 (v := (10000 : Int32)) dL_law_1103 (by decide) ?_
      refine g_irem C0 dL_law_1106 (by decide) ?_
      obtain ⟨r257, er257, hf⟩ := hl_bd hf
      obtain ⟨z258, ez258, hf⟩ := hl_inl hf
      have kr257 := mg_probes l hl0 D cB cC cI cO Lq uq vq (hl_rem (hl_rem (((137 : Int32) * v20) + (59 : Int32)) (10007 : Int32)) (10000 : Int32)) r257 er257
      rw [ez258] at kr257
      refine g_sufNi C0 E0.1.1 (P := labX cB cC cI cO L0 ua v) (X := labX cB cC cI cO Lq uq vq) (X1 := labX cB cC cI cO Lq uq vq) (As := [.int (hl_rem (hl_rem (((137 : Int32) * v20) + (59 : Int32)) (10007 : Int32)) (10000 : Int32))]) (st := [.int v21]) kr257 hmX6_probes q_412 ⟨Nat.le_of_ble_eq_true rfl, Nat.le_of_ble_eq_true rfl⟩ ⟨by omega, by omega⟩ rfl rfl rfl rfl rfl 0 rfl rfl rfl (Nat.le_of_ble_eq_true rfl) dL_law_1107 ?_
      refine g_iadd C0 dL_law_1110 ?_
      refine g_istore C0 (lv' := [(21, .int (v21 + z258)), (20, .int (hl_rem (((137 : Int32) * v20) + (59 : Int32)) (10007 : Int32))), (0, .ref g.2.2.1), (1, .ref L0), (2, .int v2), (13, .int v13), (14, .int v14), (15, .int v15), (16, .int v16), (17, .int v17), (18, .ref Lq), (22, .int v22)]) dL_law_1111 (by decide) rfl ?_
      refine g_aload C0 dL_law_1113 10 rfl ?_
      refine g_iload C0 dL_law_1115 1 rfl ?_
      refine g_sipush C0 (v := (10000 : Int32)) dL_law_1117 (by decide) ?_
      refine g_irem C0 dL_law_1120 (by decide) ?_
      refine g_iconst C0 (v := (1 : Int32)) dL_law_1121 (by decide) ?_
      obtain ⟨r259, er259, hf⟩ := hl_bd hf
      refine g_hSi C0 E0 (P := labX cB cC cI cO L0 ua v) (X := labX cB cC cI cO Lq uq vq) (X1 := labX cB cC cI cO Lq uq r259.2) (As := [.ref Lq, .int (hl_rem (hl_rem (((137 : Int32) * v20) + (59 : Int32)) (10007 : Int32)) (10000 : Int32)), .int (1 : Int32)]) (st := []) (mL_put l hl0 D cB cC cI cO g Lq uq vq (hl_rem (hl_rem (((137 : Int32) * v20) + (59 : Int32)) (10007 : Int32)) (10000 : Int32)) (1 : Int32) r259 er259) hmL_put q_764 ⟨Nat.le_of_ble_eq_true rfl, Nat.le_of_ble_eq_true rfl⟩ rfl rfl ⟨by omega, by omega⟩ rfl rfl rfl rfl (Nat.le_of_ble_eq_true rfl) dL_law_1122 ?_
      refine g_istore C0 (lv' := [(19, .int r259.1), (21, .int (v21 + z258)), (20, .int (hl_rem (((137 : Int32) * v20) + (59 : Int32)) (10007 : Int32))), (0, .ref g.2.2.1), (1, .ref L0), (2, .int v2), (13, .int v13), (14, .int v14), (15, .int v15), (16, .int v16), (17, .int v17), (18, .ref Lq), (22, .int v22)]) dL_law_1125 (by decide) rfl ?_
      refine g_iinc C0 (lv' := [(22, .int (v22 + (1 : Int32))), (19, .int r259.1), (21, .int (v21 + z258)), (20, .int (hl_rem (((137 : Int32) * v20) + (59 : Int32)) (10007 : Int32))), (0, .ref g.2.2.1), (1, .ref L0), (2, .int v2), (13, .int v13), (14, .int v14), (15, .int v15), (16, .int v16), (17, .int v17), (18, .ref Lq)]) dL_law_1127 12 rfl rfl (by decide) rfl ?_
      refine g_goto C0 (tgt := 1075) dL_law_1130 (by decide) ?_
      refine g_lv [4, 5, 6, 7, 8, 9, 10, 11, 12, 3, 2, 0] (lv' := [(0, .ref g.2.2.1), (1, .ref L0), (2, .int v2), (13, .int v13), (14, .int v14), (15, .int v15), (16, .int v16), (17, .int v17), (18, .ref Lq), (20, .int (hl_rem (((137 : Int32) * v20) + (59 : Int32)) (10007 : Int32))), (21, .int (v21 + z258)), (22, .int (v22 + (1 : Int32)))]) rfl ?_
      exact ih v r259.2 v2 v13 v14 v15 v16 v17 (hl_rem (((137 : Int32) * v20) + (59 : Int32)) (10007 : Int32)) (v21 + z258) (v22 + (1 : Int32)) Lq uq _ _ hf (by omega) (by omega)
set_option maxHeartbeats 8000000 in
set_option maxRecDepth 100000 in
theorem bL_law_1019 {p : Program} {l : Launch} {e : Env} {s : State} {m : MethodId} {args : Array Value} {below : List Frame} {meth : Method} {c : Code} {D : va_G} {cB cC cI cO : ClassId} {A : Nat → Prop} {g : LG} (C0 : gC RL cL_law 23 (some .boolean) p s m args meth c D (hTy cB cC cI cO) A) (E0 : hLw g A s) (hl0 : l.stackTraces = false) (K0 : Nat → Int32) (hK0 : fJ7_fill_53178 64 (fun _ => 0) (-1 : Int32) = some K0) {Q : State → Prop} (KE : ∀ (lv : List (Nat × Value)) (ws : va_W) (kk nn : Nat), kk ≤ room_1.cells → nn ≤ room_1.slots → gG p l e room_1 s m args below meth c D A 23 Q kk nn 1230 lv [.int 1] ws) (L0 : Nat) (ua : LA) (out : Unit) {B15a B15b : Nat} (rec15 : LV → Int32 → Option (Unit)) (hrec15 : ∀ (v : LV) (v2 : Int32)  (kk nn : Nat), rec15 v v2 = some out → kk + (B15a) ≤ room_1.cells → nn + (B15b) ≤ room_1.slots → gG p l e room_1 s m args below meth c D A 23 Q kk nn 15 [(0, .ref g.2.2.1), (1, .ref L0), (2, .int v2)] [] (List.append [] (labX cB cC cI cO L0 ua v))) : ∀ (n : Nat) (v : LV) (v2 : Int32) (v13 : Int32) (v14 : Int32) (v15 : Int32) (v16 : Int32) (v17 : Int32)  (kk nn : Nat), fL_law_1019 g K0 rec15 n v v2 v13 v14 v15 v16 v17 = some out → kk + (n * 104 + (3 + B15a)) ≤ room_1.cells → nn + (n * 4330 + (18 + B15b)) ≤ room_1.slots → gG p l e room_1 s m args below meth c D A 23 Q kk nn 1019 [(0, .ref g.2.2.1), (1, .ref L0), (2, .int v2), (13, .int v13), (14, .int v14), (15, .int v15), (16, .int v16), (17, .int v17)] [] (List.append [] (labX cB cC cI cO L0 ua v)) := by
  intro n
  induction n with
  | zero => intro v v2 v13 v14 v15 v16 v17 kk nn hf hb1 hb2; rw [fL_law_1019] at hf; cases hf
  | succ n ih =>
    intro v v2 v13 v14 v15 v16 v17 kk nn hf hb1 hb2
    rw [fL_law_1019] at hf
    refine g_iload C0 dL_law_1019 7 rfl ?_
    refine g_iconst C0 (v := (3 : Int32)) dL_law_1021 (by decide) ?_
    refine g_icmp_ge C0 (tgt := 1196) dL_law_1022 (by decide) (fun c214 => ?_) (fun c214 => ?_)
    · rw [if_pos c214] at hf
      refine g_aload_n C0 dL_law_1196 rfl 1 rfl ?_
      refine g_iload C0 dL_law_1197 3 rfl ?_
      refine g_iload C0 dL_law_1199 4 rfl ?_
      obtain ⟨r215, er215, hf⟩ := hl_bd hf
      obtain ⟨z216, ez216, hf⟩ := hl_inl hf
      have kr215 := mg_bestKind l hl0 D cB cC cI cO L0 ua v v13 v14 r215 er215
      rw [ez216] at kr215
      refine g_sufNi C0 E0.1.1 (P := []) (X := labX cB cC cI cO L0 ua v) (X1 := labX cB cC cI cO L0 ua r215.2) (As := [.int v13, .int v14]) (st := []) kr215 hmX6_bestKind q_596 ⟨Nat.le_of_ble_eq_true rfl, Nat.le_of_ble_eq_true rfl⟩ ⟨by omega, by omega⟩ rfl rfl rfl rfl rfl 0 rfl rfl rfl (Nat.le_of_ble_eq_true rfl) dL_law_1201 ?_
      refine g_iload C0 dL_law_1204 5 rfl ?_
      refine g_icmp_eq C0 (tgt := 1211) dL_law_1206 (by decide) (fun c217 => ?_) (fun c217 => ?_)
      · rw [if_pos c217] at hf
        refine g_aload_n C0 dL_law_1211 rfl 1 rfl ?_
        refine g_aload_n C0 dL_law_1212 rfl 0 rfl ?_
        refine g_sipush C0 (v := (130 : Int32)) dL_law_1213 (by decide) ?_
        refine g_iconst C0 (v := (3 : Int32)) dL_law_1216 (by decide) ?_
        refine g_iload_n C0 dL_law_1217 rfl 2 rfl ?_
        refine g_imul C0 dL_law_1218 ?_
        refine g_iadd C0 dL_law_1219 ?_
        obtain ⟨r218, er218, hf⟩ := hl_bd hf
        refine g_lSv C0 E0 (P := []) (X := labX cB cC cI cO L0 ua r215.2) (X1 := labX cB cC cI cO L0 ua r218) (As := [.ref L0, .ref g.2.2.1, .int ((130 : Int32) + ((3 : Int32) * v2))]) (st := []) (mL_acts l hl0 D cB cC cI cO g L0 ua r215.2 ((130 : Int32) + ((3 : Int32) * v2)) r218 er218) hmL_acts q_796 ⟨Nat.le_of_ble_eq_true rfl, Nat.le_of_ble_eq_true rfl⟩ rfl rfl ⟨by omega, by omega⟩ rfl rfl rfl rfl (Nat.le_of_ble_eq_true rfl) dL_law_1220 ?_
        refine g_iinc C0 (lv' := [(2, .int (v2 + (1 : Int32))), (0, .ref g.2.2.1), (1, .ref L0), (13, .int v13), (14, .int v14), (15, .int v15), (16, .int v16), (17, .int v17)]) dL_law_1223 2 rfl rfl (by decide) rfl ?_
        refine g_goto C0 (tgt := 15) dL_law_1226 (by decide) ?_
        refine g_lv [1, 2, 0] (lv' := [(0, .ref g.2.2.1), (1, .ref L0), (2, .int (v2 + (1 : Int32)))]) rfl ?_
        exact hrec15 r218 (v2 + (1 : Int32))  _ _ hf (by omega) (by omega)
      · rw [if_neg c217] at hf
        refine g_iconst C0 (v := (0 : Int32)) dL_law_1209 (by decide) ?_
        cases hf
    · rw [if_neg c214] at hf
      refine g_new (ci := 6) (fs := labNew) C0 hinX6 tyX6_ok q_43 q_44 q_12 rfl (fun z hz => hl_dX6 z hz) (by omega) (by omega) dL_law_1025 (fun Lq219 => ?_)
      refine g_dup C0 dL_law_1028 rfl ?_
      refine g_ctorO (P := labX cB cC cI cO L0 ua v) (X := [(Lq219, .inr (6, labNew))]) (As := []) (st := [.ref Lq219]) (b := Lq219) C0 E0.2.2.2.1 (mX6_init l D cB cC cI cO Lq219 K0 hK0) hmX6_init q_45 ⟨Nat.le_of_ble_eq_true rfl, Nat.le_of_ble_eq_true rfl⟩ rfl rfl ⟨by omega, by omega⟩ rfl rfl rfl (Nat.le_of_ble_eq_true rfl) dL_law_1029 (fun ua220 => ?_)
      refine g_eq (ws' := (List.append (labX cB cC cI cO L0 ua v) (labX cB cC cI cO Lq219 ua220 (lv0 K0)))) rfl rfl rfl ?_
      refine g_astore C0 (lv' := [(18, .ref Lq219), (0, .ref g.2.2.1), (1, .ref L0), (2, .int v2), (13, .int v13), (14, .int v14), (15, .int v15), (16, .int v16), (17, .int v17)]) dL_law_1032 (by decide) rfl ?_
      refine g_aload C0 dL_law_1034 0 rfl ?_
      refine g_iload C0 dL_law_1036 8 rfl ?_
      obtain ⟨r221, er221, hf⟩ := hl_bd hf
      refine g_hSi C0 E0 (P := labX cB cC cI cO L0 ua v) (X := labX cB cC cI cO Lq219 ua220 (lv0 K0)) (X1 := labX cB cC cI cO Lq219 ua220 r221.2) (As := [.ref Lq219, .int v17]) (st := []) (mL_setKind l hl0 D cB cC cI cO g Lq219 ua220 (lv0 K0) v17 r221 er221) hmL_setKind q_673 ⟨Nat.le_of_ble_eq_true rfl, Nat.le_of_ble_eq_true rfl⟩ rfl rfl ⟨by omega, by omega⟩ rfl rfl rfl rfl (Nat.le_of_ble_eq_true rfl) dL_law_1038 ?_
      refine g_istore C0 (lv' := [(19, .int r221.1), (18, .ref Lq219), (0, .ref g.2.2.1), (1, .ref L0), (2, .int v2), (13, .int v13), (14, .int v14), (15, .int v15), (16, .int v16), (17, .int v17)]) dL_law_1041 (by decide) rfl ?_
      refine g_iload C0 dL_law_1043 5 rfl ?_
      refine g_istore C0 (lv' := [(20, .int v13), (19, .int r221.1), (18, .ref Lq219), (0, .ref g.2.2.1), (1, .ref L0), (2, .int v2), (13, .int v13), (14, .int v14), (15, .int v15), (16, .int v16), (17, .int v17)]) dL_law_1045 (by decide) rfl ?_
      refine g_iconst C0 (v := (0 : Int32)) dL_law_1047 (by decide) ?_
      refine g_istore C0 (lv' := [(21, .int (0 : Int32)), (20, .int v13), (19, .int r221.1), (18, .ref Lq219), (0, .ref g.2.2.1), (1, .ref L0), (2, .int v2), (13, .int v13), (14, .int v14), (15, .int v15), (16, .int v16), (17, .int v17)]) dL_law_1048 (by decide) rfl ?_
      refine g_aload C0 dL_law_1050 3 rfl ?_
      refine g_aload_n C0 dL_law_1052 rfl 5 rfl ?_
      obtain ⟨r222, er222, hf⟩ := hl_bd hf
      refine g_prei C0 (P := labX cB cC cI cO Lq219 ua220 r221.2) (X := labX cB cC cI cO L0 ua v) (X1 := labX cB cC cI cO L0 ua v) (As := []) (st := [.ref Lq219]) (mg_seed l D cB cC cI cO L0 ua v  r222 er222) hmX6_seed q_209 ⟨Nat.le_of_ble_eq_true rfl, Nat.le_of_ble_eq_true rfl⟩ ⟨by omega, by omega⟩ rfl rfl rfl rfl rfl 0 rfl rfl rfl (Nat.le_of_ble_eq_true rfl) dL_law_1053 ?_
      obtain ⟨r223, er223, hf⟩ := hl_bd hf
      refine g_hSi C0 E0 (P := labX cB cC cI cO L0 ua v) (X := labX cB cC cI cO Lq219 ua220 r221.2) (X1 := labX cB cC cI cO Lq219 ua220 r223.2) (As := [.ref Lq219, .int r222]) (st := []) (mL_setSeed l hl0 D cB cC cI cO g Lq219 ua220 r221.2 r222 r223 er223) hmL_setSeed q_692 ⟨Nat.le_of_ble_eq_true rfl, Nat.le_of_ble_eq_true rfl⟩ rfl rfl ⟨by omega, by omega⟩ rfl rfl rfl rfl (Nat.le_of_ble_eq_true rfl) dL_law_1056 ?_
      refine g_istore C0 (lv' := [(19, .int r223.1), (21, .int (0 : Int32)), (20, .int v13), (18, .ref Lq219), (0, .ref g.2.2.1), (1, .ref L0), (2, .int v2), (13, .int v13), (14, .int v14), (15, .int v15), (16, .int v16), (17, .int v17)]) dL_law_1059 (by decide) rfl ?_
      refine g_aload C0 dL_law_1061 3 rfl ?_
      refine g_aload_n C0 dL_law_1063 rfl 5 rfl ?_
      obtain ⟨r224, er224, hf⟩ := hl_bd hf
      refine g_prei C0 (P := labX cB cC cI cO Lq219 ua220 r223.2) (X := labX cB cC cI cO L0 ua v) (X1 := labX cB cC cI cO L0 ua v) (As := []) (st := [.ref Lq219]) (mg_limit l D cB cC cI cO L0 ua v  r224 er224) hmX6_limit q_213 ⟨Nat.le_of_ble_eq_true rfl, Nat.le_of_ble_eq_true rfl⟩ ⟨by omega, by omega⟩ rfl rfl rfl rfl rfl 0 rfl rfl rfl (Nat.le_of_ble_eq_true rfl) dL_law_1064 ?_
      obtain ⟨r225, er225, hf⟩ := hl_bd hf
      refine g_hSi C0 E0 (P := labX cB cC cI cO L0 ua v) (X := labX cB cC cI cO Lq219 ua220 r223.2) (X1 := labX cB cC cI cO Lq219 ua220 r225.2) (As := [.ref Lq219, .int r224]) (st := []) (mL_setLimit l hl0 D cB cC cI cO g Lq219 ua220 r223.2 r224 r225 er225) hmL_setLimit q_707 ⟨Nat.le_of_ble_eq_true rfl, Nat.le_of_ble_eq_true rfl⟩ rfl rfl ⟨by omega, by omega⟩ rfl rfl rfl rfl (Nat.le_of_ble_eq_true rfl) dL_law_1067 ?_
      refine g_istore C0 (lv' := [(19, .int r225.1), (21, .int (0 : Int32)), (20, .int v13), (18, .ref Lq219), (0, .ref g.2.2.1), (1, .ref L0), (2, .int v2), (13, .int v13), (14, .int v14), (15, .int v15), (16, .int v16), (17, .int v17)]) dL_law_1070 (by decide) rfl ?_
      refine g_iconst C0 (v := (0 : Int32)) dL_law_1072 (by decide) ?_
      refine g_istore C0 (lv' := [(22, .int (0 : Int32)), (19, .int r225.1), (21, .int (0 : Int32)), (20, .int v13), (18, .ref Lq219), (0, .ref g.2.2.1), (1, .ref L0), (2, .int v2), (13, .int v13), (14, .int v14), (15, .int v15), (16, .int v16), (17, .int v17)]) dL_law_1073 (by decide) rfl ?_
      refine g_lv [5, 6, 7, 8, 9, 10, 11, 12, 4, 3, 2, 0] (lv' := [(0, .ref g.2.2.1), (1, .ref L0), (2, .int v2), (13, .int v13), (14, .int v14), (15, .int v15), (16, .int v16), (17, .int v17), (18, .ref Lq219), (20, .int v13), (21, .int (0 : Int32)), (22, .int (0 : Int32))]) rfl ?_
      exact bL_law_1075 C0 E0 hl0 K0 hK0 KE L0 ua out rec15 (fL_law_1019 g K0 rec15 n) hrec15 ih  15  v r225.2 v2 v13 v14 v15 v16 v17 v13 (0 : Int32) (0 : Int32) Lq219 ua220 _ _ hf (by omega) (by omega)
set_option maxHeartbeats 8000000 in
set_option maxRecDepth 100000 in
theorem bL_law_983 {p : Program} {l : Launch} {e : Env} {s : State} {m : MethodId} {args : Array Value} {below : List Frame} {meth : Method} {c : Code} {D : va_G} {cB cC cI cO : ClassId} {A : Nat → Prop} {g : LG} (C0 : gC RL cL_law 23 (some .boolean) p s m args meth c D (hTy cB cC cI cO) A) (E0 : hLw g A s) (hl0 : l.stackTraces = false) (K0 : Nat → Int32) (hK0 : fJ7_fill_53178 64 (fun _ => 0) (-1 : Int32) = some K0) {Q : State → Prop} (KE : ∀ (lv : List (Nat × Value)) (ws : va_W) (kk nn : Nat), kk ≤ room_1.cells → nn ≤ room_1.slots → gG p l e room_1 s m args below meth c D A 23 Q kk nn 1230 lv [.int 1] ws) (L0 : Nat) (ua : LA) (out : Unit) {B15a B15b : Nat} (rec15 : LV → Int32 → Option (Unit)) (hrec15 : ∀ (v : LV) (v2 : Int32)  (kk nn : Nat), rec15 v v2 = some out → kk + (B15a) ≤ room_1.cells → nn + (B15b) ≤ room_1.slots → gG p l e room_1 s m args below meth c D A 23 Q kk nn 15 [(0, .ref g.2.2.1), (1, .ref L0), (2, .int v2)] [] (List.append [] (labX cB cC cI cO L0 ua v))) : ∀ (v : LV) (v2 : Int32)  (kk nn : Nat), fL_law_983 g K0 rec15  v v2 = some out → kk + (419 + B15a) ≤ room_1.cells → nn + (17338 + B15b) ≤ room_1.slots → gG p l e room_1 s m args below meth c D A 23 Q kk nn 983 [(0, .ref g.2.2.1), (1, .ref L0), (2, .int v2)] [] (List.append [] (labX cB cC cI cO L0 ua v)) := by
  intro v v2 kk nn hf hb1 hb2
  unfold fL_law_983 at hf
  refine g_aload_n C0 dL_law_983 rfl 0 rfl ?_
  refine g_bipush C0 (v := (120 : Int32)) dL_law_984 (by decide) ?_
  refine g_iload_n C0 dL_law_986 rfl 2 rfl ?_
  refine g_iadd C0 dL_law_987 ?_
  refine g_sipush C0 (v := (10007 : Int32)) dL_law_988 (by decide) ?_
  obtain ⟨r139, er139, hf⟩ := hl_bd hf
  refine g_l0i C0 E0 (mL_some l hl0 D cB cC cI cO g ((120 : Int32) + v2) (10007 : Int32) r139 er139) hmL_some q_667 ⟨Nat.le_of_ble_eq_true rfl, Nat.le_of_ble_eq_true rfl⟩ rfl rfl ⟨by omega, by omega⟩ rfl rfl (Nat.le_of_ble_eq_true rfl) dL_law_991 ?_
  refine g_istore C0 (lv' := [(13, .int r139), (0, .ref g.2.2.1), (1, .ref L0), (2, .int v2)]) dL_law_994 (by decide) rfl ?_
  refine g_iconst C0 (v := (1 : Int32)) dL_law_996 (by decide) ?_
  refine g_aload_n C0 dL_law_997 rfl 1 rfl ?_
  refine g_bipush C0 (v := (124 : Int32)) dL_law_998 (by decide) ?_
  refine g_iload_n C0 dL_law_1000 rfl 3 rfl ?_
  refine g_iadd C0 dL_law_1001 ?_
  refine g_bipush C0 (v := (14 : Int32)) dL_law_1002 (by decide) ?_
  obtain ⟨r140, er140, hf⟩ := hl_bd hf
  refine g_l0i C0 E0 (mL_some l hl0 D cB cC cI cO g ((124 : Int32) + v2) (14 : Int32) r140 er140) hmL_some q_667 ⟨Nat.le_of_ble_eq_true rfl, Nat.le_of_ble_eq_true rfl⟩ rfl rfl ⟨by omega, by omega⟩ rfl rfl (Nat.le_of_ble_eq_true rfl) dL_law_1004 ?_
  refine g_iadd C0 dL_law_1007 ?_
  refine g_istore C0 (lv' := [(14, .int ((1 : Int32) + r140)), (13, .int r139), (0, .ref g.2.2.1), (1, .ref L0), (2, .int v2)]) dL_law_1008 (by decide) rfl ?_
  refine g_iconst C0 (v := (0 : Int32)) dL_law_1010 (by decide) ?_
  refine g_istore C0 (lv' := [(15, .int (0 : Int32)), (14, .int ((1 : Int32) + r140)), (13, .int r139), (0, .ref g.2.2.1), (1, .ref L0), (2, .int v2)]) dL_law_1011 (by decide) rfl ?_
  refine g_iconst C0 (v := (0 : Int32)) dL_law_1013 (by decide) ?_
  refine g_istore C0 (lv' := [(16, .int (0 : Int32)), (15, .int (0 : Int32)), (14, .int ((1 : Int32) + r140)), (13, .int r139), (0, .ref g.2.2.1), (1, .ref L0), (2, .int v2)]) dL_law_1014 (by decide) rfl ?_
  refine g_iconst C0 (v := (0 : Int32)) dL_law_1016 (by decide) ?_
  refine g_istore C0 (lv' := [(17, .int (0 : Int32)), (16, .int (0 : Int32)), (15, .int (0 : Int32)), (14, .int ((1 : Int32) + r140)), (13, .int r139), (0, .ref g.2.2.1), (1, .ref L0), (2, .int v2)]) dL_law_1017 (by decide) rfl ?_
  refine g_lv [5, 6, 7, 4, 3, 2, 1, 0] (lv' := [(0, .ref g.2.2.1), (1, .ref L0), (2, .int v2), (13, .int r139), (14, .int ((1 : Int32) + r140)), (15, .int (0 : Int32)), (16, .int (0 : Int32)), (17, .int (0 : Int32))]) rfl ?_
  exact bL_law_1019 C0 E0 hl0 K0 hK0 KE L0 ua out rec15 hrec15  4  v v2 r139 ((1 : Int32) + r140) (0 : Int32) (0 : Int32) (0 : Int32)  _ _ hf (by omega) (by omega)
set_option maxHeartbeats 8000000 in
set_option maxRecDepth 100000 in
theorem bL_law_887_WW {p : Program} {l : Launch} {e : Env} {s : State} {m : MethodId} {args : Array Value} {below : List Frame} {meth : Method} {c : Code} {D : va_G} {cB cC cI cO : ClassId} {A : Nat → Prop} {g : LG} (C0 : gC RL cL_law 23 (some .boolean) p s m args meth c D (hTy cB cC cI cO) A) (E0 : hLw g A s) (hl0 : l.stackTraces = false) (K0 : Nat → Int32) (hK0 : fJ7_fill_53178 64 (fun _ => 0) (-1 : Int32) = some K0) {Q : State → Prop} (KE : ∀ (lv : List (Nat × Value)) (ws : va_W) (kk nn : Nat), kk ≤ room_1.cells → nn ≤ room_1.slots → gG p l e room_1 s m args below meth c D A 23 Q kk nn 1230 lv [.int 1] ws) (L0 : Nat) (ua : LA) (out : Unit) {B15a B15b : Nat} (rec15 : LV → Int32 → Option (Unit)) (hrec15 : ∀ (v : LV) (v2 : Int32)  (kk nn : Nat), rec15 v v2 = some out → kk + (B15a) ≤ room_1.cells → nn + (B15b) ≤ room_1.slots → gG p l e room_1 s m args below meth c D A 23 Q kk nn 15 [(0, .ref g.2.2.1), (1, .ref L0), (2, .int v2)] [] (List.append [] (labX cB cC cI cO L0 ua v))) : ∀ (v : LV) (v2 : Int32) (v3 : Int32) (v4 : Int32) (v8 : Int32) (t11n : Nat) (t11f : Nat → Int32) (t12n : Nat) (t12f : Nat → Int32) (k0 : Int32) (k1 : Int32) (a11 w11 : Nat) (f11 : Nat → Int32) (hx11 : ∀ j, j < t11n → f11 j = t11f j) (hc11 : ascB t11n f11) (a12 w12 : Nat) (f12 : Nat → Int32) (hx12 : ∀ j, j < t12n → f12 j = t12f j) (hc12 : ascB t12n f12) (kk nn : Nat), fL_law_887 g K0 rec15  v v2 v3 v4 v8 t11n t11f t12n t12f k0 k1 = some out → kk + (1828 + B15a) ≤ room_1.cells → nn + (25792 + B15b) ≤ room_1.slots → gG p l e room_1 s m args below meth c D A 23 Q kk nn 887 [(0, .ref g.2.2.1), (1, .ref L0), (2, .int v2), (3, .int v3), (4, .int v4), (8, .int v8), (11, .ref a11), (12, .ref a12)] [.int k0, .int k1] (List.append [(a11, .inr (0, [.ref w11, .int 0, .int 0, .int 0])), (w11, .inl (cB, t11n, .inl f11)), (a12, .inr (0, [.ref w12, .int 0, .int 0, .int 0])), (w12, .inl (cB, t12n, .inl f12))] (labX cB cC cI cO L0 ua v)) := by
  intro v v2 v3 v4 v8 t11n t11f t12n t12f k0 k1 a11 w11 f11 hx11 hc11 a12 w12 f12 hx12 hc12 kk nn hf hb1 hb2
  unfold fL_law_887 at hf
  refine g_icmp_ne C0 (tgt := 944) dL_law_887 (by decide) (fun c539 => ?_) (fun c539 => ?_)
  · rw [if_neg c539] at hf
    refine g_iconst C0 (v := (0 : Int32)) dL_law_944 (by decide) ?_
    cases hf
  · rw [if_pos c539] at hf
    refine g_aload_n C0 dL_law_890 rfl 1 rfl ?_
    obtain ⟨r540, er540, hf⟩ := hl_bd hf
    refine g_suff C0 (P := [(a11, .inr (0, [.ref w11, .int 0, .int 0, .int 0])), (w11, .inl (cB, t11n, .inl f11)), (a12, .inr (0, [.ref w12, .int 0, .int 0, .int 0])), (w12, .inl (cB, t12n, .inl f12))]) (X := labX cB cC cI cO L0 ua v) (X1 := labX cB cC cI cO L0 ua v) (As := []) (st := []) (mg_load l D cB cC cI cO L0 ua v  r540 er540) hmX6_load q_529 ⟨Nat.le_of_ble_eq_true rfl, Nat.le_of_ble_eq_true rfl⟩ ⟨by omega, by omega⟩ rfl rfl rfl rfl rfl 0 rfl rfl rfl (Nat.le_of_ble_eq_true rfl) dL_law_891 ?_
    refine g_iload C0 dL_law_894 4 rfl ?_
    refine g_i2f C0 dL_law_896 ?_
    refine g_iload_n C0 dL_law_897 rfl 3 rfl ?_
    refine g_i2f C0 dL_law_898 ?_
    obtain ⟨n541, hf⟩ := hl_ifS hf
    refine g_fdiv C0 dL_law_899 (hl_n32P n541) ?_
    refine g_fcmp C0 dL_law_900 ?_
    refine g_if_ne C0 (tgt := 944) dL_law_901 (by decide) (fun c542 => ?_) (fun c542 => ?_)
    · rw [if_neg c542] at hf
      refine g_iconst C0 (v := (0 : Int32)) dL_law_944 (by decide) ?_
      cases hf
    · rw [if_pos c542] at hf
      refine g_aload_n C0 dL_law_904 rfl 1 rfl ?_
      obtain ⟨r543, er543, hf⟩ := hl_bd hf
      refine g_sufi C0 (P := [(a11, .inr (0, [.ref w11, .int 0, .int 0, .int 0])), (w11, .inl (cB, t11n, .inl f11)), (a12, .inr (0, [.ref w12, .int 0, .int 0, .int 0])), (w12, .inl (cB, t12n, .inl f12))]) (X := labX cB cC cI cO L0 ua v) (X1 := labX cB cC cI cO L0 ua v) (As := []) (st := []) (mg_loadBits l D cB cC cI cO L0 ua v  r543 er543) hmX6_loadBits q_537 ⟨Nat.le_of_ble_eq_true rfl, Nat.le_of_ble_eq_true rfl⟩ ⟨by omega, by omega⟩ rfl rfl rfl rfl rfl 0 rfl rfl rfl (Nat.le_of_ble_eq_true rfl) dL_law_905 ?_
      refine g_aload_n C0 dL_law_908 rfl 1 rfl ?_
      obtain ⟨r544, er544, hf⟩ := hl_bd hf
      refine g_suff C0 (P := [(a11, .inr (0, [.ref w11, .int 0, .int 0, .int 0])), (w11, .inl (cB, t11n, .inl f11)), (a12, .inr (0, [.ref w12, .int 0, .int 0, .int 0])), (w12, .inl (cB, t12n, .inl f12))]) (X := labX cB cC cI cO L0 ua v) (X1 := labX cB cC cI cO L0 ua v) (As := []) (st := [.int r543]) (mg_load l D cB cC cI cO L0 ua v  r544 er544) hmX6_load q_529 ⟨Nat.le_of_ble_eq_true rfl, Nat.le_of_ble_eq_true rfl⟩ ⟨by omega, by omega⟩ rfl rfl rfl rfl rfl 0 rfl rfl rfl (Nat.le_of_ble_eq_true rfl) dL_law_909 ?_
      obtain ⟨r545, er545, hf⟩ := hl_bd hf
      refine g_l0pi C0 (mJxf58ca_floatToIntBits_5c35a l D cB cC cI cO r544 r545 er545) hmJxf58ca_floatToIntBits_5c35a q_902 ⟨Nat.le_of_ble_eq_true rfl, Nat.le_of_ble_eq_true rfl⟩ ⟨by omega, by omega⟩ rfl rfl rfl rfl (Nat.le_of_ble_eq_true rfl) dL_law_912 ?_
      refine g_icmp_ne C0 (tgt := 944) dL_law_915 (by decide) (fun c546 => ?_) (fun c546 => ?_)
      · rw [if_neg c546] at hf
        refine g_iconst C0 (v := (0 : Int32)) dL_law_944 (by decide) ?_
        cases hf
      · rw [if_pos c546] at hf
        refine g_aload_n C0 dL_law_918 rfl 1 rfl ?_
        refine g_aload_n C0 dL_law_919 rfl 1 rfl ?_
        obtain ⟨r547, er547, hf⟩ := hl_bd hf
        refine g_sufi C0 (P := [(a11, .inr (0, [.ref w11, .int 0, .int 0, .int 0])), (w11, .inl (cB, t11n, .inl f11)), (a12, .inr (0, [.ref w12, .int 0, .int 0, .int 0])), (w12, .inl (cB, t12n, .inl f12))]) (X := labX cB cC cI cO L0 ua v) (X1 := labX cB cC cI cO L0 ua r547.2) (As := []) (st := [.ref L0]) (mg_writeSlots l D cB cC cI cO L0 ua v  r547 er547) hmX6_writeSlots q_639 ⟨Nat.le_of_ble_eq_true rfl, Nat.le_of_ble_eq_true rfl⟩ ⟨by omega, by omega⟩ rfl rfl rfl rfl rfl 0 rfl rfl rfl (Nat.le_of_ble_eq_true rfl) dL_law_920 ?_
        refine g_aload C0 dL_law_923 6 rfl ?_
        obtain ⟨r548, er548, hf⟩ := hl_bd hf
        have lr548 : fL_isLine r547.2 t11n f11 r547.1 = some r548 := (line_cong hx11).trans er548
        refine g_lineS C0 (hLt_ok g _ _ _ _) (xl_W C0 E0 0 1 rfl rfl 3 rfl) (P := [(a11, .inr (0, [.ref w11, .int 0, .int 0, .int 0])), (w11, .inl (cB, t11n, .inl f11)), (a12, .inr (0, [.ref w12, .int 0, .int 0, .int 0])), (w12, .inl (cB, t12n, .inl f12))]) (X := labX cB cC cI cO L0 ua r547.2) (X1 := labX cB cC cI cO L0 ua r547.2) (As := [.ref L0, .int r547.1, .ref a11]) (st := []) (mL_isLine l hl0 D cB cC cI cO g L0 ua r547.2 a11 w11 t11n f11 r547.1 r548 (Nat.lt_of_le_of_lt hc11.1 (by decide)) hc11.2 lr548) hmL_isLine q_832 ⟨Nat.le_of_ble_eq_true rfl, Nat.le_of_ble_eq_true rfl⟩ rfl rfl ⟨by omega, by omega⟩ rfl rfl rfl rfl (Nat.le_of_ble_eq_true rfl) dL_law_925 ?_
        refine g_if_eq C0 (tgt := 944) dL_law_928 (by decide) (fun c549 => ?_) (fun c549 => ?_)
        · rw [if_pos c549] at hf
          refine g_iconst C0 (v := (0 : Int32)) dL_law_944 (by decide) ?_
          cases hf
        · rw [if_neg c549] at hf
          refine g_aload_n C0 dL_law_931 rfl 1 rfl ?_
          refine g_aload_n C0 dL_law_932 rfl 1 rfl ?_
          obtain ⟨r550, er550, hf⟩ := hl_bd hf
          refine g_sufi C0 (P := [(a11, .inr (0, [.ref w11, .int 0, .int 0, .int 0])), (w11, .inl (cB, t11n, .inl f11)), (a12, .inr (0, [.ref w12, .int 0, .int 0, .int 0])), (w12, .inl (cB, t12n, .inl f12))]) (X := labX cB cC cI cO L0 ua r547.2) (X1 := labX cB cC cI cO L0 ua r550.2) (As := []) (st := [.ref L0]) (mg_writeKeys l D cB cC cI cO L0 ua r547.2  r550 er550) hmX6_writeKeys q_655 ⟨Nat.le_of_ble_eq_true rfl, Nat.le_of_ble_eq_true rfl⟩ ⟨by omega, by omega⟩ rfl rfl rfl rfl rfl 0 rfl rfl rfl (Nat.le_of_ble_eq_true rfl) dL_law_933 ?_
          refine g_aload C0 dL_law_936 7 rfl ?_
          obtain ⟨r551, er551, hf⟩ := hl_bd hf
          have lr551 : fL_isLine r550.2 t12n f12 r550.1 = some r551 := (line_cong hx12).trans er551
          refine g_lineS C0 (hLt_ok g _ _ _ _) (xl_W C0 E0 2 3 rfl rfl 3 rfl) (P := [(a11, .inr (0, [.ref w11, .int 0, .int 0, .int 0])), (w11, .inl (cB, t11n, .inl f11)), (a12, .inr (0, [.ref w12, .int 0, .int 0, .int 0])), (w12, .inl (cB, t12n, .inl f12))]) (X := labX cB cC cI cO L0 ua r550.2) (X1 := labX cB cC cI cO L0 ua r550.2) (As := [.ref L0, .int r550.1, .ref a12]) (st := []) (mL_isLine l hl0 D cB cC cI cO g L0 ua r550.2 a12 w12 t12n f12 r550.1 r551 (Nat.lt_of_le_of_lt hc12.1 (by decide)) hc12.2 lr551) hmL_isLine q_832 ⟨Nat.le_of_ble_eq_true rfl, Nat.le_of_ble_eq_true rfl⟩ rfl rfl ⟨by omega, by omega⟩ rfl rfl rfl rfl (Nat.le_of_ble_eq_true rfl) dL_law_938 ?_
          refine g_if_ne C0 (tgt := 946) dL_law_941 (by decide) (fun c552 => ?_) (fun c552 => ?_)
          · rw [if_neg c552] at hf
            refine g_iload C0 dL_law_946 4 rfl ?_
            refine g_if_le C0 (tgt := 983) dL_law_948 (by decide) (fun c553 => ?_) (fun c553 => ?_)
            · rw [if_pos c553] at hf
              refine g_ordP (P := [(a11, .inr (0, [.ref w11, .int 0, .int 0, .int 0])), (w11, .inl (cB, t11n, .inl f11)), (a12, .inr (0, [.ref w12, .int 0, .int 0, .int 0])), (w12, .inl (cB, t12n, .inl f12))]) (P' := []) (X := labX cB cC cI cO L0 ua r550.2) [] rfl rfl rfl ?_
              refine g_lv [0, 1, 2] (lv' := [(0, .ref g.2.2.1), (1, .ref L0), (2, .int v2)]) rfl ?_
              exact bL_law_983 C0 E0 hl0 K0 hK0 KE L0 ua out rec15 hrec15   r550.2 v2  _ _ hf (by omega) (by omega)
            · rw [if_neg c553] at hf
              refine g_aload_n C0 dL_law_951 rfl 1 rfl ?_
              obtain ⟨r554, er554, hf⟩ := hl_bd hf
              obtain ⟨z555, ez555, hf⟩ := hl_inl hf
              have kr554 := mg_meanProbes l hl0 D cB cC cI cO L0 ua r550.2  r554 er554
              rw [ez555] at kr554
              refine g_sufNd C0 E0.1.1 (P := [(a11, .inr (0, [.ref w11, .int 0, .int 0, .int 0])), (w11, .inl (cB, t11n, .inl f11)), (a12, .inr (0, [.ref w12, .int 0, .int 0, .int 0])), (w12, .inl (cB, t12n, .inl f12))]) (X := labX cB cC cI cO L0 ua r550.2) (X1 := labX cB cC cI cO L0 ua r550.2) (As := []) (st := []) kr554 hmX6_meanProbes q_494 ⟨Nat.le_of_ble_eq_true rfl, Nat.le_of_ble_eq_true rfl⟩ ⟨by omega, by omega⟩ rfl rfl rfl rfl rfl 0 rfl rfl rfl (Nat.le_of_ble_eq_true rfl) dL_law_952 ?_
              refine g_iload C0 dL_law_955 5 rfl ?_
              refine g_i2d C0 dL_law_957 ?_
              refine g_iload C0 dL_law_958 4 rfl ?_
              refine g_i2d C0 dL_law_960 ?_
              obtain ⟨n556, hf⟩ := hl_ifS hf
              refine g_ddiv C0 dL_law_961 (hl_n64P n556) ?_
              refine g_dcmp C0 dL_law_962 ?_
              refine g_if_ne C0 (tgt := 981) dL_law_963 (by decide) (fun c557 => ?_) (fun c557 => ?_)
              · rw [if_neg c557] at hf
                refine g_iconst C0 (v := (0 : Int32)) dL_law_981 (by decide) ?_
                cases hf
              · rw [if_pos c557] at hf
                refine g_aload_n C0 dL_law_966 rfl 1 rfl ?_
                obtain ⟨r558, er558, hf⟩ := hl_bd hf
                obtain ⟨z559, ez559, hf⟩ := hl_inl hf
                have kr558 := mg_meanProbesBits l hl0 D cB cC cI cO L0 ua r550.2  r558 er558
                rw [ez559] at kr558
                refine g_sufNl C0 E0.1.1 (P := [(a11, .inr (0, [.ref w11, .int 0, .int 0, .int 0])), (w11, .inl (cB, t11n, .inl f11)), (a12, .inr (0, [.ref w12, .int 0, .int 0, .int 0])), (w12, .inl (cB, t12n, .inl f12))]) (X := labX cB cC cI cO L0 ua r550.2) (X1 := labX cB cC cI cO L0 ua r550.2) (As := []) (st := []) kr558 hmX6_meanProbesBits q_518 ⟨Nat.le_of_ble_eq_true rfl, Nat.le_of_ble_eq_true rfl⟩ ⟨by omega, by omega⟩ rfl rfl rfl rfl rfl 0 rfl rfl rfl (Nat.le_of_ble_eq_true rfl) dL_law_967 ?_
                refine g_aload_n C0 dL_law_970 rfl 1 rfl ?_
                obtain ⟨r560, er560, hf⟩ := hl_bd hf
                obtain ⟨z561, ez561, hf⟩ := hl_inl hf
                have kr560 := mg_meanProbes l hl0 D cB cC cI cO L0 ua r550.2  r560 er560
                rw [ez561] at kr560
                refine g_sufNd C0 E0.1.1 (P := [(a11, .inr (0, [.ref w11, .int 0, .int 0, .int 0])), (w11, .inl (cB, t11n, .inl f11)), (a12, .inr (0, [.ref w12, .int 0, .int 0, .int 0])), (w12, .inl (cB, t12n, .inl f12))]) (X := labX cB cC cI cO L0 ua r550.2) (X1 := labX cB cC cI cO L0 ua r550.2) (As := []) (st := [.long z559]) kr560 hmX6_meanProbes q_494 ⟨Nat.le_of_ble_eq_true rfl, Nat.le_of_ble_eq_true rfl⟩ ⟨by omega, by omega⟩ rfl rfl rfl rfl rfl 0 rfl rfl rfl (Nat.le_of_ble_eq_true rfl) dL_law_971 ?_
                obtain ⟨r562, er562, hf⟩ := hl_bd hf
                refine g_l0pl C0 (mJxe99ae_doubleToLongBits_ccdee l D cB cC cI cO z561 r562 er562) hmJxe99ae_doubleToLongBits_ccdee q_892 ⟨Nat.le_of_ble_eq_true rfl, Nat.le_of_ble_eq_true rfl⟩ ⟨by omega, by omega⟩ rfl rfl rfl rfl (Nat.le_of_ble_eq_true rfl) dL_law_974 ?_
                refine g_lcmp C0 dL_law_977 ?_
                refine g_if_eq C0 (tgt := 983) dL_law_978 (by decide) (fun c563 => ?_) (fun c563 => ?_)
                · rw [if_pos c563] at hf
                  refine g_ordP (P := [(a11, .inr (0, [.ref w11, .int 0, .int 0, .int 0])), (w11, .inl (cB, t11n, .inl f11)), (a12, .inr (0, [.ref w12, .int 0, .int 0, .int 0])), (w12, .inl (cB, t12n, .inl f12))]) (P' := []) (X := labX cB cC cI cO L0 ua r550.2) [] rfl rfl rfl ?_
                  refine g_lv [0, 1, 2] (lv' := [(0, .ref g.2.2.1), (1, .ref L0), (2, .int v2)]) rfl ?_
                  exact bL_law_983 C0 E0 hl0 K0 hK0 KE L0 ua out rec15 hrec15   r550.2 v2  _ _ hf (by omega) (by omega)
                · rw [if_neg c563] at hf
                  refine g_iconst C0 (v := (0 : Int32)) dL_law_981 (by decide) ?_
                  cases hf
          · rw [if_pos c552] at hf
            refine g_iconst C0 (v := (0 : Int32)) dL_law_944 (by decide) ?_
            cases hf
set_option maxHeartbeats 8000000 in
set_option maxRecDepth 100000 in
theorem bL_law_769_WW {p : Program} {l : Launch} {e : Env} {s : State} {m : MethodId} {args : Array Value} {below : List Frame} {meth : Method} {c : Code} {D : va_G} {cB cC cI cO : ClassId} {A : Nat → Prop} {g : LG} (C0 : gC RL cL_law 23 (some .boolean) p s m args meth c D (hTy cB cC cI cO) A) (E0 : hLw g A s) (hl0 : l.stackTraces = false) (K0 : Nat → Int32) (hK0 : fJ7_fill_53178 64 (fun _ => 0) (-1 : Int32) = some K0) {Q : State → Prop} (KE : ∀ (lv : List (Nat × Value)) (ws : va_W) (kk nn : Nat), kk ≤ room_1.cells → nn ≤ room_1.slots → gG p l e room_1 s m args below meth c D A 23 Q kk nn 1230 lv [.int 1] ws) (L0 : Nat) (ua : LA) (out : Unit) {B15a B15b : Nat} {B650a B650b : Nat} (rec15 : LV → Int32 → Option (Unit)) (rec650 : LV → Int32 → Int32 → Int32 → Int32 → Int32 → Int32 → Int32 → Int32 → Nat → (Nat → Int32) → Nat → (Nat → Int32) → Int32 → Option (Unit)) (hrec15 : ∀ (v : LV) (v2 : Int32)  (kk nn : Nat), rec15 v v2 = some out → kk + (B15a) ≤ room_1.cells → nn + (B15b) ≤ room_1.slots → gG p l e room_1 s m args below meth c D A 23 Q kk nn 15 [(0, .ref g.2.2.1), (1, .ref L0), (2, .int v2)] [] (List.append [] (labX cB cC cI cO L0 ua v))) (hrec650 : ∀ (v : LV) (v2 : Int32) (v3 : Int32) (v4 : Int32) (v5 : Int32) (v6 : Int32) (v7 : Int32) (v8 : Int32) (v9 : Int32) (t11n : Nat) (t11f : Nat → Int32) (t12n : Nat) (t12f : Nat → Int32) (v13 : Int32) (a11 w11 : Nat) (f11 : Nat → Int32) (hx11 : ∀ j, j < t11n → f11 j = t11f j) (hc11 : ascB t11n f11) (a12 w12 : Nat) (f12 : Nat → Int32) (hx12 : ∀ j, j < t12n → f12 j = t12f j) (hc12 : ascB t12n f12) (kk nn : Nat), rec650 v v2 v3 v4 v5 v6 v7 v8 v9 t11n t11f t12n t12f v13 = some out → kk + (B650a) ≤ room_1.cells → nn + (B650b) ≤ room_1.slots → gG p l e room_1 s m args below meth c D A 23 Q kk nn 650 [(0, .ref g.2.2.1), (1, .ref L0), (2, .int v2), (3, .int v3), (4, .int v4), (5, .int v5), (6, .int v6), (7, .int v7), (8, .int v8), (9, .int v9), (11, .ref a11), (12, .ref a12), (13, .int v13)] [] (List.append [(a11, .inr (0, [.ref w11, .int 0, .int 0, .int 0])), (w11, .inl (cB, t11n, .inl f11)), (a12, .inr (0, [.ref w12, .int 0, .int 0, .int 0])), (w12, .inl (cB, t12n, .inl f12))] (labX cB cC cI cO L0 ua v))) : ∀ (v : LV) (v2 : Int32) (v3 : Int32) (v4 : Int32) (v5 : Int32) (v6 : Int32) (v7 : Int32) (v8 : Int32) (v9 : Int32) (t11n : Nat) (t11f : Nat → Int32) (t12n : Nat) (t12f : Nat → Int32) (v13 : Int32) (a11 w11 : Nat) (f11 : Nat → Int32) (hx11 : ∀ j, j < t11n → f11 j = t11f j) (hc11 : ascB t11n f11) (a12 w12 : Nat) (f12 : Nat → Int32) (hx12 : ∀ j, j < t12n → f12 j = t12f j) (hc12 : ascB t12n f12) (kk nn : Nat), fL_law_769 g K0 rec15 rec650  v v2 v3 v4 v5 v6 v7 v8 v9 t11n t11f t12n t12f v13 = some out → kk + (0 + B650a) ≤ room_1.cells → nn + (0 + B650b) ≤ room_1.slots → gG p l e room_1 s m args below meth c D A 23 Q kk nn 769 [(0, .ref g.2.2.1), (1, .ref L0), (2, .int v2), (3, .int v3), (4, .int v4), (5, .int v5), (6, .int v6), (7, .int v7), (8, .int v8), (9, .int v9), (11, .ref a11), (12, .ref a12), (13, .int v13)] [] (List.append [(a11, .inr (0, [.ref w11, .int 0, .int 0, .int 0])), (w11, .inl (cB, t11n, .inl f11)), (a12, .inr (0, [.ref w12, .int 0, .int 0, .int 0])), (w12, .inl (cB, t12n, .inl f12))] (labX cB cC cI cO L0 ua v)) := by
  intro v v2 v3 v4 v5 v6 v7 v8 v9 t11n t11f t12n t12f v13 a11 w11 f11 hx11 hc11 a12 w12 f12 hx12 hc12 kk nn hf hb1 hb2
  unfold fL_law_769 at hf
  refine g_iinc C0 (lv' := [(13, .int (v13 + (1 : Int32))), (0, .ref g.2.2.1), (1, .ref L0), (2, .int v2), (3, .int v3), (4, .int v4), (5, .int v5), (6, .int v6), (7, .int v7), (8, .int v8), (9, .int v9), (11, .ref a11), (12, .ref a12)]) dL_law_769 12 rfl rfl (by decide) rfl ?_
  refine g_goto C0 (tgt := 650) dL_law_772 (by decide) ?_
  refine g_lv [1, 2, 3, 4, 5, 6, 7, 8, 9, 10, 11, 12, 0] (lv' := [(0, .ref g.2.2.1), (1, .ref L0), (2, .int v2), (3, .int v3), (4, .int v4), (5, .int v5), (6, .int v6), (7, .int v7), (8, .int v8), (9, .int v9), (11, .ref a11), (12, .ref a12), (13, .int (v13 + (1 : Int32)))]) rfl ?_
  exact hrec650 v v2 v3 v4 v5 v6 v7 v8 v9 t11n t11f t12n t12f (v13 + (1 : Int32)) a11 w11 f11 hx11 hc11 a12 w12 f12 hx12 hc12 _ _ hf (by omega) (by omega)
set_option maxHeartbeats 8000000 in
set_option maxRecDepth 100000 in
theorem bL_law_650_WW {p : Program} {l : Launch} {e : Env} {s : State} {m : MethodId} {args : Array Value} {below : List Frame} {meth : Method} {c : Code} {D : va_G} {cB cC cI cO : ClassId} {A : Nat → Prop} {g : LG} (C0 : gC RL cL_law 23 (some .boolean) p s m args meth c D (hTy cB cC cI cO) A) (E0 : hLw g A s) (hl0 : l.stackTraces = false) (K0 : Nat → Int32) (hK0 : fJ7_fill_53178 64 (fun _ => 0) (-1 : Int32) = some K0) {Q : State → Prop} (KE : ∀ (lv : List (Nat × Value)) (ws : va_W) (kk nn : Nat), kk ≤ room_1.cells → nn ≤ room_1.slots → gG p l e room_1 s m args below meth c D A 23 Q kk nn 1230 lv [.int 1] ws) (L0 : Nat) (ua : LA) (out : Unit) {B15a B15b : Nat} (rec15 : LV → Int32 → Option (Unit)) (hrec15 : ∀ (v : LV) (v2 : Int32)  (kk nn : Nat), rec15 v v2 = some out → kk + (B15a) ≤ room_1.cells → nn + (B15b) ≤ room_1.slots → gG p l e room_1 s m args below meth c D A 23 Q kk nn 15 [(0, .ref g.2.2.1), (1, .ref L0), (2, .int v2)] [] (List.append [] (labX cB cC cI cO L0 ua v))) : ∀ (n : Nat) (v : LV) (v2 : Int32) (v3 : Int32) (v4 : Int32) (v5 : Int32) (v6 : Int32) (v7 : Int32) (v8 : Int32) (v9 : Int32) (t11n : Nat) (t11f : Nat → Int32) (t12n : Nat) (t12f : Nat → Int32) (v13 : Int32) (a11 w11 : Nat) (f11 : Nat → Int32) (hx11 : ∀ j, j < t11n → f11 j = t11f j) (hc11 : ascB t11n f11) (a12 w12 : Nat) (f12 : Nat → Int32) (hx12 : ∀ j, j < t12n → f12 j = t12f j) (hc12 : ascB t12n f12) (kk nn : Nat), fL_law_650 g K0 rec15 n v v2 v3 v4 v5 v6 v7 v8 v9 t11n t11f t12n t12f v13 = some out → kk + (n * 206 + (1830 + B15a)) ≤ room_1.cells → nn + (n * 1236 + (25804 + B15b)) ≤ room_1.slots → gG p l e room_1 s m args below meth c D A 23 Q kk nn 650 [(0, .ref g.2.2.1), (1, .ref L0), (2, .int v2), (3, .int v3), (4, .int v4), (5, .int v5), (6, .int v6), (7, .int v7), (8, .int v8), (9, .int v9), (11, .ref a11), (12, .ref a12), (13, .int v13)] [] (List.append [(a11, .inr (0, [.ref w11, .int 0, .int 0, .int 0])), (w11, .inl (cB, t11n, .inl f11)), (a12, .inr (0, [.ref w12, .int 0, .int 0, .int 0])), (w12, .inl (cB, t12n, .inl f12))] (labX cB cC cI cO L0 ua v)) := by
  intro n
  induction n with
  | zero => intro v v2 v3 v4 v5 v6 v7 v8 v9 t11n t11f t12n t12f v13 a11 w11 f11 hx11 hc11 a12 w12 f12 hx12 hc12 kk nn hf hb1 hb2; rw [fL_law_650] at hf; cases hf
  | succ n ih =>
    intro v v2 v3 v4 v5 v6 v7 v8 v9 t11n t11f t12n t12f v13 a11 w11 f11 hx11 hc11 a12 w12 f12 hx12 hc12 kk nn hf hb1 hb2
    rw [fL_law_650] at hf
    refine g_iload C0 dL_law_650 12 rfl ?_
    refine g_bipush C0 (v := (6 : Int32)) dL_law_652 (by decide) ?_
    refine g_icmp_ge C0 (tgt := 775) dL_law_654 (by decide) (fun c466 => ?_) (fun c466 => ?_)
    · rw [if_pos c466] at hf
      refine g_aload_n C0 dL_law_775 rfl 1 rfl ?_
      obtain ⟨r467, er467, hf⟩ := hl_bd hf
      refine g_sufi C0 (P := [(a11, .inr (0, [.ref w11, .int 0, .int 0, .int 0])), (w11, .inl (cB, t11n, .inl f11)), (a12, .inr (0, [.ref w12, .int 0, .int 0, .int 0])), (w12, .inl (cB, t12n, .inl f12))]) (X := labX cB cC cI cO L0 ua v) (X1 := labX cB cC cI cO L0 ua v) (As := []) (st := []) (mg_size l D cB cC cI cO L0 ua v  r467 er467) hmX6_size q_197 ⟨Nat.le_of_ble_eq_true rfl, Nat.le_of_ble_eq_true rfl⟩ ⟨by omega, by omega⟩ rfl rfl rfl rfl rfl 0 rfl rfl rfl (Nat.le_of_ble_eq_true rfl) dL_law_776 ?_
      refine g_iload C0 dL_law_779 4 rfl ?_
      refine g_icmp_ne C0 (tgt := 944) dL_law_781 (by decide) (fun c468 => ?_) (fun c468 => ?_)
      · rw [if_neg c468] at hf
        refine g_iconst C0 (v := (0 : Int32)) dL_law_944 (by decide) ?_
        cases hf
      · rw [if_pos c468] at hf
        refine g_aload_n C0 dL_law_784 rfl 1 rfl ?_
        obtain ⟨r469, er469, hf⟩ := hl_bd hf
        refine g_sufi C0 (P := [(a11, .inr (0, [.ref w11, .int 0, .int 0, .int 0])), (w11, .inl (cB, t11n, .inl f11)), (a12, .inr (0, [.ref w12, .int 0, .int 0, .int 0])), (w12, .inl (cB, t12n, .inl f12))]) (X := labX cB cC cI cO L0 ua v) (X1 := labX cB cC cI cO L0 ua v) (As := []) (st := []) (mg_tombstones l D cB cC cI cO L0 ua v  r469 er469) hmX6_tombstones q_205 ⟨Nat.le_of_ble_eq_true rfl, Nat.le_of_ble_eq_true rfl⟩ ⟨by omega, by omega⟩ rfl rfl rfl rfl rfl 0 rfl rfl rfl (Nat.le_of_ble_eq_true rfl) dL_law_785 ?_
        refine g_iload C0 dL_law_788 5 rfl ?_
        refine g_icmp_ne C0 (tgt := 944) dL_law_790 (by decide) (fun c470 => ?_) (fun c470 => ?_)
        · rw [if_neg c470] at hf
          refine g_iconst C0 (v := (0 : Int32)) dL_law_944 (by decide) ?_
          cases hf
        · rw [if_pos c470] at hf
          refine g_aload_n C0 dL_law_793 rfl 1 rfl ?_
          obtain ⟨r471, er471, hf⟩ := hl_bd hf
          refine g_sufi C0 (P := [(a11, .inr (0, [.ref w11, .int 0, .int 0, .int 0])), (w11, .inl (cB, t11n, .inl f11)), (a12, .inr (0, [.ref w12, .int 0, .int 0, .int 0])), (w12, .inl (cB, t12n, .inl f12))]) (X := labX cB cC cI cO L0 ua v) (X1 := labX cB cC cI cO L0 ua v) (As := []) (st := []) (mg_clusters l D cB cC cI cO L0 ua v  r471 er471) hmX6_clusters q_449 ⟨Nat.le_of_ble_eq_true rfl, Nat.le_of_ble_eq_true rfl⟩ ⟨by omega, by omega⟩ rfl rfl rfl rfl rfl 0 rfl rfl rfl (Nat.le_of_ble_eq_true rfl) dL_law_794 ?_
          refine g_iload C0 dL_law_797 6 rfl ?_
          refine g_icmp_ne C0 (tgt := 944) dL_law_799 (by decide) (fun c472 => ?_) (fun c472 => ?_)
          · rw [if_neg c472] at hf
            refine g_iconst C0 (v := (0 : Int32)) dL_law_944 (by decide) ?_
            cases hf
          · rw [if_pos c472] at hf
            refine g_aload_n C0 dL_law_802 rfl 1 rfl ?_
            obtain ⟨r473, er473, hf⟩ := hl_bd hf
            refine g_sufi C0 (P := [(a11, .inr (0, [.ref w11, .int 0, .int 0, .int 0])), (w11, .inl (cB, t11n, .inl f11)), (a12, .inr (0, [.ref w12, .int 0, .int 0, .int 0])), (w12, .inl (cB, t12n, .inl f12))]) (X := labX cB cC cI cO L0 ua v) (X1 := labX cB cC cI cO L0 ua v) (As := []) (st := []) (mg_largestCluster l D cB cC cI cO L0 ua v  r473 er473) hmX6_largestCluster q_468 ⟨Nat.le_of_ble_eq_true rfl, Nat.le_of_ble_eq_true rfl⟩ ⟨by omega, by omega⟩ rfl rfl rfl rfl rfl 0 rfl rfl rfl (Nat.le_of_ble_eq_true rfl) dL_law_803 ?_
            refine g_iload C0 dL_law_806 7 rfl ?_
            refine g_icmp_ne C0 (tgt := 944) dL_law_808 (by decide) (fun c474 => ?_) (fun c474 => ?_)
            · rw [if_neg c474] at hf
              refine g_iconst C0 (v := (0 : Int32)) dL_law_944 (by decide) ?_
              cases hf
            · rw [if_pos c474] at hf
              refine g_aload_n C0 dL_law_811 rfl 1 rfl ?_
              obtain ⟨r475, er475, hf⟩ := hl_bd hf
              refine g_sufi C0 (P := [(a11, .inr (0, [.ref w11, .int 0, .int 0, .int 0])), (w11, .inl (cB, t11n, .inl f11)), (a12, .inr (0, [.ref w12, .int 0, .int 0, .int 0])), (w12, .inl (cB, t12n, .inl f12))]) (X := labX cB cC cI cO L0 ua v) (X1 := labX cB cC cI cO L0 ua v) (As := []) (st := []) (mg_largestClusterByHalves l D cB cC cI cO L0 ua v  r475 er475) hmX6_largestClusterByHalves q_478 ⟨Nat.le_of_ble_eq_true rfl, Nat.le_of_ble_eq_true rfl⟩ ⟨by omega, by omega⟩ rfl rfl rfl rfl rfl 0 rfl rfl rfl (Nat.le_of_ble_eq_true rfl) dL_law_812 ?_
              refine g_iload C0 dL_law_815 7 rfl ?_
              refine g_icmp_ne C0 (tgt := 944) dL_law_817 (by decide) (fun c476 => ?_) (fun c476 => ?_)
              · rw [if_neg c476] at hf
                refine g_iconst C0 (v := (0 : Int32)) dL_law_944 (by decide) ?_
                cases hf
              · rw [if_pos c476] at hf
                refine g_aload_n C0 dL_law_820 rfl 1 rfl ?_
                obtain ⟨r477, er477, hf⟩ := hl_bd hf
                refine g_hSi C0 E0 (P := [(a11, .inr (0, [.ref w11, .int 0, .int 0, .int 0])), (w11, .inl (cB, t11n, .inl f11)), (a12, .inr (0, [.ref w12, .int 0, .int 0, .int 0])), (w12, .inl (cB, t12n, .inl f12))]) (X := labX cB cC cI cO L0 ua v) (X1 := labX cB cC cI cO L0 ua v) (As := [.ref L0]) (st := []) (mL_hardestKey l hl0 D cB cC cI cO g L0 ua v  r477 er477) hmL_hardestKey q_728 ⟨Nat.le_of_ble_eq_true rfl, Nat.le_of_ble_eq_true rfl⟩ rfl rfl ⟨by omega, by omega⟩ rfl rfl rfl rfl (Nat.le_of_ble_eq_true rfl) dL_law_821 ?_
                refine g_iload C0 dL_law_824 9 rfl ?_
                refine g_icmp_ne C0 (tgt := 944) dL_law_826 (by decide) (fun c478 => ?_) (fun c478 => ?_)
                · rw [if_neg c478] at hf
                  refine g_iconst C0 (v := (0 : Int32)) dL_law_944 (by decide) ?_
                  cases hf
                · rw [if_pos c478] at hf
                  refine g_aload_n C0 dL_law_829 rfl 1 rfl ?_
                  refine g_iload C0 dL_law_830 4 rfl ?_
                  obtain ⟨r479, er479, hf⟩ := hl_bd hf
                  refine g_hSi C0 E0 (P := [(a11, .inr (0, [.ref w11, .int 0, .int 0, .int 0])), (w11, .inl (cB, t11n, .inl f11)), (a12, .inr (0, [.ref w12, .int 0, .int 0, .int 0])), (w12, .inl (cB, t12n, .inl f12))]) (X := labX cB cC cI cO L0 ua v) (X1 := labX cB cC cI cO L0 ua v) (As := [.ref L0, .int v4]) (st := []) (mL_keyAt l hl0 D cB cC cI cO g L0 ua v v4 r479 er479) hmL_keyAt q_725 ⟨Nat.le_of_ble_eq_true rfl, Nat.le_of_ble_eq_true rfl⟩ rfl rfl ⟨by omega, by omega⟩ rfl rfl rfl rfl (Nat.le_of_ble_eq_true rfl) dL_law_832 ?_
                  refine g_sipush C0 (v := (-30000 : Int32)) dL_law_835 (by decide) ?_
                  refine g_icmp_ne C0 (tgt := 944) dL_law_838 (by decide) (fun c480 => ?_) (fun c480 => ?_)
                  · rw [if_neg c480] at hf
                    refine g_iconst C0 (v := (0 : Int32)) dL_law_944 (by decide) ?_
                    cases hf
                  · rw [if_pos c480] at hf
                    refine g_aload_n C0 dL_law_841 rfl 1 rfl ?_
                    obtain ⟨r481, er481, hf⟩ := hl_bd hf
                    refine g_sufi C0 (P := [(a11, .inr (0, [.ref w11, .int 0, .int 0, .int 0])), (w11, .inl (cB, t11n, .inl f11)), (a12, .inr (0, [.ref w12, .int 0, .int 0, .int 0])), (w12, .inl (cB, t12n, .inl f12))]) (X := labX cB cC cI cO L0 ua v) (X1 := labX cB cC cI cO L0 ua r481.2) (As := []) (st := []) (mg_isConsistent l D cB cC cI cO L0 ua v  r481 er481) hmX6_isConsistent q_600 ⟨Nat.le_of_ble_eq_true rfl, Nat.le_of_ble_eq_true rfl⟩ ⟨by omega, by omega⟩ rfl rfl rfl rfl rfl 0 rfl rfl rfl (Nat.le_of_ble_eq_true rfl) dL_law_842 ?_
                    refine g_if_eq C0 (tgt := 944) dL_law_845 (by decide) (fun c482 => ?_) (fun c482 => ?_)
                    · rw [if_pos c482] at hf
                      refine g_iconst C0 (v := (0 : Int32)) dL_law_944 (by decide) ?_
                      cases hf
                    · rw [if_neg c482] at hf
                      refine g_aload_n C0 dL_law_848 rfl 1 rfl ?_
                      obtain ⟨r483, er483, hf⟩ := hl_bd hf
                      refine g_sufi C0 (P := [(a11, .inr (0, [.ref w11, .int 0, .int 0, .int 0])), (w11, .inl (cB, t11n, .inl f11)), (a12, .inr (0, [.ref w12, .int 0, .int 0, .int 0])), (w12, .inl (cB, t12n, .inl f12))]) (X := labX cB cC cI cO L0 ua r481.2) (X1 := labX cB cC cI cO L0 ua r481.2) (As := []) (st := []) (mg_growths l D cB cC cI cO L0 ua r481.2  r483 er483) hmX6_growths q_221 ⟨Nat.le_of_ble_eq_true rfl, Nat.le_of_ble_eq_true rfl⟩ ⟨by omega, by omega⟩ rfl rfl rfl rfl rfl 0 rfl rfl rfl (Nat.le_of_ble_eq_true rfl) dL_law_849 ?_
                      refine g_aload_n C0 dL_law_852 rfl 1 rfl ?_
                      obtain ⟨r484, er484, hf⟩ := hl_bd hf
                      refine g_sufi C0 (P := [(a11, .inr (0, [.ref w11, .int 0, .int 0, .int 0])), (w11, .inl (cB, t11n, .inl f11)), (a12, .inr (0, [.ref w12, .int 0, .int 0, .int 0])), (w12, .inl (cB, t12n, .inl f12))]) (X := labX cB cC cI cO L0 ua r481.2) (X1 := labX cB cC cI cO L0 ua r481.2) (As := []) (st := [.int r483]) (mg_rebuilds l D cB cC cI cO L0 ua r481.2  r484 er484) hmX6_rebuilds q_217 ⟨Nat.le_of_ble_eq_true rfl, Nat.le_of_ble_eq_true rfl⟩ ⟨by omega, by omega⟩ rfl rfl rfl rfl rfl 0 rfl rfl rfl (Nat.le_of_ble_eq_true rfl) dL_law_853 ?_
                      refine g_icmp_gt C0 (tgt := 944) dL_law_856 (by decide) (fun c485 => ?_) (fun c485 => ?_)
                      · rw [if_pos c485] at hf
                        refine g_iconst C0 (v := (0 : Int32)) dL_law_944 (by decide) ?_
                        cases hf
                      · rw [if_neg c485] at hf
                        refine g_aload_n C0 dL_law_859 rfl 1 rfl ?_
                        obtain ⟨r486, er486, hf⟩ := hl_bd hf
                        refine g_sufi C0 (P := [(a11, .inr (0, [.ref w11, .int 0, .int 0, .int 0])), (w11, .inl (cB, t11n, .inl f11)), (a12, .inr (0, [.ref w12, .int 0, .int 0, .int 0])), (w12, .inl (cB, t12n, .inl f12))]) (X := labX cB cC cI cO L0 ua r481.2) (X1 := labX cB cC cI cO L0 ua r481.2) (As := []) (st := []) (mg_isNearLimit l D cB cC cI cO L0 ua r481.2  r486 er486) hmX6_isNearLimit q_225 ⟨Nat.le_of_ble_eq_true rfl, Nat.le_of_ble_eq_true rfl⟩ ⟨by omega, by omega⟩ rfl rfl rfl rfl rfl 0 rfl rfl rfl (Nat.le_of_ble_eq_true rfl) dL_law_860 ?_
                        refine g_bipush C0 (v := (100 : Int32)) dL_law_863 (by decide) ?_
                        refine g_iload C0 dL_law_865 4 rfl ?_
                        refine g_iload C0 dL_law_867 5 rfl ?_
                        refine g_iadd C0 dL_law_869 ?_
                        refine g_iconst C0 (v := (1 : Int32)) dL_law_870 (by decide) ?_
                        refine g_iadd C0 dL_law_871 ?_
                        refine g_imul C0 dL_law_872 ?_
                        refine g_aload_n C0 dL_law_873 rfl 1 rfl ?_
                        obtain ⟨r487, er487, hf⟩ := hl_bd hf
                        refine g_sufi C0 (P := [(a11, .inr (0, [.ref w11, .int 0, .int 0, .int 0])), (w11, .inl (cB, t11n, .inl f11)), (a12, .inr (0, [.ref w12, .int 0, .int 0, .int 0])), (w12, .inl (cB, t12n, .inl f12))]) (X := labX cB cC cI cO L0 ua r481.2) (X1 := labX cB cC cI cO L0 ua r481.2) (As := []) (st := [.int ((100 : Int32) * ((v4 + v5) + (1 : Int32))), .int r486]) (mg_limit l D cB cC cI cO L0 ua r481.2  r487 er487) hmX6_limit q_213 ⟨Nat.le_of_ble_eq_true rfl, Nat.le_of_ble_eq_true rfl⟩ ⟨by omega, by omega⟩ rfl rfl rfl rfl rfl 0 rfl rfl rfl (Nat.le_of_ble_eq_true rfl) dL_law_874 ?_
                        refine g_iload_n C0 dL_law_877 rfl 3 rfl ?_
                        refine g_imul C0 dL_law_878 ?_
                        refine g_icmp_le C0 (tgt := 886) dL_law_879 (by decide) (fun c488 => ?_) (fun c488 => ?_)
                        · rw [if_pos c488] at hf
                          refine g_iconst C0 (v := (0 : Int32)) dL_law_886 (by decide) ?_
                          refine g_lv [0, 1, 2, 3, 4, 8, 10, 11] (lv' := [(0, .ref g.2.2.1), (1, .ref L0), (2, .int v2), (3, .int v3), (4, .int v4), (8, .int v8), (11, .ref a11), (12, .ref a12)]) rfl ?_
                          exact bL_law_887_WW C0 E0 hl0 K0 hK0 KE L0 ua out rec15 hrec15   r481.2 v2 v3 v4 v8 t11n t11f t12n t12f (0 : Int32) r486 a11 w11 f11 hx11 hc11 a12 w12 f12 hx12 hc12 _ _ hf (by omega) (by omega)
                        · rw [if_neg c488] at hf
                          refine g_iconst C0 (v := (1 : Int32)) dL_law_882 (by decide) ?_
                          refine g_goto C0 (tgt := 887) dL_law_883 (by decide) ?_
                          refine g_lv [0, 1, 2, 3, 4, 8, 10, 11] (lv' := [(0, .ref g.2.2.1), (1, .ref L0), (2, .int v2), (3, .int v3), (4, .int v4), (8, .int v8), (11, .ref a11), (12, .ref a12)]) rfl ?_
                          exact bL_law_887_WW C0 E0 hl0 K0 hK0 KE L0 ua out rec15 hrec15   r481.2 v2 v3 v4 v8 t11n t11f t12n t12f (1 : Int32) r486 a11 w11 f11 hx11 hc11 a12 w12 f12 hx12 hc12 _ _ hf (by omega) (by omega)
    · rw [if_neg c466] at hf
      refine g_aload_n C0 dL_law_657 rfl 0 rfl ?_
      refine g_bipush C0 (v := (90 : Int32)) dL_law_658 (by decide) ?_
      refine g_bipush C0 (v := (6 : Int32)) dL_law_660 (by decide) ?_
      refine g_iload_n C0 dL_law_662 rfl 2 rfl ?_
      refine g_imul C0 dL_law_663 ?_
      refine g_iadd C0 dL_law_664 ?_
      refine g_iload C0 dL_law_665 12 rfl ?_
      refine g_iadd C0 dL_law_667 ?_
      refine g_sipush C0 (v := (10000 : Int32)) dL_law_668 (by decide) ?_
      obtain ⟨r489, er489, hf⟩ := hl_bd hf
      refine g_l0i C0 E0 (mL_some l hl0 D cB cC cI cO g (((90 : Int32) + ((6 : Int32) * v2)) + v13) (10000 : Int32) r489 er489) hmL_some q_667 ⟨Nat.le_of_ble_eq_true rfl, Nat.le_of_ble_eq_true rfl⟩ rfl rfl ⟨by omega, by omega⟩ rfl rfl (Nat.le_of_ble_eq_true rfl) dL_law_671 ?_
      refine g_istore C0 (lv' := [(14, .int r489), (0, .ref g.2.2.1), (1, .ref L0), (2, .int v2), (3, .int v3), (4, .int v4), (5, .int v5), (6, .int v6), (7, .int v7), (8, .int v8), (9, .int v9), (11, .ref a11), (12, .ref a12), (13, .int v13)]) dL_law_674 (by decide) rfl ?_
      refine g_aload_n C0 dL_law_676 rfl 1 rfl ?_
      refine g_bipush C0 (v := (110 : Int32)) dL_law_677 (by decide) ?_
      refine g_iload C0 dL_law_679 13 rfl ?_
      refine g_iadd C0 dL_law_681 ?_
      refine g_iload_n C0 dL_law_682 rfl 4 rfl ?_
      obtain ⟨r490, er490, hf⟩ := hl_bd hf
      refine g_l0i C0 E0 (mL_some l hl0 D cB cC cI cO g ((110 : Int32) + v13) v3 r490 er490) hmL_some q_667 ⟨Nat.le_of_ble_eq_true rfl, Nat.le_of_ble_eq_true rfl⟩ rfl rfl ⟨by omega, by omega⟩ rfl rfl (Nat.le_of_ble_eq_true rfl) dL_law_683 ?_
      refine g_istore C0 (lv' := [(15, .int r490), (14, .int r489), (0, .ref g.2.2.1), (1, .ref L0), (2, .int v2), (3, .int v3), (4, .int v4), (5, .int v5), (6, .int v6), (7, .int v7), (8, .int v8), (9, .int v9), (11, .ref a11), (12, .ref a12), (13, .int v13)]) dL_law_686 (by decide) rfl ?_
      refine g_aload_n C0 dL_law_688 rfl 3 rfl ?_
      refine g_iload C0 dL_law_689 1 rfl ?_
      refine g_iload C0 dL_law_691 0 rfl ?_
      obtain ⟨r491, er491, hf⟩ := hl_bd hf
      obtain ⟨z492, ez492, hf⟩ := hl_inl hf
      have kr491 := mg_probe l hl0 D cB cC cI cO L0 ua v r489 r490 r491 er491
      rw [ez492] at kr491
      refine g_sufNi C0 E0.1.1 (P := [(a11, .inr (0, [.ref w11, .int 0, .int 0, .int 0])), (w11, .inl (cB, t11n, .inl f11)), (a12, .inr (0, [.ref w12, .int 0, .int 0, .int 0])), (w12, .inl (cB, t12n, .inl f12))]) (X := labX cB cC cI cO L0 ua v) (X1 := labX cB cC cI cO L0 ua v) (As := [.int r489, .int r490]) (st := []) kr491 hmX6_probe q_364 ⟨Nat.le_of_ble_eq_true rfl, Nat.le_of_ble_eq_true rfl⟩ ⟨by omega, by omega⟩ rfl rfl rfl rfl rfl 0 rfl rfl rfl (Nat.le_of_ble_eq_true rfl) dL_law_693 ?_
      refine g_aload_n C0 dL_law_696 rfl 3 rfl ?_
      refine g_iload C0 dL_law_697 1 rfl ?_
      refine g_iload C0 dL_law_699 0 rfl ?_
      obtain ⟨r493, er493, hf⟩ := hl_bd hf
      refine g_lSi C0 E0 (P := [(a11, .inr (0, [.ref w11, .int 0, .int 0, .int 0])), (w11, .inl (cB, t11n, .inl f11)), (a12, .inr (0, [.ref w12, .int 0, .int 0, .int 0])), (w12, .inl (cB, t12n, .inl f12))]) (X := labX cB cC cI cO L0 ua v) (X1 := labX cB cC cI cO L0 ua v) (As := [.ref L0, .int r489, .int r490]) (st := [.int z492]) (mL_slot l hl0 D cB cC cI cO g L0 ua v r489 r490 r493 er493) hmL_slot q_820 ⟨Nat.le_of_ble_eq_true rfl, Nat.le_of_ble_eq_true rfl⟩ rfl rfl ⟨by omega, by omega⟩ rfl rfl rfl rfl (Nat.le_of_ble_eq_true rfl) dL_law_701 ?_
      refine g_icmp_ne C0 (tgt := 767) dL_law_704 (by decide) (fun c494 => ?_) (fun c494 => ?_)
      · rw [if_neg c494] at hf
        refine g_iconst C0 (v := (0 : Int32)) dL_law_767 (by decide) ?_
        cases hf
      · rw [if_pos c494] at hf
        refine g_aload_n C0 dL_law_707 rfl 3 rfl ?_
        refine g_iload C0 dL_law_708 1 rfl ?_
        obtain ⟨r495, er495, hf⟩ := hl_bd hf
        obtain ⟨z496, ez496, hf⟩ := hl_inl hf
        have kr495 := mg_probes l hl0 D cB cC cI cO L0 ua v r489 r495 er495
        rw [ez496] at kr495
        refine g_sufNi C0 E0.1.1 (P := [(a11, .inr (0, [.ref w11, .int 0, .int 0, .int 0])), (w11, .inl (cB, t11n, .inl f11)), (a12, .inr (0, [.ref w12, .int 0, .int 0, .int 0])), (w12, .inl (cB, t12n, .inl f12))]) (X := labX cB cC cI cO L0 ua v) (X1 := labX cB cC cI cO L0 ua v) (As := [.int r489]) (st := []) kr495 hmX6_probes q_412 ⟨Nat.le_of_ble_eq_true rfl, Nat.le_of_ble_eq_true rfl⟩ ⟨by omega, by omega⟩ rfl rfl rfl rfl rfl 0 rfl rfl rfl (Nat.le_of_ble_eq_true rfl) dL_law_710 ?_
        refine g_aload_n C0 dL_law_713 rfl 3 rfl ?_
        refine g_iload C0 dL_law_714 1 rfl ?_
        obtain ⟨r497, er497, hf⟩ := hl_bd hf
        refine g_lSi C0 E0 (P := [(a11, .inr (0, [.ref w11, .int 0, .int 0, .int 0])), (w11, .inl (cB, t11n, .inl f11)), (a12, .inr (0, [.ref w12, .int 0, .int 0, .int 0])), (w12, .inl (cB, t12n, .inl f12))]) (X := labX cB cC cI cO L0 ua v) (X1 := labX cB cC cI cO L0 ua v) (As := [.ref L0, .int r489]) (st := [.int z496]) (mL_examined l hl0 D cB cC cI cO g L0 ua v r489 r497 er497) hmL_examined q_829 ⟨Nat.le_of_ble_eq_true rfl, Nat.le_of_ble_eq_true rfl⟩ rfl rfl ⟨by omega, by omega⟩ rfl rfl rfl rfl (Nat.le_of_ble_eq_true rfl) dL_law_716 ?_
        refine g_icmp_ne C0 (tgt := 767) dL_law_719 (by decide) (fun c498 => ?_) (fun c498 => ?_)
        · rw [if_neg c498] at hf
          refine g_iconst C0 (v := (0 : Int32)) dL_law_767 (by decide) ?_
          cases hf
        · rw [if_pos c498] at hf
          refine g_aload_n C0 dL_law_722 rfl 3 rfl ?_
          refine g_iload C0 dL_law_723 1 rfl ?_
          obtain ⟨r499, er499, hf⟩ := hl_bd hf
          obtain ⟨z500, ez500, hf⟩ := hl_inl hf
          have kr499 := mg_step l hl0 D cB cC cI cO L0 ua v r489 r499 er499
          rw [ez500] at kr499
          refine g_sufNi C0 E0.1.1 (P := [(a11, .inr (0, [.ref w11, .int 0, .int 0, .int 0])), (w11, .inl (cB, t11n, .inl f11)), (a12, .inr (0, [.ref w12, .int 0, .int 0, .int 0])), (w12, .inl (cB, t12n, .inl f12))]) (X := labX cB cC cI cO L0 ua v) (X1 := labX cB cC cI cO L0 ua v) (As := [.int r489]) (st := []) kr499 hmX6_step q_406 ⟨Nat.le_of_ble_eq_true rfl, Nat.le_of_ble_eq_true rfl⟩ ⟨by omega, by omega⟩ rfl rfl rfl rfl rfl 0 rfl rfl rfl (Nat.le_of_ble_eq_true rfl) dL_law_725 ?_
          refine g_iconst C0 (v := (2 : Int32)) dL_law_728 (by decide) ?_
          refine g_irem C0 dL_law_729 (by decide) ?_
          refine g_iconst C0 (v := (1 : Int32)) dL_law_730 (by decide) ?_
          refine g_icmp_ne C0 (tgt := 767) dL_law_731 (by decide) (fun c501 => ?_) (fun c501 => ?_)
          · rw [if_neg c501] at hf
            refine g_iconst C0 (v := (0 : Int32)) dL_law_767 (by decide) ?_
            cases hf
          · rw [if_pos c501] at hf
            refine g_aload_n C0 dL_law_734 rfl 3 rfl ?_
            refine g_iload C0 dL_law_735 1 rfl ?_
            obtain ⟨r502, er502, hf⟩ := hl_bd hf
            refine g_sufi C0 (P := [(a11, .inr (0, [.ref w11, .int 0, .int 0, .int 0])), (w11, .inl (cB, t11n, .inl f11)), (a12, .inr (0, [.ref w12, .int 0, .int 0, .int 0])), (w12, .inl (cB, t12n, .inl f12))]) (X := labX cB cC cI cO L0 ua v) (X1 := labX cB cC cI cO L0 ua v) (As := [.int r489]) (st := []) (mg_contains l D cB cC cI cO L0 ua v r489 r502 er502) hmX6_contains q_237 ⟨Nat.le_of_ble_eq_true rfl, Nat.le_of_ble_eq_true rfl⟩ ⟨by omega, by omega⟩ rfl rfl rfl rfl rfl 0 rfl rfl rfl (Nat.le_of_ble_eq_true rfl) dL_law_737 ?_
            refine g_if_ne C0 (tgt := 769) dL_law_740 (by decide) (fun c503 => ?_) (fun c503 => ?_)
            · rw [if_neg c503] at hf
              refine g_lv [2, 3, 4, 5, 6, 7, 8, 9, 10, 11, 12, 13, 14] (lv' := [(0, .ref g.2.2.1), (1, .ref L0), (2, .int v2), (3, .int v3), (4, .int v4), (5, .int v5), (6, .int v6), (7, .int v7), (8, .int v8), (9, .int v9), (11, .ref a11), (12, .ref a12), (13, .int v13)]) rfl ?_
              exact bL_law_769_WW C0 E0 hl0 K0 hK0 KE L0 ua out rec15 (fL_law_650 g K0 rec15 n) hrec15 ih   v v2 v3 v4 v5 v6 v7 v8 v9 t11n t11f t12n t12f v13 a11 w11 f11 hx11 hc11 a12 w12 f12 hx12 hc12 _ _ hf (by omega) (by omega)
            · rw [if_pos c503] at hf
              refine g_aload_n C0 dL_law_743 rfl 3 rfl ?_
              refine g_iload C0 dL_law_744 1 rfl ?_
              obtain ⟨r504, er504, hf⟩ := hl_bd hf
              refine g_hSi C0 E0 (P := [(a11, .inr (0, [.ref w11, .int 0, .int 0, .int 0])), (w11, .inl (cB, t11n, .inl f11)), (a12, .inr (0, [.ref w12, .int 0, .int 0, .int 0])), (w12, .inl (cB, t12n, .inl f12))]) (X := labX cB cC cI cO L0 ua v) (X1 := labX cB cC cI cO L0 ua v) (As := [.ref L0, .int r489]) (st := []) (mL_get l hl0 D cB cC cI cO g L0 ua v r489 r504 er504) hmL_get q_718 ⟨Nat.le_of_ble_eq_true rfl, Nat.le_of_ble_eq_true rfl⟩ rfl rfl ⟨by omega, by omega⟩ rfl rfl rfl rfl (Nat.le_of_ble_eq_true rfl) dL_law_746 ?_
              refine g_sipush C0 (v := (-30000 : Int32)) dL_law_749 (by decide) ?_
              refine g_icmp_ne C0 (tgt := 767) dL_law_752 (by decide) (fun c505 => ?_) (fun c505 => ?_)
              · rw [if_neg c505] at hf
                refine g_iconst C0 (v := (0 : Int32)) dL_law_767 (by decide) ?_
                cases hf
              · rw [if_pos c505] at hf
                refine g_aload_n C0 dL_law_755 rfl 3 rfl ?_
                refine g_iload C0 dL_law_756 1 rfl ?_
                obtain ⟨r506, er506, hf⟩ := hl_bd hf
                refine g_hSi C0 E0 (P := [(a11, .inr (0, [.ref w11, .int 0, .int 0, .int 0])), (w11, .inl (cB, t11n, .inl f11)), (a12, .inr (0, [.ref w12, .int 0, .int 0, .int 0])), (w12, .inl (cB, t12n, .inl f12))]) (X := labX cB cC cI cO L0 ua v) (X1 := labX cB cC cI cO L0 ua v) (As := [.ref L0, .int r489]) (st := []) (mL_probesBySlot l hl0 D cB cC cI cO g L0 ua v r489 r506 er506) hmL_probesBySlot q_722 ⟨Nat.le_of_ble_eq_true rfl, Nat.le_of_ble_eq_true rfl⟩ rfl rfl ⟨by omega, by omega⟩ rfl rfl rfl rfl (Nat.le_of_ble_eq_true rfl) dL_law_758 ?_
                refine g_sipush C0 (v := (-30000 : Int32)) dL_law_761 (by decide) ?_
                refine g_icmp_eq C0 (tgt := 769) dL_law_764 (by decide) (fun c507 => ?_) (fun c507 => ?_)
                · rw [if_pos c507] at hf
                  refine g_lv [2, 3, 4, 5, 6, 7, 8, 9, 10, 11, 12, 13, 14] (lv' := [(0, .ref g.2.2.1), (1, .ref L0), (2, .int v2), (3, .int v3), (4, .int v4), (5, .int v5), (6, .int v6), (7, .int v7), (8, .int v8), (9, .int v9), (11, .ref a11), (12, .ref a12), (13, .int v13)]) rfl ?_
                  exact bL_law_769_WW C0 E0 hl0 K0 hK0 KE L0 ua out rec15 (fL_law_650 g K0 rec15 n) hrec15 ih   v v2 v3 v4 v5 v6 v7 v8 v9 t11n t11f t12n t12f v13 a11 w11 f11 hx11 hc11 a12 w12 f12 hx12 hc12 _ _ hf (by omega) (by omega)
                · rw [if_neg c507] at hf
                  refine g_iconst C0 (v := (0 : Int32)) dL_law_767 (by decide) ?_
                  cases hf
set_option maxHeartbeats 8000000 in
set_option maxRecDepth 100000 in
theorem bL_law_590_WW {p : Program} {l : Launch} {e : Env} {s : State} {m : MethodId} {args : Array Value} {below : List Frame} {meth : Method} {c : Code} {D : va_G} {cB cC cI cO : ClassId} {A : Nat → Prop} {g : LG} (C0 : gC RL cL_law 23 (some .boolean) p s m args meth c D (hTy cB cC cI cO) A) (E0 : hLw g A s) (hl0 : l.stackTraces = false) (K0 : Nat → Int32) (hK0 : fJ7_fill_53178 64 (fun _ => 0) (-1 : Int32) = some K0) {Q : State → Prop} (KE : ∀ (lv : List (Nat × Value)) (ws : va_W) (kk nn : Nat), kk ≤ room_1.cells → nn ≤ room_1.slots → gG p l e room_1 s m args below meth c D A 23 Q kk nn 1230 lv [.int 1] ws) (L0 : Nat) (ua : LA) (out : Unit) {B15a B15b : Nat} {B555a B555b : Nat} (rec15 : LV → Int32 → Option (Unit)) (rec555 : LV → Int32 → Int32 → Int32 → Int32 → Int32 → Int32 → Int32 → Int32 → Nat → (Nat → Int32) → Nat → (Nat → Int32) → Int32 → Option (Unit)) (hrec15 : ∀ (v : LV) (v2 : Int32)  (kk nn : Nat), rec15 v v2 = some out → kk + (B15a) ≤ room_1.cells → nn + (B15b) ≤ room_1.slots → gG p l e room_1 s m args below meth c D A 23 Q kk nn 15 [(0, .ref g.2.2.1), (1, .ref L0), (2, .int v2)] [] (List.append [] (labX cB cC cI cO L0 ua v))) (hrec555 : ∀ (v : LV) (v2 : Int32) (v3 : Int32) (v4 : Int32) (v5 : Int32) (v6 : Int32) (v7 : Int32) (v8 : Int32) (v9 : Int32) (t11n : Nat) (t11f : Nat → Int32) (t12n : Nat) (t12f : Nat → Int32) (v13 : Int32) (a11 w11 : Nat) (f11 : Nat → Int32) (hx11 : ∀ j, j < t11n → f11 j = t11f j) (hc11 : ascB t11n f11) (a12 w12 : Nat) (f12 : Nat → Int32) (hx12 : ∀ j, j < t12n → f12 j = t12f j) (hc12 : ascB t12n f12) (kk nn : Nat), rec555 v v2 v3 v4 v5 v6 v7 v8 v9 t11n t11f t12n t12f v13 = some out → kk + (B555a) ≤ room_1.cells → nn + (B555b) ≤ room_1.slots → gG p l e room_1 s m args below meth c D A 23 Q kk nn 555 [(0, .ref g.2.2.1), (1, .ref L0), (2, .int v2), (3, .int v3), (4, .int v4), (5, .int v5), (6, .int v6), (7, .int v7), (8, .int v8), (9, .int v9), (11, .ref a11), (12, .ref a12), (13, .int v13)] [] (List.append [(a11, .inr (0, [.ref w11, .int 0, .int 0, .int 0])), (w11, .inl (cB, t11n, .inl f11)), (a12, .inr (0, [.ref w12, .int 0, .int 0, .int 0])), (w12, .inl (cB, t12n, .inl f12))] (labX cB cC cI cO L0 ua v))) : ∀ (v : LV) (v2 : Int32) (v3 : Int32) (v4 : Int32) (v5 : Int32) (v6 : Int32) (v7 : Int32) (v8 : Int32) (v9 : Int32) (t11n : Nat) (t11f : Nat → Int32) (t12n : Nat) (t12f : Nat → Int32) (v13 : Int32) (v14 : Int32) (a11 w11 : Nat) (f11 : Nat → Int32) (hx11 : ∀ j, j < t11n → f11 j = t11f j) (hc11 : ascB t11n f11) (a12 w12 : Nat) (f12 : Nat → Int32) (hx12 : ∀ j, j < t12n → f12 j = t12f j) (hc12 : ascB t12n f12) (kk nn : Nat), fL_law_590 g K0 rec15 rec555  v v2 v3 v4 v5 v6 v7 v8 v9 t11n t11f t12n t12f v13 v14 = some out → kk + (10 + B555a) ≤ room_1.cells → nn + (7730 + B555b) ≤ room_1.slots → gG p l e room_1 s m args below meth c D A 23 Q kk nn 590 [(0, .ref g.2.2.1), (1, .ref L0), (2, .int v2), (3, .int v3), (4, .int v4), (5, .int v5), (6, .int v6), (7, .int v7), (8, .int v8), (9, .int v9), (11, .ref a11), (12, .ref a12), (13, .int v13), (14, .int v14)] [] (List.append [(a11, .inr (0, [.ref w11, .int 0, .int 0, .int 0])), (w11, .inl (cB, t11n, .inl f11)), (a12, .inr (0, [.ref w12, .int 0, .int 0, .int 0])), (w12, .inl (cB, t12n, .inl f12))] (labX cB cC cI cO L0 ua v)) := by
  intro v v2 v3 v4 v5 v6 v7 v8 v9 t11n t11f t12n t12f v13 v14 a11 w11 f11 hx11 hc11 a12 w12 f12 hx12 hc12 kk nn hf hb1 hb2
  unfold fL_law_590 at hf
  refine g_new (ci := 1) (fs := [.null, .int 0, .int 0, .int 0]) C0 hinJ4 tyJ4_ok q_914 q_915 q_31 rfl (fun z hz => hl_dB z hz) (by omega) (by omega) dL_law_590 (fun b508 => ?_)
  refine g_rot ?_
  refine g_eq (ws' := (List.append [(a11, .inr (0, [.ref w11, .int 0, .int 0, .int 0])), (w11, .inl (cB, t11n, .inl f11)), (a12, .inr (0, [.ref w12, .int 0, .int 0, .int 0])), (w12, .inl (cB, t12n, .inl f12)), (b508, .inr (1, [.null, .int 0, .int 0, .int 0]))] (labX cB cC cI cO L0 ua v))) rfl rfl rfl ?_
  refine g_dup C0 dL_law_593 rfl ?_
  refine g_xIv (ret := none) (X := [(a11, .inr (0, [.ref w11, .int 0, .int 0, .int 0])), (w11, .inl (cB, t11n, .inl f11)), (a12, .inr (0, [.ref w12, .int 0, .int 0, .int 0])), (w12, .inl (cB, t12n, .inl f12)), (b508, .inr (1, [.null, .int 0, .int 0, .int 0]))]) (pl := labX cB cC cI cO L0 ua v) (wr := [(a11, .inr (0, [.ref w11, .int 0, .int 0, .int 0])), (w11, .inl (cB, t11n, .inl f11)), (a12, .inr (0, [.ref w12, .int 0, .int 0, .int 0])), (w12, .inl (cB, t12n, .inl f12))]) (As := []) (st := [.ref b508]) (b := b508) C0 jE_ok (xe_of C0 jE_ok E0.1.2) (mJ4_init_da8c8 l D cB cC cI cO b508) hmJ4_init_da8c8 q_916 ⟨Nat.le_of_ble_eq_true rfl, Nat.le_of_ble_eq_true rfl⟩ rfl rfl ⟨by omega, by omega⟩ rfl [4] [0, 1, 2, 3] rfl rfl rfl rfl (by decide) rfl rfl (Nat.le_of_ble_eq_true rfl) dL_law_594 (fun w509 => ?_)
  refine g_eq (ws' := (List.append [(a11, .inr (0, [.ref w11, .int 0, .int 0, .int 0])), (w11, .inl (cB, t11n, .inl f11)), (a12, .inr (0, [.ref w12, .int 0, .int 0, .int 0])), (w12, .inl (cB, t12n, .inl f12)), (b508, .inr (1, [.ref w509, .int 0, .int 0, .int (Int32.ofNat 0)])), (w509, .inl (cB, 16, .inl (fun _ => 0)))] (labX cB cC cI cO L0 ua v))) rfl rfl rfl ?_
  refine g_aload C0 dL_law_597 11 rfl ?_
  obtain ⟨h510, hf⟩ := hl_ifS hf
  refine g_xVr (X := [(a11, .inr (0, [.ref w11, .int 0, .int 0, .int 0])), (w11, .inl (cB, t11n, .inl f11)), (a12, .inr (0, [.ref w12, .int 0, .int 0, .int 0])), (w12, .inl (cB, t12n, .inl f12)), (b508, .inr (1, [.ref w509, .int 0, .int 0, .int (Int32.ofNat 0)])), (w509, .inl (cB, 16, .inl (fun _ => 0)))]) (pl := labX cB cC cI cO L0 ua v) (wr := [(a11, .inr (0, [.ref w11, .int 0, .int 0, .int 0])), (w11, .inl (cB, t11n, .inl f11)), (a12, .inr (0, [.ref w12, .int 0, .int 0, .int 0])), (w12, .inl (cB, t12n, .inl f12))]) (As := [.ref a12]) (st := []) (b := b508) C0 (jT_ok _ _ _ _) (xe_W (g := 0) C0 E0.1.2 2 3 rfl rfl 3 rfl [4, 5] rfl (by decide) (by decide)) (xr_w C0 4 rfl rfl) (mJ4_append_15ec4 l D cB cC cI cO a12 w12 t12n f12 b508 w509 0 0 16 (fun _ => 0) (fun _ => 0) (by omega) (by omega) hc12.2 (sbP0 w509)) hmJ4_append_15ec4 q_944 ⟨Nat.le_of_ble_eq_true rfl, Nat.le_of_ble_eq_true rfl⟩ rfl rfl ⟨by omega, by omega⟩ rfl [4, 5] [0, 1, 2, 3] rfl rfl rfl rfl (by decide) rfl rfl (Nat.le_of_ble_eq_true rfl) dL_law_599 (fun u511 => ?_)
  refine g_widen (kk1 := kk + 3) (nn1 := nn + 1420) (by omega) (by omega) ?_
  have qu511 : asc (0 + t12n) (tcat 0 (fun _ => 0) f12) := asc_cat (asc0 _) hc12.2
  have eu511 : ∀ j, j < 0 + t12n → (tcat 0 (fun _ => 0) f12) j = (tcat 0 (fun _ => 0) t12f) j := tcat_eq (fun _ _ => rfl) hx12
  refine g_eq (ws' := (List.append [(a11, .inr (0, [.ref w11, .int 0, .int 0, .int 0])), (w11, .inl (cB, t11n, .inl f11)), (a12, .inr (0, [.ref w12, .int 0, .int 0, .int 0])), (w12, .inl (cB, t12n, .inl f12)), (b508, .inr (1, [.ref u511.1.1, .int 0, .int 0, .int (Int32.ofNat (0 + t12n))])), (u511.1.1, .inl (cB, u511.1.2.1, .inl u511.1.2.2))] (labX cB cC cI cO L0 ua v))) rfl rfl rfl ?_
  refine g_iload C0 dL_law_602 12 rfl ?_
  refine g_if_le C0 (tgt := 612) dL_law_604 (by decide) (fun c512 => ?_) (fun c512 => ?_)
  · rw [if_pos c512] at hf
    refine g_ldcS C0 (E0.2.1.2 0 (123, "") rfl) dL_law_612 ?_
    obtain ⟨h513, hf⟩ := hl_ifS hf
    refine g_xVr (X := [(a11, .inr (0, [.ref w11, .int 0, .int 0, .int 0])), (w11, .inl (cB, t11n, .inl f11)), (a12, .inr (0, [.ref w12, .int 0, .int 0, .int 0])), (w12, .inl (cB, t12n, .inl f12)), (b508, .inr (1, [.ref u511.1.1, .int 0, .int 0, .int (Int32.ofNat (0 + t12n))])), (u511.1.1, .inl (cB, u511.1.2.1, .inl u511.1.2.2))]) (pl := labX cB cC cI cO L0 ua v) (wr := [(a11, .inr (0, [.ref w11, .int 0, .int 0, .int 0])), (w11, .inl (cB, t11n, .inl f11)), (a12, .inr (0, [.ref w12, .int 0, .int 0, .int 0])), (w12, .inl (cB, t12n, .inl f12))]) (As := [.ref (g.1 0)]) (st := []) (b := b508) C0 (jT_ok _ _ _ _) (xe_of C0 (jT_ok _ _ _ _) ⟨E0.1.2, hKt_tx E0.2.1 (by decide : 0 < 6)⟩) (xr_w C0 4 rfl rfl) (mJ4_append_15ec4 l D cB cC cI cO (g.1 0) (g.2.1 0) (kLen 0) (kByt 0) b508 u511.1.1 0 (0 + t12n) u511.1.2.1 u511.1.2.2 (tcat 0 (fun _ => 0) f12) (by omega) (by omega) (kAsc 0 (by decide)) u511.2) hmJ4_append_15ec4 q_944 ⟨Nat.le_of_ble_eq_true rfl, Nat.le_of_ble_eq_true rfl⟩ rfl rfl ⟨by omega, by omega⟩ rfl [4, 5] [0, 1, 2, 3] rfl rfl rfl rfl (by decide) rfl rfl (Nat.le_of_ble_eq_true rfl) dL_law_614 (fun u514 => ?_)
    refine g_widen (kk1 := kk + 4) (nn1 := nn + 2820) (by omega) (by omega) ?_
    have qu514 : asc ((0 + t12n) + (kLen 0)) (tcat (0 + t12n) (tcat 0 (fun _ => 0) f12) (kByt 0)) := asc_cat qu511 (kAsc 0 (by decide))
    have eu514 : ∀ j, j < (0 + t12n) + (kLen 0) → (tcat (0 + t12n) (tcat 0 (fun _ => 0) f12) (kByt 0)) j = (tcat (0 + t12n) (tcat 0 (fun _ => 0) t12f) (kByt 0)) j := tcat_eq eu511 (fun _ _ => rfl)
    refine g_eq (ws' := (List.append [(a11, .inr (0, [.ref w11, .int 0, .int 0, .int 0])), (w11, .inl (cB, t11n, .inl f11)), (a12, .inr (0, [.ref w12, .int 0, .int 0, .int 0])), (w12, .inl (cB, t12n, .inl f12)), (b508, .inr (1, [.ref u514.1.1, .int 0, .int 0, .int (Int32.ofNat ((0 + t12n) + (kLen 0)))])), (u514.1.1, .inl (cB, u514.1.2.1, .inl u514.1.2.2))] (labX cB cC cI cO L0 ua v))) rfl rfl rfl ?_
    refine g_iload C0 dL_law_617 13 rfl ?_
    obtain ⟨h515, hf⟩ := hl_ifS hf
    refine g_xVr (X := [(a11, .inr (0, [.ref w11, .int 0, .int 0, .int 0])), (w11, .inl (cB, t11n, .inl f11)), (a12, .inr (0, [.ref w12, .int 0, .int 0, .int 0])), (w12, .inl (cB, t12n, .inl f12)), (b508, .inr (1, [.ref u514.1.1, .int 0, .int 0, .int (Int32.ofNat ((0 + t12n) + (kLen 0)))])), (u514.1.1, .inl (cB, u514.1.2.1, .inl u514.1.2.2))]) (pl := labX cB cC cI cO L0 ua v) (wr := [(a11, .inr (0, [.ref w11, .int 0, .int 0, .int 0])), (w11, .inl (cB, t11n, .inl f11)), (a12, .inr (0, [.ref w12, .int 0, .int 0, .int 0])), (w12, .inl (cB, t12n, .inl f12))]) (As := [.int v14]) (st := []) (b := b508) C0 jE_ok (xe_of C0 jE_ok E0.1.2) (xr_w C0 4 rfl rfl) (mJ4_append_bf812 l D cB cC cI cO v14 (nLen v14) (nDig v14) b508 u514.1.1 0 ((0 + t12n) + (kLen 0)) u514.1.2.1 u514.1.2.2 (tcat (0 + t12n) (tcat 0 (fun _ => 0) f12) (kByt 0)) (by omega) (by omega) (numOK_T h515.2) u514.2) hmJ4_append_bf812 q_1039 ⟨Nat.le_of_ble_eq_true rfl, Nat.le_of_ble_eq_true rfl⟩ rfl rfl ⟨by omega, by omega⟩ rfl [4, 5] [0, 1, 2, 3] rfl rfl rfl rfl (by decide) rfl rfl (Nat.le_of_ble_eq_true rfl) dL_law_619 (fun u516 => ?_)
    refine g_widen (kk1 := kk + 5) (nn1 := nn + 4220) (by omega) (by omega) ?_
    have qu516 : asc (((0 + t12n) + (kLen 0)) + (nLen v14)) (tcat ((0 + t12n) + (kLen 0)) (tcat (0 + t12n) (tcat 0 (fun _ => 0) f12) (kByt 0)) (nDig v14)) := asc_cat qu514 (numOK_asc h515.2)
    have eu516 : ∀ j, j < ((0 + t12n) + (kLen 0)) + (nLen v14) → (tcat ((0 + t12n) + (kLen 0)) (tcat (0 + t12n) (tcat 0 (fun _ => 0) f12) (kByt 0)) (nDig v14)) j = (tcat ((0 + t12n) + (kLen 0)) (tcat (0 + t12n) (tcat 0 (fun _ => 0) t12f) (kByt 0)) (nDig v14)) j := tcat_eq eu514 (fun _ _ => rfl)
    refine g_eq (ws' := (List.append [(a11, .inr (0, [.ref w11, .int 0, .int 0, .int 0])), (w11, .inl (cB, t11n, .inl f11)), (a12, .inr (0, [.ref w12, .int 0, .int 0, .int 0])), (w12, .inl (cB, t12n, .inl f12)), (b508, .inr (1, [.ref u516.1.1, .int 0, .int 0, .int (Int32.ofNat (((0 + t12n) + (kLen 0)) + (nLen v14)))])), (u516.1.1, .inl (cB, u516.1.2.1, .inl u516.1.2.2))] (labX cB cC cI cO L0 ua v))) rfl rfl rfl ?_
    refine g_ldcS C0 (E0.2.1.2 5 (168, "=") rfl) dL_law_622 ?_
    obtain ⟨h517, hf⟩ := hl_ifS hf
    refine g_xVr (X := [(a11, .inr (0, [.ref w11, .int 0, .int 0, .int 0])), (w11, .inl (cB, t11n, .inl f11)), (a12, .inr (0, [.ref w12, .int 0, .int 0, .int 0])), (w12, .inl (cB, t12n, .inl f12)), (b508, .inr (1, [.ref u516.1.1, .int 0, .int 0, .int (Int32.ofNat (((0 + t12n) + (kLen 0)) + (nLen v14)))])), (u516.1.1, .inl (cB, u516.1.2.1, .inl u516.1.2.2))]) (pl := labX cB cC cI cO L0 ua v) (wr := [(a11, .inr (0, [.ref w11, .int 0, .int 0, .int 0])), (w11, .inl (cB, t11n, .inl f11)), (a12, .inr (0, [.ref w12, .int 0, .int 0, .int 0])), (w12, .inl (cB, t12n, .inl f12))]) (As := [.ref (g.1 5)]) (st := []) (b := b508) C0 (jT_ok _ _ _ _) (xe_of C0 (jT_ok _ _ _ _) ⟨E0.1.2, hKt_tx E0.2.1 (by decide : 5 < 6)⟩) (xr_w C0 4 rfl rfl) (mJ4_append_15ec4 l D cB cC cI cO (g.1 5) (g.2.1 5) (kLen 5) (kByt 5) b508 u516.1.1 0 (((0 + t12n) + (kLen 0)) + (nLen v14)) u516.1.2.1 u516.1.2.2 (tcat ((0 + t12n) + (kLen 0)) (tcat (0 + t12n) (tcat 0 (fun _ => 0) f12) (kByt 0)) (nDig v14)) (by omega) (by omega) (kAsc 5 (by decide)) u516.2) hmJ4_append_15ec4 q_944 ⟨Nat.le_of_ble_eq_true rfl, Nat.le_of_ble_eq_true rfl⟩ rfl rfl ⟨by omega, by omega⟩ rfl [4, 5] [0, 1, 2, 3] rfl rfl rfl rfl (by decide) rfl rfl (Nat.le_of_ble_eq_true rfl) dL_law_624 (fun u518 => ?_)
    refine g_widen (kk1 := kk + 6) (nn1 := nn + 5620) (by omega) (by omega) ?_
    have qu518 : asc ((((0 + t12n) + (kLen 0)) + (nLen v14)) + (kLen 5)) (tcat (((0 + t12n) + (kLen 0)) + (nLen v14)) (tcat ((0 + t12n) + (kLen 0)) (tcat (0 + t12n) (tcat 0 (fun _ => 0) f12) (kByt 0)) (nDig v14)) (kByt 5)) := asc_cat qu516 (kAsc 5 (by decide))
    have eu518 : ∀ j, j < (((0 + t12n) + (kLen 0)) + (nLen v14)) + (kLen 5) → (tcat (((0 + t12n) + (kLen 0)) + (nLen v14)) (tcat ((0 + t12n) + (kLen 0)) (tcat (0 + t12n) (tcat 0 (fun _ => 0) f12) (kByt 0)) (nDig v14)) (kByt 5)) j = (tcat (((0 + t12n) + (kLen 0)) + (nLen v14)) (tcat ((0 + t12n) + (kLen 0)) (tcat (0 + t12n) (tcat 0 (fun _ => 0) t12f) (kByt 0)) (nDig v14)) (kByt 5)) j := tcat_eq eu516 (fun _ _ => rfl)
    refine g_eq (ws' := (List.append [(a11, .inr (0, [.ref w11, .int 0, .int 0, .int 0])), (w11, .inl (cB, t11n, .inl f11)), (a12, .inr (0, [.ref w12, .int 0, .int 0, .int 0])), (w12, .inl (cB, t12n, .inl f12)), (b508, .inr (1, [.ref u518.1.1, .int 0, .int 0, .int (Int32.ofNat ((((0 + t12n) + (kLen 0)) + (nLen v14)) + (kLen 5)))])), (u518.1.1, .inl (cB, u518.1.2.1, .inl u518.1.2.2))] (labX cB cC cI cO L0 ua v))) rfl rfl rfl ?_
    refine g_aload_n C0 dL_law_627 rfl 1 rfl ?_
    refine g_iload C0 dL_law_628 13 rfl ?_
    obtain ⟨r519, er519, hf⟩ := hl_bd hf
    obtain ⟨z520, ez520, hf⟩ := hl_inl hf
    have kr519 := mg_get l hl0 D cB cC cI cO L0 ua v v14 r519 er519
    rw [ez520] at kr519
    refine g_sufNi C0 E0.1.1 (P := [(a11, .inr (0, [.ref w11, .int 0, .int 0, .int 0])), (w11, .inl (cB, t11n, .inl f11)), (a12, .inr (0, [.ref w12, .int 0, .int 0, .int 0])), (w12, .inl (cB, t12n, .inl f12)), (b508, .inr (1, [.ref u518.1.1, .int 0, .int 0, .int (Int32.ofNat ((((0 + t12n) + (kLen 0)) + (nLen v14)) + (kLen 5)))])), (u518.1.1, .inl (cB, u518.1.2.1, .inl u518.1.2.2))]) (X := labX cB cC cI cO L0 ua v) (X1 := labX cB cC cI cO L0 ua v) (As := [.int v14]) (st := [.ref b508]) kr519 hmX6_get q_281 ⟨Nat.le_of_ble_eq_true rfl, Nat.le_of_ble_eq_true rfl⟩ ⟨by omega, by omega⟩ rfl rfl rfl rfl rfl 0 rfl rfl rfl (Nat.le_of_ble_eq_true rfl) dL_law_630 ?_
    obtain ⟨h521, hf⟩ := hl_ifS hf
    refine g_xVr (X := [(a11, .inr (0, [.ref w11, .int 0, .int 0, .int 0])), (w11, .inl (cB, t11n, .inl f11)), (a12, .inr (0, [.ref w12, .int 0, .int 0, .int 0])), (w12, .inl (cB, t12n, .inl f12)), (b508, .inr (1, [.ref u518.1.1, .int 0, .int 0, .int (Int32.ofNat ((((0 + t12n) + (kLen 0)) + (nLen v14)) + (kLen 5)))])), (u518.1.1, .inl (cB, u518.1.2.1, .inl u518.1.2.2))]) (pl := labX cB cC cI cO L0 ua v) (wr := [(a11, .inr (0, [.ref w11, .int 0, .int 0, .int 0])), (w11, .inl (cB, t11n, .inl f11)), (a12, .inr (0, [.ref w12, .int 0, .int 0, .int 0])), (w12, .inl (cB, t12n, .inl f12))]) (As := [.int z520]) (st := []) (b := b508) C0 jE_ok (xe_of C0 jE_ok E0.1.2) (xr_w C0 4 rfl rfl) (mJ4_append_bf812 l D cB cC cI cO z520 (nLen z520) (nDig z520) b508 u518.1.1 0 ((((0 + t12n) + (kLen 0)) + (nLen v14)) + (kLen 5)) u518.1.2.1 u518.1.2.2 (tcat (((0 + t12n) + (kLen 0)) + (nLen v14)) (tcat ((0 + t12n) + (kLen 0)) (tcat (0 + t12n) (tcat 0 (fun _ => 0) f12) (kByt 0)) (nDig v14)) (kByt 5)) (by omega) (by omega) (numOK_T h521.2) u518.2) hmJ4_append_bf812 q_1039 ⟨Nat.le_of_ble_eq_true rfl, Nat.le_of_ble_eq_true rfl⟩ rfl rfl ⟨by omega, by omega⟩ rfl [4, 5] [0, 1, 2, 3] rfl rfl rfl rfl (by decide) rfl rfl (Nat.le_of_ble_eq_true rfl) dL_law_633 (fun u522 => ?_)
    refine g_widen (kk1 := kk + 8) (nn1 := nn + 7026) (by omega) (by omega) ?_
    have qu522 : asc (((((0 + t12n) + (kLen 0)) + (nLen v14)) + (kLen 5)) + (nLen z520)) (tcat ((((0 + t12n) + (kLen 0)) + (nLen v14)) + (kLen 5)) (tcat (((0 + t12n) + (kLen 0)) + (nLen v14)) (tcat ((0 + t12n) + (kLen 0)) (tcat (0 + t12n) (tcat 0 (fun _ => 0) f12) (kByt 0)) (nDig v14)) (kByt 5)) (nDig z520)) := asc_cat qu518 (numOK_asc h521.2)
    have eu522 : ∀ j, j < ((((0 + t12n) + (kLen 0)) + (nLen v14)) + (kLen 5)) + (nLen z520) → (tcat ((((0 + t12n) + (kLen 0)) + (nLen v14)) + (kLen 5)) (tcat (((0 + t12n) + (kLen 0)) + (nLen v14)) (tcat ((0 + t12n) + (kLen 0)) (tcat (0 + t12n) (tcat 0 (fun _ => 0) f12) (kByt 0)) (nDig v14)) (kByt 5)) (nDig z520)) j = (tcat ((((0 + t12n) + (kLen 0)) + (nLen v14)) + (kLen 5)) (tcat (((0 + t12n) + (kLen 0)) + (nLen v14)) (tcat ((0 + t12n) + (kLen 0)) (tcat (0 + t12n) (tcat 0 (fun _ => 0) t12f) (kByt 0)) (nDig v14)) (kByt 5)) (nDig z520)) j := tcat_eq eu518 (fun _ _ => rfl)
    refine g_eq (ws' := (List.append [(a11, .inr (0, [.ref w11, .int 0, .int 0, .int 0])), (w11, .inl (cB, t11n, .inl f11)), (a12, .inr (0, [.ref w12, .int 0, .int 0, .int 0])), (w12, .inl (cB, t12n, .inl f12)), (b508, .inr (1, [.ref u522.1.1, .int 0, .int 0, .int (Int32.ofNat (((((0 + t12n) + (kLen 0)) + (nLen v14)) + (kLen 5)) + (nLen z520)))])), (u522.1.1, .inl (cB, u522.1.2.1, .inl u522.1.2.2))] (labX cB cC cI cO L0 ua v))) rfl rfl rfl ?_
    refine g_xVr (X := [(a11, .inr (0, [.ref w11, .int 0, .int 0, .int 0])), (w11, .inl (cB, t11n, .inl f11)), (a12, .inr (0, [.ref w12, .int 0, .int 0, .int 0])), (w12, .inl (cB, t12n, .inl f12)), (b508, .inr (1, [.ref u522.1.1, .int 0, .int 0, .int (Int32.ofNat (((((0 + t12n) + (kLen 0)) + (nLen v14)) + (kLen 5)) + (nLen z520)))])), (u522.1.1, .inl (cB, u522.1.2.1, .inl u522.1.2.2))]) (pl := labX cB cC cI cO L0 ua v) (wr := [(a11, .inr (0, [.ref w11, .int 0, .int 0, .int 0])), (w11, .inl (cB, t11n, .inl f11)), (a12, .inr (0, [.ref w12, .int 0, .int 0, .int 0])), (w12, .inl (cB, t12n, .inl f12))]) (As := []) (st := []) (b := b508) C0 jE_ok (xe_of C0 jE_ok E0.1.2) (xr_w C0 4 rfl rfl) (mJ4_toString_0e30d l D cB cC cI cO b508 u522.1.1 0 (((((0 + t12n) + (kLen 0)) + (nLen v14)) + (kLen 5)) + (nLen z520)) u522.1.2.1 u522.1.2.2 (tcat ((((0 + t12n) + (kLen 0)) + (nLen v14)) + (kLen 5)) (tcat (((0 + t12n) + (kLen 0)) + (nLen v14)) (tcat ((0 + t12n) + (kLen 0)) (tcat (0 + t12n) (tcat 0 (fun _ => 0) f12) (kByt 0)) (nDig v14)) (kByt 5)) (nDig z520)) (by omega) u522.2) hmJ4_toString_0e30d q_1064 ⟨Nat.le_of_ble_eq_true rfl, Nat.le_of_ble_eq_true rfl⟩ rfl rfl ⟨by omega, by omega⟩ rfl [4, 5] [0, 1, 2, 3] rfl rfl rfl rfl (by decide) rfl rfl (Nat.le_of_ble_eq_true rfl) dL_law_636 (fun u523 => ?_)
    refine g_widen (kk1 := kk + 10) (nn1 := nn + 7730) (by omega) (by omega) ?_
    obtain ⟨⟨tau523, twu523, tfu523⟩, hfitu523, hyu523⟩ := u523
    have hxu523 : ∀ j, j < (((((0 + t12n) + (kLen 0)) + (nLen v14)) + (kLen 5)) + (nLen z520)) → tfu523 j = (tcat ((((0 + t12n) + (kLen 0)) + (nLen v14)) + (kLen 5)) (tcat (((0 + t12n) + (kLen 0)) + (nLen v14)) (tcat ((0 + t12n) + (kLen 0)) (tcat (0 + t12n) (tcat 0 (fun _ => 0) t12f) (kByt 0)) (nDig v14)) (kByt 5)) (nDig z520)) j := fun j hj => (hyu523 j hj).trans (eu522 j hj)
    have hcu523 : ascB (((((0 + t12n) + (kLen 0)) + (nLen v14)) + (kLen 5)) + (nLen z520)) tfu523 := ⟨by omega, asc_of hyu523 qu522⟩
    refine g_ordP (P' := [(a11, .inr (0, [.ref w11, .int 0, .int 0, .int 0])), (w11, .inl (cB, t11n, .inl f11)), (a12, .inr (0, [.ref w12, .int 0, .int 0, .int 0])), (w12, .inl (cB, t12n, .inl f12)), (tau523, .inr (0, [.ref twu523, .int 0, .int 0, .int 0])), (twu523, .inl (cB, (((((0 + t12n) + (kLen 0)) + (nLen v14)) + (kLen 5)) + (nLen z520)), .inl tfu523))]) (X := labX cB cC cI cO L0 ua v) [0, 1, 2, 3, 6, 7] rfl rfl rfl ?_
    refine g_eq (st' := [.ref tau523]) (ws' := (List.append [(a11, .inr (0, [.ref w11, .int 0, .int 0, .int 0])), (w11, .inl (cB, t11n, .inl f11)), (a12, .inr (0, [.ref w12, .int 0, .int 0, .int 0])), (w12, .inl (cB, t12n, .inl f12)), (tau523, .inr (0, [.ref twu523, .int 0, .int 0, .int 0])), (twu523, .inl (cB, (((((0 + t12n) + (kLen 0)) + (nLen v14)) + (kLen 5)) + (nLen z520)), .inl tfu523))] (labX cB cC cI cO L0 ua v))) rfl rfl rfl ?_
    refine g_astore C0 (lv' := [(12, .ref tau523), (0, .ref g.2.2.1), (1, .ref L0), (2, .int v2), (3, .int v3), (4, .int v4), (5, .int v5), (6, .int v6), (7, .int v7), (8, .int v8), (9, .int v9), (11, .ref a11), (13, .int v13), (14, .int v14)]) dL_law_639 (by decide) rfl ?_
    refine g_iinc C0 (lv' := [(13, .int (v13 + (1 : Int32))), (12, .ref tau523), (0, .ref g.2.2.1), (1, .ref L0), (2, .int v2), (3, .int v3), (4, .int v4), (5, .int v5), (6, .int v6), (7, .int v7), (8, .int v8), (9, .int v9), (11, .ref a11), (14, .int v14)]) dL_law_641 12 rfl rfl (by decide) rfl ?_
    refine g_goto C0 (tgt := 555) dL_law_644 (by decide) ?_
    refine g_ordP (P := [(a11, .inr (0, [.ref w11, .int 0, .int 0, .int 0])), (w11, .inl (cB, t11n, .inl f11)), (a12, .inr (0, [.ref w12, .int 0, .int 0, .int 0])), (w12, .inl (cB, t12n, .inl f12)), (tau523, .inr (0, [.ref twu523, .int 0, .int 0, .int 0])), (twu523, .inl (cB, (((((0 + t12n) + (kLen 0)) + (nLen v14)) + (kLen 5)) + (nLen z520)), .inl tfu523))]) (P' := [(a11, .inr (0, [.ref w11, .int 0, .int 0, .int 0])), (w11, .inl (cB, t11n, .inl f11)), (tau523, .inr (0, [.ref twu523, .int 0, .int 0, .int 0])), (twu523, .inl (cB, (((((0 + t12n) + (kLen 0)) + (nLen v14)) + (kLen 5)) + (nLen z520)), .inl tfu523))]) (X := labX cB cC cI cO L0 ua v) [0, 1, 4, 5] rfl rfl rfl ?_
    refine g_lv [2, 3, 4, 5, 6, 7, 8, 9, 10, 11, 12, 1, 0] (lv' := [(0, .ref g.2.2.1), (1, .ref L0), (2, .int v2), (3, .int v3), (4, .int v4), (5, .int v5), (6, .int v6), (7, .int v7), (8, .int v8), (9, .int v9), (11, .ref a11), (12, .ref tau523), (13, .int (v13 + (1 : Int32)))]) rfl ?_
    exact hrec555 v v2 v3 v4 v5 v6 v7 v8 v9 t11n t11f (((((0 + t12n) + (kLen 0)) + (nLen v14)) + (kLen 5)) + (nLen z520)) (tcat ((((0 + t12n) + (kLen 0)) + (nLen v14)) + (kLen 5)) (tcat (((0 + t12n) + (kLen 0)) + (nLen v14)) (tcat ((0 + t12n) + (kLen 0)) (tcat (0 + t12n) (tcat 0 (fun _ => 0) t12f) (kByt 0)) (nDig v14)) (kByt 5)) (nDig z520)) (v13 + (1 : Int32)) a11 w11 f11 hx11 hc11 tau523 twu523 tfu523 hxu523 hcu523 _ _ hf (by omega) (by omega)
  · rw [if_neg c512] at hf
    refine g_ldcS C0 (E0.2.1.2 4 (166, ",") rfl) dL_law_607 ?_
    refine g_goto C0 (tgt := 614) dL_law_609 (by decide) ?_
    obtain ⟨h524, hf⟩ := hl_ifS hf
    refine g_xVr (X := [(a11, .inr (0, [.ref w11, .int 0, .int 0, .int 0])), (w11, .inl (cB, t11n, .inl f11)), (a12, .inr (0, [.ref w12, .int 0, .int 0, .int 0])), (w12, .inl (cB, t12n, .inl f12)), (b508, .inr (1, [.ref u511.1.1, .int 0, .int 0, .int (Int32.ofNat (0 + t12n))])), (u511.1.1, .inl (cB, u511.1.2.1, .inl u511.1.2.2))]) (pl := labX cB cC cI cO L0 ua v) (wr := [(a11, .inr (0, [.ref w11, .int 0, .int 0, .int 0])), (w11, .inl (cB, t11n, .inl f11)), (a12, .inr (0, [.ref w12, .int 0, .int 0, .int 0])), (w12, .inl (cB, t12n, .inl f12))]) (As := [.ref (g.1 4)]) (st := []) (b := b508) C0 (jT_ok _ _ _ _) (xe_of C0 (jT_ok _ _ _ _) ⟨E0.1.2, hKt_tx E0.2.1 (by decide : 4 < 6)⟩) (xr_w C0 4 rfl rfl) (mJ4_append_15ec4 l D cB cC cI cO (g.1 4) (g.2.1 4) (kLen 4) (kByt 4) b508 u511.1.1 0 (0 + t12n) u511.1.2.1 u511.1.2.2 (tcat 0 (fun _ => 0) f12) (by omega) (by omega) (kAsc 4 (by decide)) u511.2) hmJ4_append_15ec4 q_944 ⟨Nat.le_of_ble_eq_true rfl, Nat.le_of_ble_eq_true rfl⟩ rfl rfl ⟨by omega, by omega⟩ rfl [4, 5] [0, 1, 2, 3] rfl rfl rfl rfl (by decide) rfl rfl (Nat.le_of_ble_eq_true rfl) dL_law_614 (fun u525 => ?_)
    refine g_widen (kk1 := kk + 4) (nn1 := nn + 2820) (by omega) (by omega) ?_
    have qu525 : asc ((0 + t12n) + (kLen 4)) (tcat (0 + t12n) (tcat 0 (fun _ => 0) f12) (kByt 4)) := asc_cat qu511 (kAsc 4 (by decide))
    have eu525 : ∀ j, j < (0 + t12n) + (kLen 4) → (tcat (0 + t12n) (tcat 0 (fun _ => 0) f12) (kByt 4)) j = (tcat (0 + t12n) (tcat 0 (fun _ => 0) t12f) (kByt 4)) j := tcat_eq eu511 (fun _ _ => rfl)
    refine g_eq (ws' := (List.append [(a11, .inr (0, [.ref w11, .int 0, .int 0, .int 0])), (w11, .inl (cB, t11n, .inl f11)), (a12, .inr (0, [.ref w12, .int 0, .int 0, .int 0])), (w12, .inl (cB, t12n, .inl f12)), (b508, .inr (1, [.ref u525.1.1, .int 0, .int 0, .int (Int32.ofNat ((0 + t12n) + (kLen 4)))])), (u525.1.1, .inl (cB, u525.1.2.1, .inl u525.1.2.2))] (labX cB cC cI cO L0 ua v))) rfl rfl rfl ?_
    refine g_iload C0 dL_law_617 13 rfl ?_
    obtain ⟨h526, hf⟩ := hl_ifS hf
    refine g_xVr (X := [(a11, .inr (0, [.ref w11, .int 0, .int 0, .int 0])), (w11, .inl (cB, t11n, .inl f11)), (a12, .inr (0, [.ref w12, .int 0, .int 0, .int 0])), (w12, .inl (cB, t12n, .inl f12)), (b508, .inr (1, [.ref u525.1.1, .int 0, .int 0, .int (Int32.ofNat ((0 + t12n) + (kLen 4)))])), (u525.1.1, .inl (cB, u525.1.2.1, .inl u525.1.2.2))]) (pl := labX cB cC cI cO L0 ua v) (wr := [(a11, .inr (0, [.ref w11, .int 0, .int 0, .int 0])), (w11, .inl (cB, t11n, .inl f11)), (a12, .inr (0, [.ref w12, .int 0, .int 0, .int 0])), (w12, .inl (cB, t12n, .inl f12))]) (As := [.int v14]) (st := []) (b := b508) C0 jE_ok (xe_of C0 jE_ok E0.1.2) (xr_w C0 4 rfl rfl) (mJ4_append_bf812 l D cB cC cI cO v14 (nLen v14) (nDig v14) b508 u525.1.1 0 ((0 + t12n) + (kLen 4)) u525.1.2.1 u525.1.2.2 (tcat (0 + t12n) (tcat 0 (fun _ => 0) f12) (kByt 4)) (by omega) (by omega) (numOK_T h526.2) u525.2) hmJ4_append_bf812 q_1039 ⟨Nat.le_of_ble_eq_true rfl, Nat.le_of_ble_eq_true rfl⟩ rfl rfl ⟨by omega, by omega⟩ rfl [4, 5] [0, 1, 2, 3] rfl rfl rfl rfl (by decide) rfl rfl (Nat.le_of_ble_eq_true rfl) dL_law_619 (fun u527 => ?_)
    refine g_widen (kk1 := kk + 5) (nn1 := nn + 4220) (by omega) (by omega) ?_
    have qu527 : asc (((0 + t12n) + (kLen 4)) + (nLen v14)) (tcat ((0 + t12n) + (kLen 4)) (tcat (0 + t12n) (tcat 0 (fun _ => 0) f12) (kByt 4)) (nDig v14)) := asc_cat qu525 (numOK_asc h526.2)
    have eu527 : ∀ j, j < ((0 + t12n) + (kLen 4)) + (nLen v14) → (tcat ((0 + t12n) + (kLen 4)) (tcat (0 + t12n) (tcat 0 (fun _ => 0) f12) (kByt 4)) (nDig v14)) j = (tcat ((0 + t12n) + (kLen 4)) (tcat (0 + t12n) (tcat 0 (fun _ => 0) t12f) (kByt 4)) (nDig v14)) j := tcat_eq eu525 (fun _ _ => rfl)
    refine g_eq (ws' := (List.append [(a11, .inr (0, [.ref w11, .int 0, .int 0, .int 0])), (w11, .inl (cB, t11n, .inl f11)), (a12, .inr (0, [.ref w12, .int 0, .int 0, .int 0])), (w12, .inl (cB, t12n, .inl f12)), (b508, .inr (1, [.ref u527.1.1, .int 0, .int 0, .int (Int32.ofNat (((0 + t12n) + (kLen 4)) + (nLen v14)))])), (u527.1.1, .inl (cB, u527.1.2.1, .inl u527.1.2.2))] (labX cB cC cI cO L0 ua v))) rfl rfl rfl ?_
    refine g_ldcS C0 (E0.2.1.2 5 (168, "=") rfl) dL_law_622 ?_
    obtain ⟨h528, hf⟩ := hl_ifS hf
    refine g_xVr (X := [(a11, .inr (0, [.ref w11, .int 0, .int 0, .int 0])), (w11, .inl (cB, t11n, .inl f11)), (a12, .inr (0, [.ref w12, .int 0, .int 0, .int 0])), (w12, .inl (cB, t12n, .inl f12)), (b508, .inr (1, [.ref u527.1.1, .int 0, .int 0, .int (Int32.ofNat (((0 + t12n) + (kLen 4)) + (nLen v14)))])), (u527.1.1, .inl (cB, u527.1.2.1, .inl u527.1.2.2))]) (pl := labX cB cC cI cO L0 ua v) (wr := [(a11, .inr (0, [.ref w11, .int 0, .int 0, .int 0])), (w11, .inl (cB, t11n, .inl f11)), (a12, .inr (0, [.ref w12, .int 0, .int 0, .int 0])), (w12, .inl (cB, t12n, .inl f12))]) (As := [.ref (g.1 5)]) (st := []) (b := b508) C0 (jT_ok _ _ _ _) (xe_of C0 (jT_ok _ _ _ _) ⟨E0.1.2, hKt_tx E0.2.1 (by decide : 5 < 6)⟩) (xr_w C0 4 rfl rfl) (mJ4_append_15ec4 l D cB cC cI cO (g.1 5) (g.2.1 5) (kLen 5) (kByt 5) b508 u527.1.1 0 (((0 + t12n) + (kLen 4)) + (nLen v14)) u527.1.2.1 u527.1.2.2 (tcat ((0 + t12n) + (kLen 4)) (tcat (0 + t12n) (tcat 0 (fun _ => 0) f12) (kByt 4)) (nDig v14)) (by omega) (by omega) (kAsc 5 (by decide)) u527.2) hmJ4_append_15ec4 q_944 ⟨Nat.le_of_ble_eq_true rfl, Nat.le_of_ble_eq_true rfl⟩ rfl rfl ⟨by omega, by omega⟩ rfl [4, 5] [0, 1, 2, 3] rfl rfl rfl rfl (by decide) rfl rfl (Nat.le_of_ble_eq_true rfl) dL_law_624 (fun u529 => ?_)
    refine g_widen (kk1 := kk + 6) (nn1 := nn + 5620) (by omega) (by omega) ?_
    have qu529 : asc ((((0 + t12n) + (kLen 4)) + (nLen v14)) + (kLen 5)) (tcat (((0 + t12n) + (kLen 4)) + (nLen v14)) (tcat ((0 + t12n) + (kLen 4)) (tcat (0 + t12n) (tcat 0 (fun _ => 0) f12) (kByt 4)) (nDig v14)) (kByt 5)) := asc_cat qu527 (kAsc 5 (by decide))
    have eu529 : ∀ j, j < (((0 + t12n) + (kLen 4)) + (nLen v14)) + (kLen 5) → (tcat (((0 + t12n) + (kLen 4)) + (nLen v14)) (tcat ((0 + t12n) + (kLen 4)) (tcat (0 + t12n) (tcat 0 (fun _ => 0) f12) (kByt 4)) (nDig v14)) (kByt 5)) j = (tcat (((0 + t12n) + (kLen 4)) + (nLen v14)) (tcat ((0 + t12n) + (kLen 4)) (tcat (0 + t12n) (tcat 0 (fun _ => 0) t12f) (kByt 4)) (nDig v14)) (kByt 5)) j := tcat_eq eu527 (fun _ _ => rfl)
    refine g_eq (ws' := (List.append [(a11, .inr (0, [.ref w11, .int 0, .int 0, .int 0])), (w11, .inl (cB, t11n, .inl f11)), (a12, .inr (0, [.ref w12, .int 0, .int 0, .int 0])), (w12, .inl (cB, t12n, .inl f12)), (b508, .inr (1, [.ref u529.1.1, .int 0, .int 0, .int (Int32.ofNat ((((0 + t12n) + (kLen 4)) + (nLen v14)) + (kLen 5)))])), (u529.1.1, .inl (cB, u529.1.2.1, .inl u529.1.2.2))] (labX cB cC cI cO L0 ua v))) rfl rfl rfl ?_
    refine g_aload_n C0 dL_law_627 rfl 1 rfl ?_
    refine g_iload C0 dL_law_628 13 rfl ?_
    obtain ⟨r530, er530, hf⟩ := hl_bd hf
    obtain ⟨z531, ez531, hf⟩ := hl_inl hf
    have kr530 := mg_get l hl0 D cB cC cI cO L0 ua v v14 r530 er530
    rw [ez531] at kr530
    refine g_sufNi C0 E0.1.1 (P := [(a11, .inr (0, [.ref w11, .int 0, .int 0, .int 0])), (w11, .inl (cB, t11n, .inl f11)), (a12, .inr (0, [.ref w12, .int 0, .int 0, .int 0])), (w12, .inl (cB, t12n, .inl f12)), (b508, .inr (1, [.ref u529.1.1, .int 0, .int 0, .int (Int32.ofNat ((((0 + t12n) + (kLen 4)) + (nLen v14)) + (kLen 5)))])), (u529.1.1, .inl (cB, u529.1.2.1, .inl u529.1.2.2))]) (X := labX cB cC cI cO L0 ua v) (X1 := labX cB cC cI cO L0 ua v) (As := [.int v14]) (st := [.ref b508]) kr530 hmX6_get q_281 ⟨Nat.le_of_ble_eq_true rfl, Nat.le_of_ble_eq_true rfl⟩ ⟨by omega, by omega⟩ rfl rfl rfl rfl rfl 0 rfl rfl rfl (Nat.le_of_ble_eq_true rfl) dL_law_630 ?_
    obtain ⟨h532, hf⟩ := hl_ifS hf
    refine g_xVr (X := [(a11, .inr (0, [.ref w11, .int 0, .int 0, .int 0])), (w11, .inl (cB, t11n, .inl f11)), (a12, .inr (0, [.ref w12, .int 0, .int 0, .int 0])), (w12, .inl (cB, t12n, .inl f12)), (b508, .inr (1, [.ref u529.1.1, .int 0, .int 0, .int (Int32.ofNat ((((0 + t12n) + (kLen 4)) + (nLen v14)) + (kLen 5)))])), (u529.1.1, .inl (cB, u529.1.2.1, .inl u529.1.2.2))]) (pl := labX cB cC cI cO L0 ua v) (wr := [(a11, .inr (0, [.ref w11, .int 0, .int 0, .int 0])), (w11, .inl (cB, t11n, .inl f11)), (a12, .inr (0, [.ref w12, .int 0, .int 0, .int 0])), (w12, .inl (cB, t12n, .inl f12))]) (As := [.int z531]) (st := []) (b := b508) C0 jE_ok (xe_of C0 jE_ok E0.1.2) (xr_w C0 4 rfl rfl) (mJ4_append_bf812 l D cB cC cI cO z531 (nLen z531) (nDig z531) b508 u529.1.1 0 ((((0 + t12n) + (kLen 4)) + (nLen v14)) + (kLen 5)) u529.1.2.1 u529.1.2.2 (tcat (((0 + t12n) + (kLen 4)) + (nLen v14)) (tcat ((0 + t12n) + (kLen 4)) (tcat (0 + t12n) (tcat 0 (fun _ => 0) f12) (kByt 4)) (nDig v14)) (kByt 5)) (by omega) (by omega) (numOK_T h532.2) u529.2) hmJ4_append_bf812 q_1039 ⟨Nat.le_of_ble_eq_true rfl, Nat.le_of_ble_eq_true rfl⟩ rfl rfl ⟨by omega, by omega⟩ rfl [4, 5] [0, 1, 2, 3] rfl rfl rfl rfl (by decide) rfl rfl (Nat.le_of_ble_eq_true rfl) dL_law_633 (fun u533 => ?_)
    refine g_widen (kk1 := kk + 8) (nn1 := nn + 7026) (by omega) (by omega) ?_
    have qu533 : asc (((((0 + t12n) + (kLen 4)) + (nLen v14)) + (kLen 5)) + (nLen z531)) (tcat ((((0 + t12n) + (kLen 4)) + (nLen v14)) + (kLen 5)) (tcat (((0 + t12n) + (kLen 4)) + (nLen v14)) (tcat ((0 + t12n) + (kLen 4)) (tcat (0 + t12n) (tcat 0 (fun _ => 0) f12) (kByt 4)) (nDig v14)) (kByt 5)) (nDig z531)) := asc_cat qu529 (numOK_asc h532.2)
    have eu533 : ∀ j, j < ((((0 + t12n) + (kLen 4)) + (nLen v14)) + (kLen 5)) + (nLen z531) → (tcat ((((0 + t12n) + (kLen 4)) + (nLen v14)) + (kLen 5)) (tcat (((0 + t12n) + (kLen 4)) + (nLen v14)) (tcat ((0 + t12n) + (kLen 4)) (tcat (0 + t12n) (tcat 0 (fun _ => 0) f12) (kByt 4)) (nDig v14)) (kByt 5)) (nDig z531)) j = (tcat ((((0 + t12n) + (kLen 4)) + (nLen v14)) + (kLen 5)) (tcat (((0 + t12n) + (kLen 4)) + (nLen v14)) (tcat ((0 + t12n) + (kLen 4)) (tcat (0 + t12n) (tcat 0 (fun _ => 0) t12f) (kByt 4)) (nDig v14)) (kByt 5)) (nDig z531)) j := tcat_eq eu529 (fun _ _ => rfl)
    refine g_eq (ws' := (List.append [(a11, .inr (0, [.ref w11, .int 0, .int 0, .int 0])), (w11, .inl (cB, t11n, .inl f11)), (a12, .inr (0, [.ref w12, .int 0, .int 0, .int 0])), (w12, .inl (cB, t12n, .inl f12)), (b508, .inr (1, [.ref u533.1.1, .int 0, .int 0, .int (Int32.ofNat (((((0 + t12n) + (kLen 4)) + (nLen v14)) + (kLen 5)) + (nLen z531)))])), (u533.1.1, .inl (cB, u533.1.2.1, .inl u533.1.2.2))] (labX cB cC cI cO L0 ua v))) rfl rfl rfl ?_
    refine g_xVr (X := [(a11, .inr (0, [.ref w11, .int 0, .int 0, .int 0])), (w11, .inl (cB, t11n, .inl f11)), (a12, .inr (0, [.ref w12, .int 0, .int 0, .int 0])), (w12, .inl (cB, t12n, .inl f12)), (b508, .inr (1, [.ref u533.1.1, .int 0, .int 0, .int (Int32.ofNat (((((0 + t12n) + (kLen 4)) + (nLen v14)) + (kLen 5)) + (nLen z531)))])), (u533.1.1, .inl (cB, u533.1.2.1, .inl u533.1.2.2))]) (pl := labX cB cC cI cO L0 ua v) (wr := [(a11, .inr (0, [.ref w11, .int 0, .int 0, .int 0])), (w11, .inl (cB, t11n, .inl f11)), (a12, .inr (0, [.ref w12, .int 0, .int 0, .int 0])), (w12, .inl (cB, t12n, .inl f12))]) (As := []) (st := []) (b := b508) C0 jE_ok (xe_of C0 jE_ok E0.1.2) (xr_w C0 4 rfl rfl) (mJ4_toString_0e30d l D cB cC cI cO b508 u533.1.1 0 (((((0 + t12n) + (kLen 4)) + (nLen v14)) + (kLen 5)) + (nLen z531)) u533.1.2.1 u533.1.2.2 (tcat ((((0 + t12n) + (kLen 4)) + (nLen v14)) + (kLen 5)) (tcat (((0 + t12n) + (kLen 4)) + (nLen v14)) (tcat ((0 + t12n) + (kLen 4)) (tcat (0 + t12n) (tcat 0 (fun _ => 0) f12) (kByt 4)) (nDig v14)) (kByt 5)) (nDig z531)) (by omega) u533.2) hmJ4_toString_0e30d q_1064 ⟨Nat.le_of_ble_eq_true rfl, Nat.le_of_ble_eq_true rfl⟩ rfl rfl ⟨by omega, by omega⟩ rfl [4, 5] [0, 1, 2, 3] rfl rfl rfl rfl (by decide) rfl rfl (Nat.le_of_ble_eq_true rfl) dL_law_636 (fun u534 => ?_)
    refine g_widen (kk1 := kk + 10) (nn1 := nn + 7730) (by omega) (by omega) ?_
    obtain ⟨⟨tau534, twu534, tfu534⟩, hfitu534, hyu534⟩ := u534
    have hxu534 : ∀ j, j < (((((0 + t12n) + (kLen 4)) + (nLen v14)) + (kLen 5)) + (nLen z531)) → tfu534 j = (tcat ((((0 + t12n) + (kLen 4)) + (nLen v14)) + (kLen 5)) (tcat (((0 + t12n) + (kLen 4)) + (nLen v14)) (tcat ((0 + t12n) + (kLen 4)) (tcat (0 + t12n) (tcat 0 (fun _ => 0) t12f) (kByt 4)) (nDig v14)) (kByt 5)) (nDig z531)) j := fun j hj => (hyu534 j hj).trans (eu533 j hj)
    have hcu534 : ascB (((((0 + t12n) + (kLen 4)) + (nLen v14)) + (kLen 5)) + (nLen z531)) tfu534 := ⟨by omega, asc_of hyu534 qu533⟩
    refine g_ordP (P' := [(a11, .inr (0, [.ref w11, .int 0, .int 0, .int 0])), (w11, .inl (cB, t11n, .inl f11)), (a12, .inr (0, [.ref w12, .int 0, .int 0, .int 0])), (w12, .inl (cB, t12n, .inl f12)), (tau534, .inr (0, [.ref twu534, .int 0, .int 0, .int 0])), (twu534, .inl (cB, (((((0 + t12n) + (kLen 4)) + (nLen v14)) + (kLen 5)) + (nLen z531)), .inl tfu534))]) (X := labX cB cC cI cO L0 ua v) [0, 1, 2, 3, 6, 7] rfl rfl rfl ?_
    refine g_eq (st' := [.ref tau534]) (ws' := (List.append [(a11, .inr (0, [.ref w11, .int 0, .int 0, .int 0])), (w11, .inl (cB, t11n, .inl f11)), (a12, .inr (0, [.ref w12, .int 0, .int 0, .int 0])), (w12, .inl (cB, t12n, .inl f12)), (tau534, .inr (0, [.ref twu534, .int 0, .int 0, .int 0])), (twu534, .inl (cB, (((((0 + t12n) + (kLen 4)) + (nLen v14)) + (kLen 5)) + (nLen z531)), .inl tfu534))] (labX cB cC cI cO L0 ua v))) rfl rfl rfl ?_
    refine g_astore C0 (lv' := [(12, .ref tau534), (0, .ref g.2.2.1), (1, .ref L0), (2, .int v2), (3, .int v3), (4, .int v4), (5, .int v5), (6, .int v6), (7, .int v7), (8, .int v8), (9, .int v9), (11, .ref a11), (13, .int v13), (14, .int v14)]) dL_law_639 (by decide) rfl ?_
    refine g_iinc C0 (lv' := [(13, .int (v13 + (1 : Int32))), (12, .ref tau534), (0, .ref g.2.2.1), (1, .ref L0), (2, .int v2), (3, .int v3), (4, .int v4), (5, .int v5), (6, .int v6), (7, .int v7), (8, .int v8), (9, .int v9), (11, .ref a11), (14, .int v14)]) dL_law_641 12 rfl rfl (by decide) rfl ?_
    refine g_goto C0 (tgt := 555) dL_law_644 (by decide) ?_
    refine g_ordP (P := [(a11, .inr (0, [.ref w11, .int 0, .int 0, .int 0])), (w11, .inl (cB, t11n, .inl f11)), (a12, .inr (0, [.ref w12, .int 0, .int 0, .int 0])), (w12, .inl (cB, t12n, .inl f12)), (tau534, .inr (0, [.ref twu534, .int 0, .int 0, .int 0])), (twu534, .inl (cB, (((((0 + t12n) + (kLen 4)) + (nLen v14)) + (kLen 5)) + (nLen z531)), .inl tfu534))]) (P' := [(a11, .inr (0, [.ref w11, .int 0, .int 0, .int 0])), (w11, .inl (cB, t11n, .inl f11)), (tau534, .inr (0, [.ref twu534, .int 0, .int 0, .int 0])), (twu534, .inl (cB, (((((0 + t12n) + (kLen 4)) + (nLen v14)) + (kLen 5)) + (nLen z531)), .inl tfu534))]) (X := labX cB cC cI cO L0 ua v) [0, 1, 4, 5] rfl rfl rfl ?_
    refine g_lv [2, 3, 4, 5, 6, 7, 8, 9, 10, 11, 12, 1, 0] (lv' := [(0, .ref g.2.2.1), (1, .ref L0), (2, .int v2), (3, .int v3), (4, .int v4), (5, .int v5), (6, .int v6), (7, .int v7), (8, .int v8), (9, .int v9), (11, .ref a11), (12, .ref tau534), (13, .int (v13 + (1 : Int32)))]) rfl ?_
    exact hrec555 v v2 v3 v4 v5 v6 v7 v8 v9 t11n t11f (((((0 + t12n) + (kLen 4)) + (nLen v14)) + (kLen 5)) + (nLen z531)) (tcat ((((0 + t12n) + (kLen 4)) + (nLen v14)) + (kLen 5)) (tcat (((0 + t12n) + (kLen 4)) + (nLen v14)) (tcat ((0 + t12n) + (kLen 4)) (tcat (0 + t12n) (tcat 0 (fun _ => 0) t12f) (kByt 4)) (nDig v14)) (kByt 5)) (nDig z531)) (v13 + (1 : Int32)) a11 w11 f11 hx11 hc11 tau534 twu534 tfu534 hxu534 hcu534 _ _ hf (by omega) (by omega)
