/-! the law, walked: 1 -/
def ascB (n : Nat) (f : Nat → Int32) : Prop := n ≤ 700 ∧ asc n f
set_option maxHeartbeats 8000000 in
set_option maxRecDepth 100000 in
theorem bL_law_1171 {p : Program} {l : Launch} {e : Env} {s : State} {m : MethodId} {args : Array Value} {below : List Frame} {meth : Method} {c : Code} {D : va_G} {cB cC cI cO : ClassId} {A : Nat → Prop} {g : LG} (C0 : gC RL cL_law 23 (some .boolean) p s m args meth c D (hTy cB cC cI cO) A) (E0 : hLw g A s) (hl0 : l.stackTraces = false) (K0 : Nat → Int32) (hK0 : fJ7_fill_53178 64 (fun _ => 0) (-1 : Int32) = some K0) {Q : State → Prop} (KE : ∀ (lv : List (Nat × Value)) (ws : va_W) (kk nn : Nat), kk ≤ room_1.cells → nn ≤ room_1.slots → gG p l e room_1 s m args below meth c D A 23 Q kk nn 1230 lv [.int 1] ws) (L0 : Nat) (ua : LA) (out : Unit) {B15a B15b : Nat} {B1019a B1019b : Nat} (rec15 : LV → Int32 → Option (Unit)) (rec1019 : LV → Int32 → Int32 → Int32 → Int32 → Int32 → Int32 → Option (Unit)) (hrec15 : ∀ (v : LV) (v2 : Int32)  (kk nn : Nat), rec15 v v2 = some out → kk + (B15a) ≤ room_1.cells → nn + (B15b) ≤ room_1.slots → gG p l e room_1 s m args below meth c D A 23 Q kk nn 15 [(0, .ref g.2.2.1), (1, .ref L0), (2, .int v2)] [] (List.append [] (labX cB cC cI cO L0 ua v))) (hrec1019 : ∀ (v : LV) (v2 : Int32) (v13 : Int32) (v14 : Int32) (v15 : Int32) (v16 : Int32) (v17 : Int32)  (kk nn : Nat), rec1019 v v2 v13 v14 v15 v16 v17 = some out → kk + (B1019a) ≤ room_1.cells → nn + (B1019b) ≤ room_1.slots → gG p l e room_1 s m args below meth c D A 23 Q kk nn 1019 [(0, .ref g.2.2.1), (1, .ref L0), (2, .int v2), (13, .int v13), (14, .int v14), (15, .int v15), (16, .int v16), (17, .int v17)] [] (List.append [] (labX cB cC cI cO L0 ua v))) : ∀ (v : LV) (v2 : Int32) (v13 : Int32) (v14 : Int32) (v15 : Int32) (v17 : Int32) (v21 : Int32) (k0 : Int32)  (kk nn : Nat), fL_law_1171 g K0 rec15 rec1019  v v2 v13 v14 v15 v17 v21 k0 = some out → kk + (1 + B1019a) ≤ room_1.cells → nn + (6 + B1019b) ≤ room_1.slots → gG p l e room_1 s m args below meth c D A 23 Q kk nn 1171 [(0, .ref g.2.2.1), (1, .ref L0), (2, .int v2), (13, .int v13), (14, .int v14), (15, .int v15), (17, .int v17), (21, .int v21)] [.int k0] (List.append [] (labX cB cC cI cO L0 ua v)) := by
  intro v v2 v13 v14 v15 v17 v21 k0 kk nn hf hb1 hb2
  unfold fL_law_1171 at hf
  refine g_istore C0 (lv' := [(16, .int k0), (0, .ref g.2.2.1), (1, .ref L0), (2, .int v2), (13, .int v13), (14, .int v14), (15, .int v15), (17, .int v17), (21, .int v21)]) dL_law_1171 (by decide) rfl ?_
  refine g_aload_n C0 dL_law_1173 rfl 2 rfl ?_
  refine g_iload C0 dL_law_1174 7 rfl ?_
  refine g_iload C0 dL_law_1176 4 rfl ?_
  refine g_iload C0 dL_law_1178 5 rfl ?_
  obtain ⟨r264, er264, hf⟩ := hl_bd hf
  obtain ⟨z265, ez265, hf⟩ := hl_inl hf
  have kr264 := mg_trial l hl0 D cB cC cI cO L0 ua v v17 v13 v14 r264 er264
  rw [ez265] at kr264
  refine g_sufNi C0 E0.1.1 (P := []) (X := labX cB cC cI cO L0 ua v) (X1 := labX cB cC cI cO L0 ua r264.2) (As := [.int v17, .int v13, .int v14]) (st := []) kr264 hmX6_trial q_545 ⟨Nat.le_of_ble_eq_true rfl, Nat.le_of_ble_eq_true rfl⟩ ⟨by omega, by omega⟩ rfl rfl rfl rfl rfl 0 rfl rfl rfl (Nat.le_of_ble_eq_true rfl) dL_law_1180 ?_
  refine g_iload C0 dL_law_1183 8 rfl ?_
  refine g_icmp_eq C0 (tgt := 1190) dL_law_1185 (by decide) (fun c266 => ?_) (fun c266 => ?_)
  · rw [if_pos c266] at hf
    refine g_iinc C0 (lv' := [(17, .int (v17 + (1 : Int32))), (16, .int k0), (0, .ref g.2.2.1), (1, .ref L0), (2, .int v2), (13, .int v13), (14, .int v14), (15, .int v15), (21, .int v21)]) dL_law_1190 7 rfl rfl (by decide) rfl ?_
    refine g_goto C0 (tgt := 1019) dL_law_1193 (by decide) ?_
    refine g_lv [2, 3, 4, 5, 6, 7, 1, 0] (lv' := [(0, .ref g.2.2.1), (1, .ref L0), (2, .int v2), (13, .int v13), (14, .int v14), (15, .int v15), (16, .int k0), (17, .int (v17 + (1 : Int32)))]) rfl ?_
    exact hrec1019 r264.2 v2 v13 v14 v15 k0 (v17 + (1 : Int32))  _ _ hf (by omega) (by omega)
  · rw [if_neg c266] at hf
    refine g_iconst C0 (v := (0 : Int32)) dL_law_1188 (by decide) ?_
    cases hf
set_option maxHeartbeats 8000000 in
set_option maxRecDepth 100000 in
theorem bL_law_1152 {p : Program} {l : Launch} {e : Env} {s : State} {m : MethodId} {args : Array Value} {below : List Frame} {meth : Method} {c : Code} {D : va_G} {cB cC cI cO : ClassId} {A : Nat → Prop} {g : LG} (C0 : gC RL cL_law 23 (some .boolean) p s m args meth c D (hTy cB cC cI cO) A) (E0 : hLw g A s) (hl0 : l.stackTraces = false) (K0 : Nat → Int32) (hK0 : fJ7_fill_53178 64 (fun _ => 0) (-1 : Int32) = some K0) {Q : State → Prop} (KE : ∀ (lv : List (Nat × Value)) (ws : va_W) (kk nn : Nat), kk ≤ room_1.cells → nn ≤ room_1.slots → gG p l e room_1 s m args below meth c D A 23 Q kk nn 1230 lv [.int 1] ws) (L0 : Nat) (ua : LA) (out : Unit) {B15a B15b : Nat} {B1019a B1019b : Nat} (rec15 : LV → Int32 → Option (Unit)) (rec1019 : LV → Int32 → Int32 → Int32 → Int32 → Int32 → Int32 → Option (Unit)) (hrec15 : ∀ (v : LV) (v2 : Int32)  (kk nn : Nat), rec15 v v2 = some out → kk + (B15a) ≤ room_1.cells → nn + (B15b) ≤ room_1.slots → gG p l e room_1 s m args below meth c D A 23 Q kk nn 15 [(0, .ref g.2.2.1), (1, .ref L0), (2, .int v2)] [] (List.append [] (labX cB cC cI cO L0 ua v))) (hrec1019 : ∀ (v : LV) (v2 : Int32) (v13 : Int32) (v14 : Int32) (v15 : Int32) (v16 : Int32) (v17 : Int32)  (kk nn : Nat), rec1019 v v2 v13 v14 v15 v16 v17 = some out → kk + (B1019a) ≤ room_1.cells → nn + (B1019b) ≤ room_1.slots → gG p l e room_1 s m args below meth c D A 23 Q kk nn 1019 [(0, .ref g.2.2.1), (1, .ref L0), (2, .int v2), (13, .int v13), (14, .int v14), (15, .int v15), (16, .int v16), (17, .int v17)] [] (List.append [] (labX cB cC cI cO L0 ua v))) : ∀ (v : LV) (v2 : Int32) (v13 : Int32) (v14 : Int32) (v16 : Int32) (v17 : Int32) (v21 : Int32) (k0 : Int32)  (kk nn : Nat), fL_law_1152 g K0 rec15 rec1019  v v2 v13 v14 v16 v17 v21 k0 = some out → kk + (1 + B1019a) ≤ room_1.cells → nn + (6 + B1019b) ≤ room_1.slots → gG p l e room_1 s m args below meth c D A 23 Q kk nn 1152 [(0, .ref g.2.2.1), (1, .ref L0), (2, .int v2), (13, .int v13), (14, .int v14), (16, .int v16), (17, .int v17), (21, .int v21)] [.int k0] (List.append [] (labX cB cC cI cO L0 ua v)) := by
  intro v v2 v13 v14 v16 v17 v21 k0 kk nn hf hb1 hb2
  unfold fL_law_1152 at hf
  refine g_istore C0 (lv' := [(15, .int k0), (0, .ref g.2.2.1), (1, .ref L0), (2, .int v2), (13, .int v13), (14, .int v14), (16, .int v16), (17, .int v17), (21, .int v21)]) dL_law_1152 (by decide) rfl ?_
  refine g_iload C0 dL_law_1154 7 rfl ?_
  refine g_if_ne C0 (tgt := 1164) dL_law_1156 (by decide) (fun c262 => ?_) (fun c262 => ?_)
  · rw [if_neg c262] at hf
    refine g_iload C0 dL_law_1164 6 rfl ?_
    refine g_iload C0 dL_law_1166 8 rfl ?_
    refine g_mmin C0 q_913 q_583 q_22 q_584 (Nat.le_of_ble_eq_true rfl) ⟨by omega, by omega⟩ (Nat.le_of_ble_eq_true rfl) dL_law_1168 ?_
    refine g_lv [1, 2, 3, 4, 5, 0, 7, 8] (lv' := [(0, .ref g.2.2.1), (1, .ref L0), (2, .int v2), (13, .int v13), (14, .int v14), (15, .int k0), (17, .int v17), (21, .int v21)]) rfl ?_
    exact bL_law_1171 C0 E0 hl0 K0 hK0 KE L0 ua out rec15 rec1019 hrec15 hrec1019   v v2 v13 v14 k0 v17 v21 (if v21 < v16 then v21 else v16)  _ _ hf (by omega) (by omega)
  · rw [if_pos c262] at hf
    refine g_iload C0 dL_law_1159 8 rfl ?_
    refine g_goto C0 (tgt := 1171) dL_law_1161 (by decide) ?_
    refine g_lv [1, 2, 3, 4, 5, 0, 7, 8] (lv' := [(0, .ref g.2.2.1), (1, .ref L0), (2, .int v2), (13, .int v13), (14, .int v14), (15, .int k0), (17, .int v17), (21, .int v21)]) rfl ?_
    exact bL_law_1171 C0 E0 hl0 K0 hK0 KE L0 ua out rec15 rec1019 hrec15 hrec1019   v v2 v13 v14 k0 v17 v21 v21  _ _ hf (by omega) (by omega)
set_option maxHeartbeats 8000000 in
set_option maxRecDepth 100000 in
theorem bL_law_1075 {p : Program} {l : Launch} {e : Env} {s : State} {m : MethodId} {args : Array Value} {below : List Frame} {meth : Method} {c : Code} {D : va_G} {cB cC cI cO : ClassId} {A : Nat → Prop} {g : LG} (C0 : gC RL cL_law 23 (some .boolean) p s m args meth c D (hTy cB cC cI cO) A) (E0 : hLw g A s) (hl0 : l.stackTraces = false) (K0 : Nat → Int32) (hK0 : fJ7_fill_53178 64 (fun _ => 0) (-1 : Int32) = some K0) {Q : State → Prop} (KE : ∀ (lv : List (Nat × Value)) (ws : va_W) (kk nn : Nat), kk ≤ room_1.cells → nn ≤ room_1.slots → gG p l e room_1 s m args below meth c D A 23 Q kk nn 1230 lv [.int 1] ws) (L0 : Nat) (ua : LA) (out : Unit) {B15a B15b : Nat} {B1019a B1019b : Nat} (rec15 : LV → Int32 → Option (Unit)) (rec1019 : LV → Int32 → Int32 → Int32 → Int32 → Int32 → Int32 → Option (Unit)) (hrec15 : ∀ (v : LV) (v2 : Int32)  (kk nn : Nat), rec15 v v2 = some out → kk + (B15a) ≤ room_1.cells → nn + (B15b) ≤ room_1.slots → gG p l e room_1 s m args below meth c D A 23 Q kk nn 15 [(0, .ref g.2.2.1), (1, .ref L0), (2, .int v2)] [] (List.append [] (labX cB cC cI cO L0 ua v))) (hrec1019 : ∀ (v : LV) (v2 : Int32) (v13 : Int32) (v14 : Int32) (v15 : Int32) (v16 : Int32) (v17 : Int32)  (kk nn : Nat), rec1019 v v2 v13 v14 v15 v16 v17 = some out → kk + (B1019a) ≤ room_1.cells → nn + (B1019b) ≤ room_1.slots → gG p l e room_1 s m args below meth c D A 23 Q kk nn 1019 [(0, .ref g.2.2.1), (1, .ref L0), (2, .int v2), (13, .int v13), (14, .int v14), (15, .int v15), (16, .int v16), (17, .int v17)] [] (List.append [] (labX cB cC cI cO L0 ua v))) : ∀ (n : Nat) (v : LV) (vq : LV) (v2 : Int32) (v13 : Int32) (v14 : Int32) (v15 : Int32) (v16 : Int32) (v17 : Int32) (v20 : Int32) (v21 : Int32) (v22 : Int32) (Lq : Nat) (uq : LA) (kk nn : Nat), fL_law_1075 g K0 rec15 rec1019 n v vq v2 v13 v14 v15 v16 v17 v20 v21 v22 = some out → kk + (n * 2 + (1 + B1019a)) ≤ room_1.cells → nn + (n * 12 + (6 + B1019b)) ≤ room_1.slots → gG p l e room_1 s m args below meth c D A 23 Q kk nn 1075 [(0, .ref g.2.2.1), (1, .ref L0), (2, .int v2), (13, .int v13), (14, .int v14), (15, .int v15), (16, .int v16), (17, .int v17), (18, .ref Lq), (20, .int v20), (21, .int v21), (22, .int v22)] [] (List.append (labX cB cC cI cO L0 ua v) (labX cB cC cI cO Lq uq vq)) := by
  intro n
  induction n with
  | zero => intro v vq v2 v13 v14 v15 v16 v17 v20 v21 v22 Lq uq kk nn hf hb1 hb2; rw [fL_law_1075] at hf; cases hf
  | succ n ih =>
    intro v vq v2 v13 v14 v15 v16 v17 v20 v21 v22 Lq uq kk nn hf hb1 hb2
    rw [fL_law_1075] at hf
    rw [Nat.succ_mul] at hb1 hb2
    refine g_iload C0 dL_law_1075 11 rfl ?_
    refine g_iload C0 dL_law_1077 4 rfl ?_
    refine g_icmp_ge C0 (tgt := 1133) dL_law_1079 (by decide) (fun c254 => ?_) (fun c254 => ?_)
    · rw [if_pos c254] at hf
      refine g_iload C0 dL_law_1133 7 rfl ?_
      refine g_if_eq C0 (tgt := 1145) dL_law_1135 (by decide) (fun c255 => ?_) (fun c255 => ?_)
      · rw [if_pos c255] at hf
        refine g_iload C0 dL_law_1145 7 rfl ?_
        refine g_goto C0 (tgt := 1152) dL_law_1147 (by decide) ?_
        refine g_dropR (X := labX cB cC cI cO L0 ua v) (P := labX cB cC cI cO Lq uq vq) rfl ?_
        refine g_lv [0, 1, 2, 3, 4, 6, 7, 10] (lv' := [(0, .ref g.2.2.1), (1, .ref L0), (2, .int v2), (13, .int v13), (14, .int v14), (16, .int v16), (17, .int v17), (21, .int v21)]) rfl ?_
        exact bL_law_1152 C0 E0 hl0 K0 hK0 KE L0 ua out rec15 rec1019 hrec15 hrec1019   v v2 v13 v14 v16 v17 v21 v17  _ _ hf (by omega) (by omega)
      · rw [if_neg c255] at hf
        refine g_iload C0 dL_law_1138 10 rfl ?_
        refine g_iload C0 dL_law_1140 6 rfl ?_
        refine g_icmp_ge C0 (tgt := 1150) dL_law_1142 (by decide) (fun c256 => ?_) (fun c256 => ?_)
        · rw [if_pos c256] at hf
          refine g_iload C0 dL_law_1150 5 rfl ?_
          refine g_dropR (X := labX cB cC cI cO L0 ua v) (P := labX cB cC cI cO Lq uq vq) rfl ?_
          refine g_lv [0, 1, 2, 3, 4, 6, 7, 10] (lv' := [(0, .ref g.2.2.1), (1, .ref L0), (2, .int v2), (13, .int v13), (14, .int v14), (16, .int v16), (17, .int v17), (21, .int v21)]) rfl ?_
          exact bL_law_1152 C0 E0 hl0 K0 hK0 KE L0 ua out rec15 rec1019 hrec15 hrec1019   v v2 v13 v14 v16 v17 v21 v15  _ _ hf (by omega) (by omega)
        · rw [if_neg c256] at hf
          refine g_iload C0 dL_law_1145 7 rfl ?_
          refine g_goto C0 (tgt := 1152) dL_law_1147 (by decide) ?_
          refine g_dropR (X := labX cB cC cI cO L0 ua v) (P := labX cB cC cI cO Lq uq vq) rfl ?_
          refine g_lv [0, 1, 2, 3, 4, 6, 7, 10] (lv' := [(0, .ref g.2.2.1), (1, .ref L0), (2, .int v2), (13, .int v13), (14, .int v14), (16, .int v16), (17, .int v17), (21, .int v21)]) rfl ?_
          exact bL_law_1152 C0 E0 hl0 K0 hK0 KE L0 ua out rec15 rec1019 hrec15 hrec1019   v v2 v13 v14 v16 v17 v21 v17  _ _ hf (by omega) (by omega)
    · rw [if_neg c254] at hf
      refine g_sipush C0 (v := (137 : Int32)) dL_law_1082 (by decide) ?_
      refine g_iload C0 dL_law_1085 9 rfl ?_
      refine g_imul C0 dL_law_1087 ?_
      refine g_bipush C0 (v := (59 : Int32)) dL_law_1088 (by decide) ?_
      refine g_iadd C0 dL_law_1090 ?_
      refine g_sipush C0 (v := (10007 : Int32)) dL_law_1091 (by decide) ?_
      refine g_irem C0 dL_law_1094 (by decide) ?_
      refine g_istore C0 (lv' := [(20, .int (hl_rem (((137 : Int32) * v20) + (59 : Int32)) (10007 : Int32))), (0, .ref g.2.2.1), (1, .ref L0), (2, .int v2), (13, .int v13), (14, .int v14), (15, .int v15), (16, .int v16), (17, .int v17), (18, .ref Lq), (21, .int v21), (22, .int v22)]) dL_law_1095 (by decide) rfl ?_
      refine g_iload C0 dL_law_1097 10 rfl ?_
      refine g_aload C0 dL_law_1099 9 rfl ?_
      refine g_iload C0 dL_law_1101 0 rfl ?_
      refine g_sipush C0 (v := (10000 : Int32)) dL_law_1103 (by decide) ?_
      refine g_irem C0 dL_law_1106 (by decide) ?_
      obtain ⟨r257, er257, hf⟩ := hl_bd hf
      obtain ⟨z258, ez258, hf⟩ := hl_inl hf
      have kr257 := mg_probes l hl0 D cB cC cI cO Lq uq vq (hl_rem (hl_rem (((137 : Int32) * v20) + (59 : Int32)) (10007 : Int32)) (10000 : Int32)) r257 er257
      rw [ez258] at kr257
      refine g_sufNi C0 E0.1.1 (P := labX cB cC cI cO L0 ua v) (X := labX cB cC cI cO Lq uq vq) (X1 := labX cB cC cI cO Lq uq vq) (As := [.int (hl_rem (hl_rem (((137 : Int32) * v20) + (59 : Int32)) (10007 : Int32)) (10000 : Int32))]) (st := [.int v21]) kr257 hmX6_probes q_412 ⟨Nat.le_of_ble_eq_true rfl, Nat.le_of_ble_eq_true rfl⟩ ⟨by omega, by omega⟩ rfl rfl rfl rfl rfl 0 rfl rfl rfl (Nat.le_of_ble_eq_true rfl) dL_law_1107 ?_
      refine g_iadd C0 dL_law_1110 ?_
      refine g_istore C0 (lv' := [(21, .int (v21 + z258)), (20, .int (hl_rem (((137 : Int32) * v20) + (59 : Int32)) (10007 : Int32))), (0, .ref g.2.2.1), (1, .ref L0), (2, .int v2), (13, .int v13), (14, .int v14), (15, .int v15), (16, .int v16), (17, .int v17), (18, .ref Lq), (22, .int v22)]) dL_law_1111 (by decide) rfl ?_
      refine g_aload C0 dL_law_1113 10 rfl ?_
      refine g_iload C0 dL_law_1115 1 rfl ?_
      refine g_sipush C0 (v := (10000 : Int32)) dL_law_1117 (by decide) ?_
      refine g_irem C0 dL_law_1120 (by decide) ?_
      refine g_iconst C0 (v := (1 : Int32)) dL_law_1121 (by decide) ?_
      obtain ⟨r259, er259, hf⟩ := hl_bd hf
      refine g_hSi C0 E0 (P := labX cB cC cI cO L0 ua v) (X := labX cB cC cI cO Lq uq vq) (X1 := labX cB cC cI cO Lq uq r259.2) (As := [.ref Lq, .int (hl_rem (hl_rem (((137 : Int32) * v20) + (59 : Int32)) (10007 : Int32)) (10000 : Int32)), .int (1 : Int32)]) (st := []) (mL_put l hl0 D cB cC cI cO g Lq uq vq (hl_rem (hl_rem (((137 : Int32) * v20) + (59 : Int32)) (10007 : Int32)) (10000 : Int32)) (1 : Int32) r259 er259) hmL_put q_764 ⟨Nat.le_of_ble_eq_true rfl, Nat.le_of_ble_eq_true rfl⟩ rfl rfl ⟨by omega, by omega⟩ rfl rfl rfl rfl (Nat.le_of_ble_eq_true rfl) dL_law_1122 ?_
      refine g_istore C0 (lv' := [(19, .int r259.1), (21, .int (v21 + z258)), (20, .int (hl_rem (((137 : Int32) * v20) + (59 : Int32)) (10007 : Int32))), (0, .ref g.2.2.1), (1, .ref L0), (2, .int v2), (13, .int v13), (14, .int v14), (15, .int v15), (16, .int v16), (17, .int v17), (18, .ref Lq), (22, .int v22)]) dL_law_1125 (by decide) rfl ?_
      refine g_iinc C0 (lv' := [(22, .int (v22 + (1 : Int32))), (19, .int r259.1), (21, .int (v21 + z258)), (20, .int (hl_rem (((137 : Int32) * v20) + (59 : Int32)) (10007 : Int32))), (0, .ref g.2.2.1), (1, .ref L0), (2, .int v2), (13, .int v13), (14, .int v14), (15, .int v15), (16, .int v16), (17, .int v17), (18, .ref Lq)]) dL_law_1127 12 rfl rfl (by decide) rfl ?_
      refine g_goto C0 (tgt := 1075) dL_law_1130 (by decide) ?_
      refine g_lv [4, 5, 6, 7, 8, 9, 10, 11, 12, 3, 2, 0] (lv' := [(0, .ref g.2.2.1), (1, .ref L0), (2, .int v2), (13, .int v13), (14, .int v14), (15, .int v15), (16, .int v16), (17, .int v17), (18, .ref Lq), (20, .int (hl_rem (((137 : Int32) * v20) + (59 : Int32)) (10007 : Int32))), (21, .int (v21 + z258)), (22, .int (v22 + (1 : Int32)))]) rfl ?_
      exact ih v r259.2 v2 v13 v14 v15 v16 v17 (hl_rem (((137 : Int32) * v20) + (59 : Int32)) (10007 : Int32)) (v21 + z258) (v22 + (1 : Int32)) Lq uq _ _ hf (by omega) (by omega)
