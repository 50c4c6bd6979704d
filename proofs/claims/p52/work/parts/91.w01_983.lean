/-! the law, walked: 2 -/
set_option maxHeartbeats 8000000 in
set_option maxRecDepth 100000 in
theorem bL_law_1019 {p : Program} {l : Launch} {e : Env} {s : State} {m : MethodId} {args : Array Value} {below : List Frame} {meth : Method} {c : Code} {D : va_G} {cB cC cI cO : ClassId} {A : Nat → Prop} {g : LG} (C0 : gC RL cL_law 23 (some .boolean) p s m args meth c D (hTy cB cC cI cO) A) (E0 : hLw g A s) (hl0 : l.stackTraces = false) (K0 : Nat → Int32) (hK0 : fJ7_fill_53178 64 (fun _ => 0) (-1 : Int32) = some K0) {Q : State → Prop} (KE : ∀ (lv : List (Nat × Value)) (ws : va_W) (kk nn : Nat), kk ≤ room_1.cells → nn ≤ room_1.slots → gG p l e room_1 s m args below meth c D A 23 Q kk nn 1230 lv [.int 1] ws) (L0 : Nat) (ua : LA) (out : Unit) {B15a B15b : Nat} (rec15 : LV → Int32 → Option (Unit)) (hrec15 : ∀ (v : LV) (v2 : Int32)  (kk nn : Nat), rec15 v v2 = some out → kk + (B15a) ≤ room_1.cells → nn + (B15b) ≤ room_1.slots → gG p l e room_1 s m args below meth c D A 23 Q kk nn 15 [(0, .ref g.2.2.1), (1, .ref L0), (2, .int v2)] [] (List.append [] (labX cB cC cI cO L0 ua v))) : ∀ (n : Nat) (v : LV) (v2 : Int32) (v13 : Int32) (v14 : Int32) (v15 : Int32) (v16 : Int32) (v17 : Int32)  (kk nn : Nat), fL_law_1019 g K0 rec15 n v v2 v13 v14 v15 v16 v17 = some out → kk + (n * 104 + (3 + B15a)) ≤ room_1.cells → nn + (n * 4330 + (18 + B15b)) ≤ room_1.slots → gG p l e room_1 s m args below meth c D A 23 Q kk nn 1019 [(0, .ref g.2.2.1), (1, .ref L0), (2, .int v2), (13, .int v13), (14, .int v14), (15, .int v15), (16, .int v16), (17, .int v17)] [] (List.append [] (labX cB cC cI cO L0 ua v)) := by
  intro n
  induction n with
  | zero => intro v v2 v13 v14 v15 v16 v17 kk nn hf hb1 hb2; rw [fL_law_1019] at hf; cases hf
  | succ n ih =>
    intro v v2 v13 v14 v15 v16 v17 kk nn hf hb1 hb2
    rw [fL_law_1019] at hf
    rw [Nat.succ_mul] at hb1 hb2
    refine g_iload C0 dL_law_1019 7 rfl ?_
    refine g_iconst C0 (v := (3 : Int32)) dL_law_1021 (by decide) ?_
    refine g_icmp_ge C0 (tgt := 1196) dL_law_1022 (by decide) (fun c214 => ?_) (fun c214 => ?_)
    · rw [if_pos c214] at hf
      refine g_aload_n C0 dL_law_1196 rfl 1 rfl ?_
      refine g_iload C0 dL_law_1197 3 rfl ?_
      refine g_iload C0 dL_law_1199 4 rfl ?_
      obtain ⟨r215, er215, hf⟩ := hl_bd hf
      obtain ⟨z216, ez216, hf⟩ := hl_inl hf
      have kr215 := mg_bestKind l hl0 D cB cC cI cO L0 ua v v13 v14 r215 er215
      rw [ez216] at kr215
      refine g_sufNi C0 E0.1.1 (P := []) (X := labX cB cC cI cO L0 ua v) (X1 := labX cB cC cI cO L0 ua r215.2) (As := [.int v13, .int v14]) (st := []) kr215 hmX6_bestKind q_596 ⟨Nat.le_of_ble_eq_true rfl, Nat.le_of_ble_eq_true rfl⟩ ⟨by omega, by omega⟩ rfl rfl rfl rfl rfl 0 rfl rfl rfl (Nat.le_of_ble_eq_true rfl) dL_law_1201 ?_
      refine g_iload C0 dL_law_1204 5 rfl ?_
      refine g_icmp_eq C0 (tgt := 1211) dL_law_1206 (by decide) (fun c217 => ?_) (fun c217 => ?_)
      · rw [if_pos c217] at hf
        refine g_aload_n C0 dL_law_1211 rfl 1 rfl ?_
        refine g_aload_n C0 dL_law_1212 rfl 0 rfl ?_
        refine g_sipush C0 (v := (130 : Int32)) dL_law_1213 (by decide) ?_
        refine g_iconst C0 (v := (3 : Int32)) dL_law_1216 (by decide) ?_
        refine g_iload_n C0 dL_law_1217 rfl 2 rfl ?_
        refine g_imul C0 dL_law_1218 ?_
        refine g_iadd C0 dL_law_1219 ?_
        obtain ⟨r218, er218, hf⟩ := hl_bd hf
        refine g_lSv C0 E0 (P := []) (X := labX cB cC cI cO L0 ua r215.2) (X1 := labX cB cC cI cO L0 ua r218) (As := [.ref L0, .ref g.2.2.1, .int ((130 : Int32) + ((3 : Int32) * v2))]) (st := []) (mL_acts l hl0 D cB cC cI cO g L0 ua r215.2 ((130 : Int32) + ((3 : Int32) * v2)) r218 er218) hmL_acts q_796 ⟨Nat.le_of_ble_eq_true rfl, Nat.le_of_ble_eq_true rfl⟩ rfl rfl ⟨by omega, by omega⟩ rfl rfl rfl rfl (Nat.le_of_ble_eq_true rfl) dL_law_1220 ?_
        refine g_iinc C0 (lv' := [(2, .int (v2 + (1 : Int32))), (0, .ref g.2.2.1), (1, .ref L0), (13, .int v13), (14, .int v14), (15, .int v15), (16, .int v16), (17, .int v17)]) dL_law_1223 2 rfl rfl (by decide) rfl ?_
        refine g_goto C0 (tgt := 15) dL_law_1226 (by decide) ?_
        refine g_lv [1, 2, 0] (lv' := [(0, .ref g.2.2.1), (1, .ref L0), (2, .int (v2 + (1 : Int32)))]) rfl ?_
        exact hrec15 r218 (v2 + (1 : Int32))  _ _ hf (by omega) (by omega)
      · rw [if_neg c217] at hf
        refine g_iconst C0 (v := (0 : Int32)) dL_law_1209 (by decide) ?_
        cases hf
    · rw [if_neg c214] at hf
      refine g_new (ci := 6) (fs := labNew) C0 hinX6 tyX6_ok q_43 q_44 q_12 rfl (fun z hz => hl_dX6 z hz) (by omega) (by omega) dL_law_1025 (fun Lq219 => ?_)
      refine g_dup C0 dL_law_1028 rfl ?_
      refine g_ctorO (P := labX cB cC cI cO L0 ua v) (X := [(Lq219, .inr (6, labNew))]) (As := []) (st := [.ref Lq219]) (b := Lq219) C0 E0.2.2.2.1 (mX6_init l D cB cC cI cO Lq219 K0 hK0) hmX6_init q_45 ⟨Nat.le_of_ble_eq_true rfl, Nat.le_of_ble_eq_true rfl⟩ rfl rfl ⟨by omega, by omega⟩ rfl rfl rfl (Nat.le_of_ble_eq_true rfl) dL_law_1029 (fun ua220 => ?_)
      refine g_eq (ws' := (List.append (labX cB cC cI cO L0 ua v) (labX cB cC cI cO Lq219 ua220 (lv0 K0)))) rfl rfl rfl ?_
      refine g_astore C0 (lv' := [(18, .ref Lq219), (0, .ref g.2.2.1), (1, .ref L0), (2, .int v2), (13, .int v13), (14, .int v14), (15, .int v15), (16, .int v16), (17, .int v17)]) dL_law_1032 (by decide) rfl ?_
      refine g_aload C0 dL_law_1034 0 rfl ?_
      refine g_iload C0 dL_law_1036 8 rfl ?_
      obtain ⟨r221, er221, hf⟩ := hl_bd hf
      refine g_hSi C0 E0 (P := labX cB cC cI cO L0 ua v) (X := labX cB cC cI cO Lq219 ua220 (lv0 K0)) (X1 := labX cB cC cI cO Lq219 ua220 r221.2) (As := [.ref Lq219, .int v17]) (st := []) (mL_setKind l hl0 D cB cC cI cO g Lq219 ua220 (lv0 K0) v17 r221 er221) hmL_setKind q_673 ⟨Nat.le_of_ble_eq_true rfl, Nat.le_of_ble_eq_true rfl⟩ rfl rfl ⟨by omega, by omega⟩ rfl rfl rfl rfl (Nat.le_of_ble_eq_true rfl) dL_law_1038 ?_
      refine g_istore C0 (lv' := [(19, .int r221.1), (18, .ref Lq219), (0, .ref g.2.2.1), (1, .ref L0), (2, .int v2), (13, .int v13), (14, .int v14), (15, .int v15), (16, .int v16), (17, .int v17)]) dL_law_1041 (by decide) rfl ?_
      refine g_iload C0 dL_law_1043 5 rfl ?_
      refine g_istore C0 (lv' := [(20, .int v13), (19, .int r221.1), (18, .ref Lq219), (0, .ref g.2.2.1), (1, .ref L0), (2, .int v2), (13, .int v13), (14, .int v14), (15, .int v15), (16, .int v16), (17, .int v17)]) dL_law_1045 (by decide) rfl ?_
      refine g_iconst C0 (v := (0 : Int32)) dL_law_1047 (by decide) ?_
      refine g_istore C0 (lv' := [(21, .int (0 : Int32)), (20, .int v13), (19, .int r221.1), (18, .ref Lq219), (0, .ref g.2.2.1), (1, .ref L0), (2, .int v2), (13, .int v13), (14, .int v14), (15, .int v15), (16, .int v16), (17, .int v17)]) dL_law_1048 (by decide) rfl ?_
      refine g_aload C0 dL_law_1050 3 rfl ?_
      refine g_aload_n C0 dL_law_1052 rfl 5 rfl ?_
      obtain ⟨r222, er222, hf⟩ := hl_bd hf
      refine g_prei C0 (P := labX cB cC cI cO Lq219 ua220 r221.2) (X := labX cB cC cI cO L0 ua v) (X1 := labX cB cC cI cO L0 ua v) (As := []) (st := [.ref Lq219]) (mg_seed l D cB cC cI cO L0 ua v  r222 er222) hmX6_seed q_209 ⟨Nat.le_of_ble_eq_true rfl, Nat.le_of_ble_eq_true rfl⟩ ⟨by omega, by omega⟩ rfl rfl rfl rfl rfl 0 rfl rfl rfl (Nat.le_of_ble_eq_true rfl) dL_law_1053 ?_
      obtain ⟨r223, er223, hf⟩ := hl_bd hf
      refine g_hSi C0 E0 (P := labX cB cC cI cO L0 ua v) (X := labX cB cC cI cO Lq219 ua220 r221.2) (X1 := labX cB cC cI cO Lq219 ua220 r223.2) (As := [.ref Lq219, .int r222]) (st := []) (mL_setSeed l hl0 D cB cC cI cO g Lq219 ua220 r221.2 r222 r223 er223) hmL_setSeed q_692 ⟨Nat.le_of_ble_eq_true rfl, Nat.le_of_ble_eq_true rfl⟩ rfl rfl ⟨by omega, by omega⟩ rfl rfl rfl rfl (Nat.le_of_ble_eq_true rfl) dL_law_1056 ?_
      refine g_istore C0 (lv' := [(19, .int r223.1), (21, .int (0 : Int32)), (20, .int v13), (18, .ref Lq219), (0, .ref g.2.2.1), (1, .ref L0), (2, .int v2), (13, .int v13), (14, .int v14), (15, .int v15), (16, .int v16), (17, .int v17)]) dL_law_1059 (by decide) rfl ?_
      refine g_aload C0 dL_law_1061 3 rfl ?_
      refine g_aload_n C0 dL_law_1063 rfl 5 rfl ?_
      obtain ⟨r224, er224, hf⟩ := hl_bd hf
      refine g_prei C0 (P := labX cB cC cI cO Lq219 ua220 r223.2) (X := labX cB cC cI cO L0 ua v) (X1 := labX cB cC cI cO L0 ua v) (As := []) (st := [.ref Lq219]) (mg_limit l D cB cC cI cO L0 ua v  r224 er224) hmX6_limit q_213 ⟨Nat.le_of_ble_eq_true rfl, Nat.le_of_ble_eq_true rfl⟩ ⟨by omega, by omega⟩ rfl rfl rfl rfl rfl 0 rfl rfl rfl (Nat.le_of_ble_eq_true rfl) dL_law_1064 ?_
      obtain ⟨r225, er225, hf⟩ := hl_bd hf
      refine g_hSi C0 E0 (P := labX cB cC cI cO L0 ua v) (X := labX cB cC cI cO Lq219 ua220 r223.2) (X1 := labX cB cC cI cO Lq219 ua220 r225.2) (As := [.ref Lq219, .int r224]) (st := []) (mL_setLimit l hl0 D cB cC cI cO g Lq219 ua220 r223.2 r224 r225 er225) hmL_setLimit q_707 ⟨Nat.le_of_ble_eq_true rfl, Nat.le_of_ble_eq_true rfl⟩ rfl rfl ⟨by omega, by omega⟩ rfl rfl rfl rfl (Nat.le_of_ble_eq_true rfl) dL_law_1067 ?_
      refine g_istore C0 (lv' := [(19, .int r225.1), (21, .int (0 : Int32)), (20, .int v13), (18, .ref Lq219), (0, .ref g.2.2.1), (1, .ref L0), (2, .int v2), (13, .int v13), (14, .int v14), (15, .int v15), (16, .int v16), (17, .int v17)]) dL_law_1070 (by decide) rfl ?_
      refine g_iconst C0 (v := (0 : Int32)) dL_law_1072 (by decide) ?_
      refine g_istore C0 (lv' := [(22, .int (0 : Int32)), (19, .int r225.1), (21, .int (0 : Int32)), (20, .int v13), (18, .ref Lq219), (0, .ref g.2.2.1), (1, .ref L0), (2, .int v2), (13, .int v13), (14, .int v14), (15, .int v15), (16, .int v16), (17, .int v17)]) dL_law_1073 (by decide) rfl ?_
      refine g_lv [5, 6, 7, 8, 9, 10, 11, 12, 4, 3, 2, 0] (lv' := [(0, .ref g.2.2.1), (1, .ref L0), (2, .int v2), (13, .int v13), (14, .int v14), (15, .int v15), (16, .int v16), (17, .int v17), (18, .ref Lq219), (20, .int v13), (21, .int (0 : Int32)), (22, .int (0 : Int32))]) rfl ?_
      exact bL_law_1075 C0 E0 hl0 K0 hK0 KE L0 ua out rec15 (fL_law_1019 g K0 rec15 n) hrec15 ih  15  v r225.2 v2 v13 v14 v15 v16 v17 v13 (0 : Int32) (0 : Int32) Lq219 ua220 _ _ hf (by omega) (by omega)
set_option maxHeartbeats 8000000 in
set_option maxRecDepth 100000 in
theorem bL_law_983 {p : Program} {l : Launch} {e : Env} {s : State} {m : MethodId} {args : Array Value} {below : List Frame} {meth : Method} {c : Code} {D : va_G} {cB cC cI cO : ClassId} {A : Nat → Prop} {g : LG} (C0 : gC RL cL_law 23 (some .boolean) p s m args meth c D (hTy cB cC cI cO) A) (E0 : hLw g A s) (hl0 : l.stackTraces = false) (K0 : Nat → Int32) (hK0 : fJ7_fill_53178 64 (fun _ => 0) (-1 : Int32) = some K0) {Q : State → Prop} (KE : ∀ (lv : List (Nat × Value)) (ws : va_W) (kk nn : Nat), kk ≤ room_1.cells → nn ≤ room_1.slots → gG p l e room_1 s m args below meth c D A 23 Q kk nn 1230 lv [.int 1] ws) (L0 : Nat) (ua : LA) (out : Unit) {B15a B15b : Nat} (rec15 : LV → Int32 → Option (Unit)) (hrec15 : ∀ (v : LV) (v2 : Int32)  (kk nn : Nat), rec15 v v2 = some out → kk + (B15a) ≤ room_1.cells → nn + (B15b) ≤ room_1.slots → gG p l e room_1 s m args below meth c D A 23 Q kk nn 15 [(0, .ref g.2.2.1), (1, .ref L0), (2, .int v2)] [] (List.append [] (labX cB cC cI cO L0 ua v))) : ∀ (v : LV) (v2 : Int32)  (kk nn : Nat), fL_law_983 g K0 rec15  v v2 = some out → kk + (419 + B15a) ≤ room_1.cells → nn + (17338 + B15b) ≤ room_1.slots → gG p l e room_1 s m args below meth c D A 23 Q kk nn 983 [(0, .ref g.2.2.1), (1, .ref L0), (2, .int v2)] [] (List.append [] (labX cB cC cI cO L0 ua v)) := by
  intro v v2 kk nn hf hb1 hb2
  unfold fL_law_983 at hf
  refine g_aload_n C0 dL_law_983 rfl 0 rfl ?_
  refine g_bipush C0 (v := (120 : Int32)) dL_law_984 (by decide) ?_
  refine g_iload_n C0 dL_law_986 rfl 2 rfl ?_
  refine g_iadd C0 dL_law_987 ?_
  refine g_sipush C0 (v := (10007 : Int32)) dL_law_988 (by decide) ?_
  obtain ⟨r139, er139, hf⟩ := hl_bd hf
  refine g_l0i C0 E0 (mL_some l hl0 D cB cC cI cO g ((120 : Int32) + v2) (10007 : Int32) r139 er139) hmL_some q_667 ⟨Nat.le_of_ble_eq_true rfl, Nat.le_of_ble_eq_true rfl⟩ rfl rfl ⟨by omega, by omega⟩ rfl rfl (Nat.le_of_ble_eq_true rfl) dL_law_991 ?_
  refine g_istore C0 (lv' := [(13, .int r139), (0, .ref g.2.2.1), (1, .ref L0), (2, .int v2)]) dL_law_994 (by decide) rfl ?_
  refine g_iconst C0 (v := (1 : Int32)) dL_law_996 (by decide) ?_
  refine g_aload_n C0 dL_law_997 rfl 1 rfl ?_
  refine g_bipush C0 (v := (124 : Int32)) dL_law_998 (by decide) ?_
  refine g_iload_n C0 dL_law_1000 rfl 3 rfl ?_
  refine g_iadd C0 dL_law_1001 ?_
  refine g_bipush C0 (v := (14 : Int32)) dL_law_1002 (by decide) ?_
  obtain ⟨r140, er140, hf⟩ := hl_bd hf
  refine g_l0i C0 E0 (mL_some l hl0 D cB cC cI cO g ((124 : Int32) + v2) (14 : Int32) r140 er140) hmL_some q_667 ⟨Nat.le_of_ble_eq_true rfl, Nat.le_of_ble_eq_true rfl⟩ rfl rfl ⟨by omega, by omega⟩ rfl rfl (Nat.le_of_ble_eq_true rfl) dL_law_1004 ?_
  refine g_iadd C0 dL_law_1007 ?_
  refine g_istore C0 (lv' := [(14, .int ((1 : Int32) + r140)), (13, .int r139), (0, .ref g.2.2.1), (1, .ref L0), (2, .int v2)]) dL_law_1008 (by decide) rfl ?_
  refine g_iconst C0 (v := (0 : Int32)) dL_law_1010 (by decide) ?_
  refine g_istore C0 (lv' := [(15, .int (0 : Int32)), (14, .int ((1 : Int32) + r140)), (13, .int r139), (0, .ref g.2.2.1), (1, .ref L0), (2, .int v2)]) dL_law_1011 (by decide) rfl ?_
  refine g_iconst C0 (v := (0 : Int32)) dL_law_1013 (by decide) ?_
  refine g_istore C0 (lv' := [(16, .int (0 : Int32)), (15, .int (0 : Int32)), (14, .int ((1 : Int32) + r140)), (13, .int r139), (0, .ref g.2.2.1), (1, .ref L0), (2, .int v2)]) dL_law_1014 (by decide) rfl ?_
  refine g_iconst C0 (v := (0 : Int32)) dL_law_1016 (by decide) ?_
  refine g_istore C0 (lv' := [(17, .int (0 : Int32)), (16, .int (0 : Int32)), (15, .int (0 : Int32)), (14, .int ((1 : Int32) + r140)), (13, .int r139), (0, .ref g.2.2.1), (1, .ref L0), (2, .int v2)]) dL_law_1017 (by decide) rfl ?_
  refine g_lv [5, 6, 7, 4, 3, 2, 1, 0] (lv' := [(0, .ref g.2.2.1), (1, .ref L0), (2, .int v2), (13, .int r139), (14, .int ((1 : Int32) + r140)), (15, .int (0 : Int32)), (16, .int (0 : Int32)), (17, .int (0 : Int32))]) rfl ?_
  exact bL_law_1019 C0 E0 hl0 K0 hK0 KE L0 ua out rec15 hrec15  4  v v2 r139 ((1 : Int32) + r140) (0 : Int32) (0 : Int32) (0 : Int32)  _ _ hf (by omega) (by omega)
