/-! the law, walked: 18 -/
set_option maxHeartbeats 8000000 in
set_option maxRecDepth 100000 in
theorem bL_law_59_WK {p : Program} {l : Launch} {e : Env} {s : State} {m : MethodId} {args : Array Value} {below : List Frame} {meth : Method} {c : Code} {D : va_G} {cB cC cI cO : ClassId} {A : Nat → Prop} {g : LG} (C0 : gC RL cL_law 23 (some .boolean) p s m args meth c D (hTy cB cC cI cO) A) (E0 : hLw g A s) (hl0 : l.stackTraces = false) (K0 : Nat → Int32) (hK0 : fJ7_fill_53178 64 (fun _ => 0) (-1 : Int32) = some K0) {Q : State → Prop} (KE : ∀ (lv : List (Nat × Value)) (ws : va_W) (kk nn : Nat), kk ≤ room_1.cells → nn ≤ room_1.slots → gG p l e room_1 s m args below meth c D A 23 Q kk nn 1230 lv [.int 1] ws) (L0 : Nat) (ua : LA) (out : Unit) {B15a B15b : Nat} (rec15 : LV → Int32 → Option (Unit)) (hrec15 : ∀ (v : LV) (v2 : Int32)  (kk nn : Nat), rec15 v v2 = some out → kk + (B15a) ≤ room_1.cells → nn + (B15b) ≤ room_1.slots → gG p l e room_1 s m args below meth c D A 23 Q kk nn 15 [(0, .ref g.2.2.1), (1, .ref L0), (2, .int v2)] [] (List.append [] (labX cB cC cI cO L0 ua v))) : ∀ (n : Nat) (v : LV) (v2 : Int32) (v3 : Int32) (v4 : Int32) (v5 : Int32) (v6 : Int32) (v7 : Int32) (v8 : Int32) (v9 : Int32) (v10 : Int32) (t11n : Nat) (t11f : Nat → Int32) (_ : Nat) (_ : Nat → Int32) (v13 : Int32) (a11 w11 : Nat) (f11 : Nat → Int32) (hx11 : ∀ j, j < t11n → f11 j = t11f j) (hc11 : ascB t11n f11) (kk nn : Nat), fL_law_59 g K0 rec15 n v v2 v3 v4 v5 v6 v7 v8 v9 v10 t11n t11f (kLen 0) (kByt 0) v13 = some out → kk + (n * 495 + (4052 + B15a)) ≤ room_1.cells → nn + (n * 9946 + (537686 + B15b)) ≤ room_1.slots → gG p l e room_1 s m args below meth c D A 23 Q kk nn 59 [(0, .ref g.2.2.1), (1, .ref L0), (2, .int v2), (3, .int v3), (4, .int v4), (5, .int v5), (6, .int v6), (7, .int v7), (8, .int v8), (9, .int v9), (10, .int v10), (11, .ref a11), (12, .ref (g.1 0)), (13, .int v13)] [] (List.append [(a11, .inr (0, [.ref w11, .int 0, .int 0, .int 0])), (w11, .inl (cB, t11n, .inl f11))] (labX cB cC cI cO L0 ua v)) := by
  intro n
  induction n with
  | zero => intro v v2 v3 v4 v5 v6 v7 v8 v9 v10 t11n t11f _ _ v13 a11 w11 f11 hx11 hc11 kk nn hf hb1 hb2; rw [fL_law_59] at hf; cases hf
  | succ n ih =>
    intro v v2 v3 v4 v5 v6 v7 v8 v9 v10 t11n t11f _ _ v13 a11 w11 f11 hx11 hc11 kk nn hf hb1 hb2
    rw [fL_law_59] at hf
    rw [Nat.succ_mul] at hb1 hb2
    refine g_iload C0 dL_law_59 13 rfl ?_
    refine g_iload_n C0 dL_law_61 rfl 3 rfl ?_
    refine g_icmp_ge C0 (tgt := 552) dL_law_62 (by decide) (fun c332 => ?_) (fun c332 => ?_)
    · rw [if_pos c332] at hf
      refine g_iconst C0 (v := (0 : Int32)) dL_law_552 (by decide) ?_
      refine g_istore C0 (lv' := [(13, .int (0 : Int32)), (0, .ref g.2.2.1), (1, .ref L0), (2, .int v2), (3, .int v3), (4, .int v4), (5, .int v5), (6, .int v6), (7, .int v7), (8, .int v8), (9, .int v9), (10, .int v10), (11, .ref a11), (12, .ref (g.1 0))]) dL_law_553 (by decide) rfl ?_
      refine g_lv [1, 2, 3, 4, 5, 6, 7, 8, 9, 10, 12, 13, 0] (lv' := [(0, .ref g.2.2.1), (1, .ref L0), (2, .int v2), (3, .int v3), (4, .int v4), (5, .int v5), (6, .int v6), (7, .int v7), (8, .int v8), (9, .int v9), (11, .ref a11), (12, .ref (g.1 0)), (13, .int (0 : Int32))]) rfl ?_
      exact bL_law_555_WK C0 E0 hl0 K0 hK0 KE L0 ua out rec15 hrec15  65  v v2 v3 v4 v5 v6 v7 v8 v9 t11n t11f (kLen 0) (kByt 0) (0 : Int32) a11 w11 f11 hx11 hc11 _ _ hf (by omega) (by omega)
    · rw [if_neg c332] at hf
      refine g_aload_n C0 dL_law_65 rfl 1 rfl ?_
      refine g_iload C0 dL_law_66 13 rfl ?_
      obtain ⟨r333, er333, hf⟩ := hl_bd hf
      refine g_hSi C0 E0 (P := [(a11, .inr (0, [.ref w11, .int 0, .int 0, .int 0])), (w11, .inl (cB, t11n, .inl f11))]) (X := labX cB cC cI cO L0 ua v) (X1 := labX cB cC cI cO L0 ua v) (As := [.ref L0, .int v13]) (st := []) (mL_keyIn l hl0 D cB cC cI cO g L0 ua v v13 r333 er333) hmL_keyIn q_735 ⟨Nat.le_of_ble_eq_true rfl, Nat.le_of_ble_eq_true rfl⟩ rfl rfl ⟨by omega, by omega⟩ rfl rfl rfl rfl (Nat.le_of_ble_eq_true rfl) dL_law_68 ?_
      refine g_istore C0 (lv' := [(14, .int r333), (0, .ref g.2.2.1), (1, .ref L0), (2, .int v2), (3, .int v3), (4, .int v4), (5, .int v5), (6, .int v6), (7, .int v7), (8, .int v8), (9, .int v9), (10, .int v10), (11, .ref a11), (12, .ref (g.1 0)), (13, .int v13)]) dL_law_71 (by decide) rfl ?_
      refine g_iconst C0 (v := (0 : Int32)) dL_law_73 (by decide) ?_
      refine g_istore C0 (lv' := [(15, .int (0 : Int32)), (14, .int r333), (0, .ref g.2.2.1), (1, .ref L0), (2, .int v2), (3, .int v3), (4, .int v4), (5, .int v5), (6, .int v6), (7, .int v7), (8, .int v8), (9, .int v9), (10, .int v10), (11, .ref a11), (12, .ref (g.1 0)), (13, .int v13)]) dL_law_74 (by decide) rfl ?_
      refine g_aload_n C0 dL_law_76 rfl 3 rfl ?_
      refine g_iload C0 dL_law_77 15 rfl ?_
      obtain ⟨r334, er334, hf⟩ := hl_bd hf
      obtain ⟨z335, ez335, hf⟩ := hl_inl hf
      have kr334 := mg_isFull l hl0 D cB cC cI cO L0 ua v v13 r334 er334
      rw [ez335] at kr334
      refine g_sufNi C0 E0.1.1 (P := [(a11, .inr (0, [.ref w11, .int 0, .int 0, .int 0])), (w11, .inl (cB, t11n, .inl f11))]) (X := labX cB cC cI cO L0 ua v) (X1 := labX cB cC cI cO L0 ua v) (As := [.int v13]) (st := []) kr334 hmX6_isFull q_438 ⟨Nat.le_of_ble_eq_true rfl, Nat.le_of_ble_eq_true rfl⟩ ⟨by omega, by omega⟩ rfl rfl rfl rfl rfl 0 rfl rfl rfl (Nat.le_of_ble_eq_true rfl) dL_law_79 ?_
      refine g_if_ne C0 (tgt := 94) dL_law_82 (by decide) (fun c336 => ?_) (fun c336 => ?_)
      · rw [if_neg c336] at hf
        refine g_iconst C0 (v := (1 : Int32)) dL_law_94 (by decide) ?_
        refine g_goto C0 (tgt := 99) dL_law_95 (by decide) ?_
        refine g_lv [2, 3, 4, 5, 6, 7, 8, 9, 10, 11, 12, 13, 14, 15, 1, 0] (lv' := [(0, .ref g.2.2.1), (1, .ref L0), (2, .int v2), (3, .int v3), (4, .int v4), (5, .int v5), (6, .int v6), (7, .int v7), (8, .int v8), (9, .int v9), (10, .int v10), (11, .ref a11), (12, .ref (g.1 0)), (13, .int v13), (14, .int r333), (15, .int (0 : Int32))]) rfl ?_
        exact bL_law_99_WK C0 E0 hl0 K0 hK0 KE L0 ua out rec15 (fL_law_59 g K0 rec15 n) hrec15 ih   v v2 v3 v4 v5 v6 v7 v8 v9 v10 t11n t11f (kLen 0) (kByt 0) v13 r333 (0 : Int32) (1 : Int32) a11 w11 f11 hx11 hc11 _ _ hf (by omega) (by omega)
      · rw [if_pos c336] at hf
        refine g_aload_n C0 dL_law_85 rfl 3 rfl ?_
        refine g_iload C0 dL_law_86 15 rfl ?_
        obtain ⟨r337, er337, hf⟩ := hl_bd hf
        obtain ⟨z338, ez338, hf⟩ := hl_inl hf
        have kr337 := mg_isTombstone l hl0 D cB cC cI cO L0 ua v v13 r337 er337
        rw [ez338] at kr337
        refine g_sufNi C0 E0.1.1 (P := [(a11, .inr (0, [.ref w11, .int 0, .int 0, .int 0])), (w11, .inl (cB, t11n, .inl f11))]) (X := labX cB cC cI cO L0 ua v) (X1 := labX cB cC cI cO L0 ua v) (As := [.int v13]) (st := []) kr337 hmX6_isTombstone q_444 ⟨Nat.le_of_ble_eq_true rfl, Nat.le_of_ble_eq_true rfl⟩ ⟨by omega, by omega⟩ rfl rfl rfl rfl rfl 0 rfl rfl rfl (Nat.le_of_ble_eq_true rfl) dL_law_88 ?_
        refine g_if_eq C0 (tgt := 98) dL_law_91 (by decide) (fun c339 => ?_) (fun c339 => ?_)
        · rw [if_pos c339] at hf
          refine g_iconst C0 (v := (0 : Int32)) dL_law_98 (by decide) ?_
          refine g_lv [2, 3, 4, 5, 6, 7, 8, 9, 10, 11, 12, 13, 14, 15, 1, 0] (lv' := [(0, .ref g.2.2.1), (1, .ref L0), (2, .int v2), (3, .int v3), (4, .int v4), (5, .int v5), (6, .int v6), (7, .int v7), (8, .int v8), (9, .int v9), (10, .int v10), (11, .ref a11), (12, .ref (g.1 0)), (13, .int v13), (14, .int r333), (15, .int (0 : Int32))]) rfl ?_
          exact bL_law_99_WK C0 E0 hl0 K0 hK0 KE L0 ua out rec15 (fL_law_59 g K0 rec15 n) hrec15 ih   v v2 v3 v4 v5 v6 v7 v8 v9 v10 t11n t11f (kLen 0) (kByt 0) v13 r333 (0 : Int32) (0 : Int32) a11 w11 f11 hx11 hc11 _ _ hf (by omega) (by omega)
        · rw [if_neg c339] at hf
          refine g_iconst C0 (v := (1 : Int32)) dL_law_94 (by decide) ?_
          refine g_goto C0 (tgt := 99) dL_law_95 (by decide) ?_
          refine g_lv [2, 3, 4, 5, 6, 7, 8, 9, 10, 11, 12, 13, 14, 15, 1, 0] (lv' := [(0, .ref g.2.2.1), (1, .ref L0), (2, .int v2), (3, .int v3), (4, .int v4), (5, .int v5), (6, .int v6), (7, .int v7), (8, .int v8), (9, .int v9), (10, .int v10), (11, .ref a11), (12, .ref (g.1 0)), (13, .int v13), (14, .int r333), (15, .int (0 : Int32))]) rfl ?_
          exact bL_law_99_WK C0 E0 hl0 K0 hK0 KE L0 ua out rec15 (fL_law_59 g K0 rec15 n) hrec15 ih   v v2 v3 v4 v5 v6 v7 v8 v9 v10 t11n t11f (kLen 0) (kByt 0) v13 r333 (0 : Int32) (1 : Int32) a11 w11 f11 hx11 hc11 _ _ hf (by omega) (by omega)
