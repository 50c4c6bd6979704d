/-! the law, walked: 2 -/
set_option maxHeartbeats 8000000 in
set_option maxRecDepth 100000 in
theorem bL_law_555_WW {p : Program} {l : Launch} {e : Env} {s : State} {m : MethodId} {args : Array Value} {below : List Frame} {meth : Method} {c : Code} {D : va_G} {cB cC cI cO : ClassId} {A : Nat → Prop} {g : LG} (C0 : gC RL cL_law 23 (some .boolean) p s m args meth c D (hTy cB cC cI cO) A) (E0 : hLw g A s) (hl0 : l.stackTraces = false) (K0 : Nat → Int32) (hK0 : fJ7_fill_53178 64 (fun _ => 0) (-1 : Int32) = some K0) {Q : State → Prop} (KE : ∀ (lv : List (Nat × Value)) (ws : va_W) (kk nn : Nat), kk ≤ room_1.cells → nn ≤ room_1.slots → gG p l e room_1 s m args below meth c D A 23 Q kk nn 1230 lv [.int 1] ws) (L0 : Nat) (ua : LA) (out : Unit) {B15a B15b : Nat} (rec15 : LV → Int32 → Option (Unit)) (hrec15 : ∀ (v : LV) (v2 : Int32)  (kk nn : Nat), rec15 v v2 = some out → kk + (B15a) ≤ room_1.cells → nn + (B15b) ≤ room_1.slots → gG p l e room_1 s m args below meth c D A 23 Q kk nn 15 [(0, .ref g.2.2.1), (1, .ref L0), (2, .int v2)] [] (List.append [] (labX cB cC cI cO L0 ua v))) : ∀ (n : Nat) (v : LV) (v2 : Int32) (v3 : Int32) (v4 : Int32) (v5 : Int32) (v6 : Int32) (v7 : Int32) (v8 : Int32) (v9 : Int32) (t11n : Nat) (t11f : Nat → Int32) (t12n : Nat) (t12f : Nat → Int32) (v13 : Int32) (a11 w11 : Nat) (f11 : Nat → Int32) (hx11 : ∀ j, j < t11n → f11 j = t11f j) (hc11 : ascB t11n f11) (a12 w12 : Nat) (f12 : Nat → Int32) (hx12 : ∀ j, j < t12n → f12 j = t12f j) (hc12 : ascB t12n f12) (kk nn : Nat), fL_law_555 g K0 rec15 n v v2 v3 v4 v5 v6 v7 v8 v9 t11n t11f t12n t12f v13 = some out → kk + (n * 12 + (3272 + B15a)) ≤ room_1.cells → nn + (n * 7742 + (34456 + B15b)) ≤ room_1.slots → gG p l e room_1 s m args below meth c D A 23 Q kk nn 555 [(0, .ref g.2.2.1), (1, .ref L0), (2, .int v2), (3, .int v3), (4, .int v4), (5, .int v5), (6, .int v6), (7, .int v7), (8, .int v8), (9, .int v9), (11, .ref a11), (12, .ref a12), (13, .int v13)] [] (List.append [(a11, .inr (0, [.ref w11, .int 0, .int 0, .int 0])), (w11, .inl (cB, t11n, .inl f11)), (a12, .inr (0, [.ref w12, .int 0, .int 0, .int 0])), (w12, .inl (cB, t12n, .inl f12))] (labX cB cC cI cO L0 ua v)) := by
  intro n
  induction n with
  | zero => intro v v2 v3 v4 v5 v6 v7 v8 v9 t11n t11f t12n t12f v13 a11 w11 f11 hx11 hc11 a12 w12 f12 hx12 hc12 kk nn hf hb1 hb2; rw [fL_law_555] at hf; cases hf
  | succ n ih =>
    intro v v2 v3 v4 v5 v6 v7 v8 v9 t11n t11f t12n t12f v13 a11 w11 f11 hx11 hc11 a12 w12 f12 hx12 hc12 kk nn hf hb1 hb2
    rw [fL_law_555] at hf
    refine g_iload C0 dL_law_555 12 rfl ?_
    refine g_iload C0 dL_law_557 4 rfl ?_
    refine g_icmp_ge C0 (tgt := 647) dL_law_559 (by decide) (fun c456 => ?_) (fun c456 => ?_)
    · rw [if_pos c456] at hf
      refine g_iconst C0 (v := (0 : Int32)) dL_law_647 (by decide) ?_
      refine g_istore C0 (lv' := [(13, .int (0 : Int32)), (0, .ref g.2.2.1), (1, .ref L0), (2, .int v2), (3, .int v3), (4, .int v4), (5, .int v5), (6, .int v6), (7, .int v7), (8, .int v8), (9, .int v9), (11, .ref a11), (12, .ref a12)]) dL_law_648 (by decide) rfl ?_
      refine g_lv [1, 2, 3, 4, 5, 6, 7, 8, 9, 10, 11, 12, 0] (lv' := [(0, .ref g.2.2.1), (1, .ref L0), (2, .int v2), (3, .int v3), (4, .int v4), (5, .int v5), (6, .int v6), (7, .int v7), (8, .int v8), (9, .int v9), (11, .ref a11), (12, .ref a12), (13, .int (0 : Int32))]) rfl ?_
      exact bL_law_650_WW C0 E0 hl0 K0 hK0 KE L0 ua out rec15 hrec15  7  v v2 v3 v4 v5 v6 v7 v8 v9 t11n t11f t12n t12f (0 : Int32) a11 w11 f11 hx11 hc11 a12 w12 f12 hx12 hc12 _ _ hf (by omega) (by omega)
    · rw [if_neg c456] at hf
      refine g_aload_n C0 dL_law_562 rfl 1 rfl ?_
      refine g_iload C0 dL_law_563 12 rfl ?_
      obtain ⟨r457, er457, hf⟩ := hl_bd hf
      obtain ⟨z458, ez458, hf⟩ := hl_inl hf
      have kr457 := mg_keyAt l hl0 D cB cC cI cO L0 ua v v13 r457 er457
      rw [ez458] at kr457
      refine g_sufNi C0 E0.1.1 (P := [(a11, .inr (0, [.ref w11, .int 0, .int 0, .int 0])), (w11, .inl (cB, t11n, .inl f11)), (a12, .inr (0, [.ref w12, .int 0, .int 0, .int 0])), (w12, .inl (cB, t12n, .inl f12))]) (X := labX cB cC cI cO L0 ua v) (X1 := labX cB cC cI cO L0 ua v) (As := [.int v13]) (st := []) kr457 hmX6_keyAt q_425 ⟨Nat.le_of_ble_eq_true rfl, Nat.le_of_ble_eq_true rfl⟩ ⟨by omega, by omega⟩ rfl rfl rfl rfl rfl 0 rfl rfl rfl (Nat.le_of_ble_eq_true rfl) dL_law_565 ?_
      refine g_istore C0 (lv' := [(14, .int z458), (0, .ref g.2.2.1), (1, .ref L0), (2, .int v2), (3, .int v3), (4, .int v4), (5, .int v5), (6, .int v6), (7, .int v7), (8, .int v8), (9, .int v9), (11, .ref a11), (12, .ref a12), (13, .int v13)]) dL_law_568 (by decide) rfl ?_
      refine g_iload C0 dL_law_570 13 rfl ?_
      refine g_if_le C0 (tgt := 590) dL_law_572 (by decide) (fun c459 => ?_) (fun c459 => ?_)
      · rw [if_pos c459] at hf
        refine g_lv [1, 2, 3, 4, 5, 6, 7, 8, 9, 10, 11, 12, 13, 0] (lv' := [(0, .ref g.2.2.1), (1, .ref L0), (2, .int v2), (3, .int v3), (4, .int v4), (5, .int v5), (6, .int v6), (7, .int v7), (8, .int v8), (9, .int v9), (11, .ref a11), (12, .ref a12), (13, .int v13), (14, .int z458)]) rfl ?_
        exact bL_law_590_WW C0 E0 hl0 K0 hK0 KE L0 ua out rec15 (fL_law_555 g K0 rec15 n) hrec15 ih   v v2 v3 v4 v5 v6 v7 v8 v9 t11n t11f t12n t12f v13 z458 a11 w11 f11 hx11 hc11 a12 w12 f12 hx12 hc12 _ _ hf (by omega) (by omega)
      · rw [if_neg c459] at hf
        refine g_iload C0 dL_law_575 0 rfl ?_
        refine g_aload_n C0 dL_law_577 rfl 2 rfl ?_
        refine g_iload C0 dL_law_578 13 rfl ?_
        refine g_iconst C0 (v := (1 : Int32)) dL_law_580 (by decide) ?_
        refine g_isub C0 dL_law_581 ?_
        obtain ⟨r460, er460, hf⟩ := hl_bd hf
        obtain ⟨z461, ez461, hf⟩ := hl_inl hf
        have kr460 := mg_keyAt l hl0 D cB cC cI cO L0 ua v (v13 - (1 : Int32)) r460 er460
        rw [ez461] at kr460
        refine g_sufNi C0 E0.1.1 (P := [(a11, .inr (0, [.ref w11, .int 0, .int 0, .int 0])), (w11, .inl (cB, t11n, .inl f11)), (a12, .inr (0, [.ref w12, .int 0, .int 0, .int 0])), (w12, .inl (cB, t12n, .inl f12))]) (X := labX cB cC cI cO L0 ua v) (X1 := labX cB cC cI cO L0 ua v) (As := [.int (v13 - (1 : Int32))]) (st := [.int z458]) kr460 hmX6_keyAt q_425 ⟨Nat.le_of_ble_eq_true rfl, Nat.le_of_ble_eq_true rfl⟩ ⟨by omega, by omega⟩ rfl rfl rfl rfl rfl 0 rfl rfl rfl (Nat.le_of_ble_eq_true rfl) dL_law_582 ?_
        refine g_icmp_gt C0 (tgt := 590) dL_law_585 (by decide) (fun c462 => ?_) (fun c462 => ?_)
        · rw [if_pos c462] at hf
          refine g_lv [1, 2, 3, 4, 5, 6, 7, 8, 9, 10, 11, 12, 13, 0] (lv' := [(0, .ref g.2.2.1), (1, .ref L0), (2, .int v2), (3, .int v3), (4, .int v4), (5, .int v5), (6, .int v6), (7, .int v7), (8, .int v8), (9, .int v9), (11, .ref a11), (12, .ref a12), (13, .int v13), (14, .int z458)]) rfl ?_
          exact bL_law_590_WW C0 E0 hl0 K0 hK0 KE L0 ua out rec15 (fL_law_555 g K0 rec15 n) hrec15 ih   v v2 v3 v4 v5 v6 v7 v8 v9 t11n t11f t12n t12f v13 z458 a11 w11 f11 hx11 hc11 a12 w12 f12 hx12 hc12 _ _ hf (by omega) (by omega)
        · rw [if_neg c462] at hf
          refine g_iconst C0 (v := (0 : Int32)) dL_law_588 (by decide) ?_
          cases hf
set_option maxHeartbeats 8000000 in
set_option maxRecDepth 100000 in
theorem bL_law_887_WK {p : Program} {l : Launch} {e : Env} {s : State} {m : MethodId} {args : Array Value} {below : List Frame} {meth : Method} {c : Code} {D : va_G} {cB cC cI cO : ClassId} {A : Nat → Prop} {g : LG} (C0 : gC RL cL_law 23 (some .boolean) p s m args meth c D (hTy cB cC cI cO) A) (E0 : hLw g A s) (hl0 : l.stackTraces = false) (K0 : Nat → Int32) (hK0 : fJ7_fill_53178 64 (fun _ => 0) (-1 : Int32) = some K0) {Q : State → Prop} (KE : ∀ (lv : List (Nat × Value)) (ws : va_W) (kk nn : Nat), kk ≤ room_1.cells → nn ≤ room_1.slots → gG p l e room_1 s m args below meth c D A 23 Q kk nn 1230 lv [.int 1] ws) (L0 : Nat) (ua : LA) (out : Unit) {B15a B15b : Nat} (rec15 : LV → Int32 → Option (Unit)) (hrec15 : ∀ (v : LV) (v2 : Int32)  (kk nn : Nat), rec15 v v2 = some out → kk + (B15a) ≤ room_1.cells → nn + (B15b) ≤ room_1.slots → gG p l e room_1 s m args below meth c D A 23 Q kk nn 15 [(0, .ref g.2.2.1), (1, .ref L0), (2, .int v2)] [] (List.append [] (labX cB cC cI cO L0 ua v))) : ∀ (v : LV) (v2 : Int32) (v3 : Int32) (v4 : Int32) (v8 : Int32) (t11n : Nat) (t11f : Nat → Int32) (_ : Nat) (_ : Nat → Int32) (k0 : Int32) (k1 : Int32) (a11 w11 : Nat) (f11 : Nat → Int32) (hx11 : ∀ j, j < t11n → f11 j = t11f j) (hc11 : ascB t11n f11) (kk nn : Nat), fL_law_887 g K0 rec15  v v2 v3 v4 v8 t11n t11f (kLen 0) (kByt 0) k0 k1 = some out → kk + (1828 + B15a) ≤ room_1.cells → nn + (25792 + B15b) ≤ room_1.slots → gG p l e room_1 s m args below meth c D A 23 Q kk nn 887 [(0, .ref g.2.2.1), (1, .ref L0), (2, .int v2), (3, .int v3), (4, .int v4), (8, .int v8), (11, .ref a11), (12, .ref (g.1 0))] [.int k0, .int k1] (List.append [(a11, .inr (0, [.ref w11, .int 0, .int 0, .int 0])), (w11, .inl (cB, t11n, .inl f11))] (labX cB cC cI cO L0 ua v)) := by
  intro v v2 v3 v4 v8 t11n t11f _ _ k0 k1 a11 w11 f11 hx11 hc11 kk nn hf hb1 hb2
  unfold fL_law_887 at hf
  refine g_icmp_ne C0 (tgt := 944) dL_law_887 (by decide) (fun c431 => ?_) (fun c431 => ?_)
  · rw [if_neg c431] at hf
    refine g_iconst C0 (v := (0 : Int32)) dL_law_944 (by decide) ?_
    cases hf
  · rw [if_pos c431] at hf
    refine g_aload_n C0 dL_law_890 rfl 1 rfl ?_
    obtain ⟨r432, er432, hf⟩ := hl_bd hf
    refine g_suff C0 (P := [(a11, .inr (0, [.ref w11, .int 0, .int 0, .int 0])), (w11, .inl (cB, t11n, .inl f11))]) (X := labX cB cC cI cO L0 ua v) (X1 := labX cB cC cI cO L0 ua v) (As := []) (st := []) (mg_load l D cB cC cI cO L0 ua v  r432 er432) hmX6_load q_529 ⟨Nat.le_of_ble_eq_true rfl, Nat.le_of_ble_eq_true rfl⟩ ⟨by omega, by omega⟩ rfl rfl rfl rfl rfl 0 rfl rfl rfl (Nat.le_of_ble_eq_true rfl) dL_law_891 ?_
    refine g_iload C0 dL_law_894 4 rfl ?_
    refine g_i2f C0 dL_law_896 ?_
    refine g_iload_n C0 dL_law_897 rfl 3 rfl ?_
    refine g_i2f C0 dL_law_898 ?_
    obtain ⟨n433, hf⟩ := hl_ifS hf
    refine g_fdiv C0 dL_law_899 (hl_n32P n433) ?_
    refine g_fcmp C0 dL_law_900 ?_
    refine g_if_ne C0 (tgt := 944) dL_law_901 (by decide) (fun c434 => ?_) (fun c434 => ?_)
    · rw [if_neg c434] at hf
      refine g_iconst C0 (v := (0 : Int32)) dL_law_944 (by decide) ?_
      cases hf
    · rw [if_pos c434] at hf
      refine g_aload_n C0 dL_law_904 rfl 1 rfl ?_
      obtain ⟨r435, er435, hf⟩ := hl_bd hf
      refine g_sufi C0 (P := [(a11, .inr (0, [.ref w11, .int 0, .int 0, .int 0])), (w11, .inl (cB, t11n, .inl f11))]) (X := labX cB cC cI cO L0 ua v) (X1 := labX cB cC cI cO L0 ua v) (As := []) (st := []) (mg_loadBits l D cB cC cI cO L0 ua v  r435 er435) hmX6_loadBits q_537 ⟨Nat.le_of_ble_eq_true rfl, Nat.le_of_ble_eq_true rfl⟩ ⟨by omega, by omega⟩ rfl rfl rfl rfl rfl 0 rfl rfl rfl (Nat.le_of_ble_eq_true rfl) dL_law_905 ?_
      refine g_aload_n C0 dL_law_908 rfl 1 rfl ?_
      obtain ⟨r436, er436, hf⟩ := hl_bd hf
      refine g_suff C0 (P := [(a11, .inr (0, [.ref w11, .int 0, .int 0, .int 0])), (w11, .inl (cB, t11n, .inl f11))]) (X := labX cB cC cI cO L0 ua v) (X1 := labX cB cC cI cO L0 ua v) (As := []) (st := [.int r435]) (mg_load l D cB cC cI cO L0 ua v  r436 er436) hmX6_load q_529 ⟨Nat.le_of_ble_eq_true rfl, Nat.le_of_ble_eq_true rfl⟩ ⟨by omega, by omega⟩ rfl rfl rfl rfl rfl 0 rfl rfl rfl (Nat.le_of_ble_eq_true rfl) dL_law_909 ?_
      obtain ⟨r437, er437, hf⟩ := hl_bd hf
      refine g_l0pi C0 (mJxf58ca_floatToIntBits_5c35a l D cB cC cI cO r436 r437 er437) hmJxf58ca_floatToIntBits_5c35a q_902 ⟨Nat.le_of_ble_eq_true rfl, Nat.le_of_ble_eq_true rfl⟩ ⟨by omega, by omega⟩ rfl rfl rfl rfl (Nat.le_of_ble_eq_true rfl) dL_law_912 ?_
      refine g_icmp_ne C0 (tgt := 944) dL_law_915 (by decide) (fun c438 => ?_) (fun c438 => ?_)
      · rw [if_neg c438] at hf
        refine g_iconst C0 (v := (0 : Int32)) dL_law_944 (by decide) ?_
        cases hf
      · rw [if_pos c438] at hf
        refine g_aload_n C0 dL_law_918 rfl 1 rfl ?_
        refine g_aload_n C0 dL_law_919 rfl 1 rfl ?_
        obtain ⟨r439, er439, hf⟩ := hl_bd hf
        refine g_sufi C0 (P := [(a11, .inr (0, [.ref w11, .int 0, .int 0, .int 0])), (w11, .inl (cB, t11n, .inl f11))]) (X := labX cB cC cI cO L0 ua v) (X1 := labX cB cC cI cO L0 ua r439.2) (As := []) (st := [.ref L0]) (mg_writeSlots l D cB cC cI cO L0 ua v  r439 er439) hmX6_writeSlots q_639 ⟨Nat.le_of_ble_eq_true rfl, Nat.le_of_ble_eq_true rfl⟩ ⟨by omega, by omega⟩ rfl rfl rfl rfl rfl 0 rfl rfl rfl (Nat.le_of_ble_eq_true rfl) dL_law_920 ?_
        refine g_aload C0 dL_law_923 6 rfl ?_
        obtain ⟨r440, er440, hf⟩ := hl_bd hf
        have lr440 : fL_isLine r439.2 t11n f11 r439.1 = some r440 := (line_cong hx11).trans er440
        refine g_lineS C0 (hLt_ok g _ _ _ _) (xl_W C0 E0 0 1 rfl rfl 3 rfl) (P := [(a11, .inr (0, [.ref w11, .int 0, .int 0, .int 0])), (w11, .inl (cB, t11n, .inl f11))]) (X := labX cB cC cI cO L0 ua r439.2) (X1 := labX cB cC cI cO L0 ua r439.2) (As := [.ref L0, .int r439.1, .ref a11]) (st := []) (mL_isLine l hl0 D cB cC cI cO g L0 ua r439.2 a11 w11 t11n f11 r439.1 r440 (Nat.lt_of_le_of_lt hc11.1 (by decide)) hc11.2 lr440) hmL_isLine q_832 ⟨Nat.le_of_ble_eq_true rfl, Nat.le_of_ble_eq_true rfl⟩ rfl rfl ⟨by omega, by omega⟩ rfl rfl rfl rfl (Nat.le_of_ble_eq_true rfl) dL_law_925 ?_
        refine g_if_eq C0 (tgt := 944) dL_law_928 (by decide) (fun c441 => ?_) (fun c441 => ?_)
        · rw [if_pos c441] at hf
          refine g_iconst C0 (v := (0 : Int32)) dL_law_944 (by decide) ?_
          cases hf
        · rw [if_neg c441] at hf
          refine g_aload_n C0 dL_law_931 rfl 1 rfl ?_
          refine g_aload_n C0 dL_law_932 rfl 1 rfl ?_
          obtain ⟨r442, er442, hf⟩ := hl_bd hf
          refine g_sufi C0 (P := [(a11, .inr (0, [.ref w11, .int 0, .int 0, .int 0])), (w11, .inl (cB, t11n, .inl f11))]) (X := labX cB cC cI cO L0 ua r439.2) (X1 := labX cB cC cI cO L0 ua r442.2) (As := []) (st := [.ref L0]) (mg_writeKeys l D cB cC cI cO L0 ua r439.2  r442 er442) hmX6_writeKeys q_655 ⟨Nat.le_of_ble_eq_true rfl, Nat.le_of_ble_eq_true rfl⟩ ⟨by omega, by omega⟩ rfl rfl rfl rfl rfl 0 rfl rfl rfl (Nat.le_of_ble_eq_true rfl) dL_law_933 ?_
          refine g_aload C0 dL_law_936 7 rfl ?_
          obtain ⟨r443, er443, hf⟩ := hl_bd hf
          have lr443 : fL_isLine r442.2 (kLen 0) (kByt 0) r442.1 = some r443 := (line_cong (fun _ _ => rfl)).trans er443
          refine g_lineS C0 (hLt_ok g _ _ _ _) (xl_K E0 (by decide : 0 < 6)) (P := [(a11, .inr (0, [.ref w11, .int 0, .int 0, .int 0])), (w11, .inl (cB, t11n, .inl f11))]) (X := labX cB cC cI cO L0 ua r442.2) (X1 := labX cB cC cI cO L0 ua r442.2) (As := [.ref L0, .int r442.1, .ref (g.1 0)]) (st := []) (mL_isLine l hl0 D cB cC cI cO g L0 ua r442.2 (g.1 0) (g.2.1 0) (kLen 0) (kByt 0) r442.1 r443 (by decide) (kAsc 0 (by decide)) lr443) hmL_isLine q_832 ⟨Nat.le_of_ble_eq_true rfl, Nat.le_of_ble_eq_true rfl⟩ rfl rfl ⟨by omega, by omega⟩ rfl rfl rfl rfl (Nat.le_of_ble_eq_true rfl) dL_law_938 ?_
          refine g_if_ne C0 (tgt := 946) dL_law_941 (by decide) (fun c444 => ?_) (fun c444 => ?_)
          · rw [if_neg c444] at hf
            refine g_iload C0 dL_law_946 4 rfl ?_
            refine g_if_le C0 (tgt := 983) dL_law_948 (by decide) (fun c445 => ?_) (fun c445 => ?_)
            · rw [if_pos c445] at hf
              refine g_ordP (P := [(a11, .inr (0, [.ref w11, .int 0, .int 0, .int 0])), (w11, .inl (cB, t11n, .inl f11))]) (P' := []) (X := labX cB cC cI cO L0 ua r442.2) [] rfl rfl rfl ?_
              refine g_lv [0, 1, 2] (lv' := [(0, .ref g.2.2.1), (1, .ref L0), (2, .int v2)]) rfl ?_
              exact bL_law_983 C0 E0 hl0 K0 hK0 KE L0 ua out rec15 hrec15   r442.2 v2  _ _ hf (by omega) (by omega)
            · rw [if_neg c445] at hf
              refine g_aload_n C0 dL_law_951 rfl 1 rfl ?_
              obtain ⟨r446, er446, hf⟩ := hl_bd hf
              obtain ⟨z447, ez447, hf⟩ := hl_inl hf
              have kr446 := mg_meanProbes l hl0 D cB cC cI cO L0 ua r442.2  r446 er446
              rw [ez447] at kr446
              refine g_sufNd C0 E0.1.1 (P := [(a11, .inr (0, [.ref w11, .int 0, .int 0, .int 0])), (w11, .inl (cB, t11n, .inl f11))]) (X := labX cB cC cI cO L0 ua r442.2) (X1 := labX cB cC cI cO L0 ua r442.2) (As := []) (st := []) kr446 hmX6_meanProbes q_494 ⟨Nat.le_of_ble_eq_true rfl, Nat.le_of_ble_eq_true rfl⟩ ⟨by omega, by omega⟩ rfl rfl rfl rfl rfl 0 rfl rfl rfl (Nat.le_of_ble_eq_true rfl) dL_law_952 ?_
              refine g_iload C0 dL_law_955 5 rfl ?_
              refine g_i2d C0 dL_law_957 ?_
              refine g_iload C0 dL_law_958 4 rfl ?_
              refine g_i2d C0 dL_law_960 ?_
              obtain ⟨n448, hf⟩ := hl_ifS hf
              refine g_ddiv C0 dL_law_961 (hl_n64P n448) ?_
              refine g_dcmp C0 dL_law_962 ?_
              refine g_if_ne C0 (tgt := 981) dL_law_963 (by decide) (fun c449 => ?_) (fun c449 => ?_)
              · rw [if_neg c449] at hf
                refine g_iconst C0 (v := (0 : Int32)) dL_law_981 (by decide) ?_
                cases hf
              · rw [if_pos c449] at hf
                refine g_aload_n C0 dL_law_966 rfl 1 rfl ?_
                obtain ⟨r450, er450, hf⟩ := hl_bd hf
                obtain ⟨z451, ez451, hf⟩ := hl_inl hf
                have kr450 := mg_meanProbesBits l hl0 D cB cC cI cO L0 ua r442.2  r450 er450
                rw [ez451] at kr450
                refine g_sufNl C0 E0.1.1 (P := [(a11, .inr (0, [.ref w11, .int 0, .int 0, .int 0])), (w11, .inl (cB, t11n, .inl f11))]) (X := labX cB cC cI cO L0 ua r442.2) (X1 := labX cB cC cI cO L0 ua r442.2) (As := []) (st := []) kr450 hmX6_meanProbesBits q_518 ⟨Nat.le_of_ble_eq_true rfl, Nat.le_of_ble_eq_true rfl⟩ ⟨by omega, by omega⟩ rfl rfl rfl rfl rfl 0 rfl rfl rfl (Nat.le_of_ble_eq_true rfl) dL_law_967 ?_
                refine g_aload_n C0 dL_law_970 rfl 1 rfl ?_
                obtain ⟨r452, er452, hf⟩ := hl_bd hf
                obtain ⟨z453, ez453, hf⟩ := hl_inl hf
                have kr452 := mg_meanProbes l hl0 D cB cC cI cO L0 ua r442.2  r452 er452
                rw [ez453] at kr452
                refine g_sufNd C0 E0.1.1 (P := [(a11, .inr (0, [.ref w11, .int 0, .int 0, .int 0])), (w11, .inl (cB, t11n, .inl f11))]) (X := labX cB cC cI cO L0 ua r442.2) (X1 := labX cB cC cI cO L0 ua r442.2) (As := []) (st := [.long z451]) kr452 hmX6_meanProbes q_494 ⟨Nat.le_of_ble_eq_true rfl, Nat.le_of_ble_eq_true rfl⟩ ⟨by omega, by omega⟩ rfl rfl rfl rfl rfl 0 rfl rfl rfl (Nat.le_of_ble_eq_true rfl) dL_law_971 ?_
                obtain ⟨r454, er454, hf⟩ := hl_bd hf
                refine g_l0pl C0 (mJxe99ae_doubleToLongBits_ccdee l D cB cC cI cO z453 r454 er454) hmJxe99ae_doubleToLongBits_ccdee q_892 ⟨Nat.le_of_ble_eq_true rfl, Nat.le_of_ble_eq_true rfl⟩ ⟨by omega, by omega⟩ rfl rfl rfl rfl (Nat.le_of_ble_eq_true rfl) dL_law_974 ?_
                refine g_lcmp C0 dL_law_977 ?_
                refine g_if_eq C0 (tgt := 983) dL_law_978 (by decide) (fun c455 => ?_) (fun c455 => ?_)
                · rw [if_pos c455] at hf
                  refine g_ordP (P := [(a11, .inr (0, [.ref w11, .int 0, .int 0, .int 0])), (w11, .inl (cB, t11n, .inl f11))]) (P' := []) (X := labX cB cC cI cO L0 ua r442.2) [] rfl rfl rfl ?_
                  refine g_lv [0, 1, 2] (lv' := [(0, .ref g.2.2.1), (1, .ref L0), (2, .int v2)]) rfl ?_
                  exact bL_law_983 C0 E0 hl0 K0 hK0 KE L0 ua out rec15 hrec15   r442.2 v2  _ _ hf (by omega) (by omega)
                · rw [if_neg c455] at hf
                  refine g_iconst C0 (v := (0 : Int32)) dL_law_981 (by decide) ?_
                  cases hf
          · rw [if_pos c444] at hf
            refine g_iconst C0 (v := (0 : Int32)) dL_law_944 (by decide) ?_
            cases hf
set_option maxHeartbeats 8000000 in
set_option maxRecDepth 100000 in
theorem bL_law_769_WK {p : Program} {l : Launch} {e : Env} {s : State} {m : MethodId} {args : Array Value} {below : List Frame} {meth : Method} {c : Code} {D : va_G} {cB cC cI cO : ClassId} {A : Nat → Prop} {g : LG} (C0 : gC RL cL_law 23 (some .boolean) p s m args meth c D (hTy cB cC cI cO) A) (E0 : hLw g A s) (hl0 : l.stackTraces = false) (K0 : Nat → Int32) (hK0 : fJ7_fill_53178 64 (fun _ => 0) (-1 : Int32) = some K0) {Q : State → Prop} (KE : ∀ (lv : List (Nat × Value)) (ws : va_W) (kk nn : Nat), kk ≤ room_1.cells → nn ≤ room_1.slots → gG p l e room_1 s m args below meth c D A 23 Q kk nn 1230 lv [.int 1] ws) (L0 : Nat) (ua : LA) (out : Unit) {B15a B15b : Nat} {B650a B650b : Nat} (rec15 : LV → Int32 → Option (Unit)) (rec650 : LV → Int32 → Int32 → Int32 → Int32 → Int32 → Int32 → Int32 → Int32 → Nat → (Nat → Int32) → Nat → (Nat → Int32) → Int32 → Option (Unit)) (hrec15 : ∀ (v : LV) (v2 : Int32)  (kk nn : Nat), rec15 v v2 = some out → kk + (B15a) ≤ room_1.cells → nn + (B15b) ≤ room_1.slots → gG p l e room_1 s m args below meth c D A 23 Q kk nn 15 [(0, .ref g.2.2.1), (1, .ref L0), (2, .int v2)] [] (List.append [] (labX cB cC cI cO L0 ua v))) (hrec650 : ∀ (v : LV) (v2 : Int32) (v3 : Int32) (v4 : Int32) (v5 : Int32) (v6 : Int32) (v7 : Int32) (v8 : Int32) (v9 : Int32) (t11n : Nat) (t11f : Nat → Int32) (_ : Nat) (_ : Nat → Int32) (v13 : Int32) (a11 w11 : Nat) (f11 : Nat → Int32) (hx11 : ∀ j, j < t11n → f11 j = t11f j) (hc11 : ascB t11n f11) (kk nn : Nat), rec650 v v2 v3 v4 v5 v6 v7 v8 v9 t11n t11f (kLen 0) (kByt 0) v13 = some out → kk + (B650a) ≤ room_1.cells → nn + (B650b) ≤ room_1.slots → gG p l e room_1 s m args below meth c D A 23 Q kk nn 650 [(0, .ref g.2.2.1), (1, .ref L0), (2, .int v2), (3, .int v3), (4, .int v4), (5, .int v5), (6, .int v6), (7, .int v7), (8, .int v8), (9, .int v9), (11, .ref a11), (12, .ref (g.1 0)), (13, .int v13)] [] (List.append [(a11, .inr (0, [.ref w11, .int 0, .int 0, .int 0])), (w11, .inl (cB, t11n, .inl f11))] (labX cB cC cI cO L0 ua v))) : ∀ (v : LV) (v2 : Int32) (v3 : Int32) (v4 : Int32) (v5 : Int32) (v6 : Int32) (v7 : Int32) (v8 : Int32) (v9 : Int32) (t11n : Nat) (t11f : Nat → Int32) (_ : Nat) (_ : Nat → Int32) (v13 : Int32) (a11 w11 : Nat) (f11 : Nat → Int32) (hx11 : ∀ j, j < t11n → f11 j = t11f j) (hc11 : ascB t11n f11) (kk nn : Nat), fL_law_769 g K0 rec15 rec650  v v2 v3 v4 v5 v6 v7 v8 v9 t11n t11f (kLen 0) (kByt 0) v13 = some out → kk + (0 + B650a) ≤ room_1.cells → nn + (0 + B650b) ≤ room_1.slots → gG p l e room_1 s m args below meth c D A 23 Q kk nn 769 [(0, .ref g.2.2.1), (1, .ref L0), (2, .int v2), (3, .int v3), (4, .int v4), (5, .int v5), (6, .int v6), (7, .int v7), (8, .int v8), (9, .int v9), (11, .ref a11), (12, .ref (g.1 0)), (13, .int v13)] [] (List.append [(a11, .inr (0, [.ref w11, .int 0, .int 0, .int 0])), (w11, .inl (cB, t11n, .inl f11))] (labX cB cC cI cO L0 ua v)) := by
  intro v v2 v3 v4 v5 v6 v7 v8 v9 t11n t11f _ _ v13 a11 w11 f11 hx11 hc11 kk nn hf hb1 hb2
  unfold fL_law_769 at hf
  refine g_iinc C0 (lv' := [(13, .int (v13 + (1 : Int32))), (0, .ref g.2.2.1), (1, .ref L0), (2, .int v2), (3, .int v3), (4, .int v4), (5, .int v5), (6, .int v6), (7, .int v7), (8, .int v8), (9, .int v9), (11, .ref a11), (12, .ref (g.1 0))]) dL_law_769 12 rfl rfl (by decide) rfl ?_
  refine g_goto C0 (tgt := 650) dL_law_772 (by decide) ?_
  refine g_lv [1, 2, 3, 4, 5, 6, 7, 8, 9, 10, 11, 12, 0] (lv' := [(0, .ref g.2.2.1), (1, .ref L0), (2, .int v2), (3, .int v3), (4, .int v4), (5, .int v5), (6, .int v6), (7, .int v7), (8, .int v8), (9, .int v9), (11, .ref a11), (12, .ref (g.1 0)), (13, .int (v13 + (1 : Int32)))]) rfl ?_
  exact hrec650 v v2 v3 v4 v5 v6 v7 v8 v9 t11n t11f (kLen 0) (kByt 0) (v13 + (1 : Int32)) a11 w11 f11 hx11 hc11 _ _ hf (by omega) (by omega)
set_option maxHeartbeats 8000000 in
set_option maxRecDepth 100000 in
theorem bL_law_650_WK {p : Program} {l : Launch} {e : Env} {s : State} {m : MethodId} {args : Array Value} {below : List Frame} {meth : Method} {c : Code} {D : va_G} {cB cC cI cO : ClassId} {A : Nat → Prop} {g : LG} (C0 : gC RL cL_law 23 (some .boolean) p s m args meth c D (hTy cB cC cI cO) A) (E0 : hLw g A s) (hl0 : l.stackTraces = false) (K0 : Nat → Int32) (hK0 : fJ7_fill_53178 64 (fun _ => 0) (-1 : Int32) = some K0) {Q : State → Prop} (KE : ∀ (lv : List (Nat × Value)) (ws : va_W) (kk nn : Nat), kk ≤ room_1.cells → nn ≤ room_1.slots → gG p l e room_1 s m args below meth c D A 23 Q kk nn 1230 lv [.int 1] ws) (L0 : Nat) (ua : LA) (out : Unit) {B15a B15b : Nat} (rec15 : LV → Int32 → Option (Unit)) (hrec15 : ∀ (v : LV) (v2 : Int32)  (kk nn : Nat), rec15 v v2 = some out → kk + (B15a) ≤ room_1.cells → nn + (B15b) ≤ room_1.slots → gG p l e room_1 s m args below meth c D A 23 Q kk nn 15 [(0, .ref g.2.2.1), (1, .ref L0), (2, .int v2)] [] (List.append [] (labX cB cC cI cO L0 ua v))) : ∀ (n : Nat) (v : LV) (v2 : Int32) (v3 : Int32) (v4 : Int32) (v5 : Int32) (v6 : Int32) (v7 : Int32) (v8 : Int32) (v9 : Int32) (t11n : Nat) (t11f : Nat → Int32) (_ : Nat) (_ : Nat → Int32) (v13 : Int32) (a11 w11 : Nat) (f11 : Nat → Int32) (hx11 : ∀ j, j < t11n → f11 j = t11f j) (hc11 : ascB t11n f11) (kk nn : Nat), fL_law_650 g K0 rec15 n v v2 v3 v4 v5 v6 v7 v8 v9 t11n t11f (kLen 0) (kByt 0) v13 = some out → kk + (n * 206 + (1830 + B15a)) ≤ room_1.cells → nn + (n * 1236 + (25804 + B15b)) ≤ room_1.slots → gG p l e room_1 s m args below meth c D A 23 Q kk nn 650 [(0, .ref g.2.2.1), (1, .ref L0), (2, .int v2), (3, .int v3), (4, .int v4), (5, .int v5), (6, .int v6), (7, .int v7), (8, .int v8), (9, .int v9), (11, .ref a11), (12, .ref (g.1 0)), (13, .int v13)] [] (List.append [(a11, .inr (0, [.ref w11, .int 0, .int 0, .int 0])), (w11, .inl (cB, t11n, .inl f11))] (labX cB cC cI cO L0 ua v)) := by
  intro n
  induction n with
  | zero => intro v v2 v3 v4 v5 v6 v7 v8 v9 t11n t11f _ _ v13 a11 w11 f11 hx11 hc11 kk nn hf hb1 hb2; rw [fL_law_650] at hf; cases hf
  | succ n ih =>
    intro v v2 v3 v4 v5 v6 v7 v8 v9 t11n t11f _ _ v13 a11 w11 f11 hx11 hc11 kk nn hf hb1 hb2
    rw [fL_law_650] at hf
    refine g_iload C0 dL_law_650 12 rfl ?_
    refine g_bipush C0 (v := (6 : Int32)) dL_law_652 (by decide) ?_
    refine g_icmp_ge C0 (tgt := 775) dL_law_654 (by decide) (fun c356 => ?_) (fun c356 => ?_)
    · rw [if_pos c356] at hf
      refine g_aload_n C0 dL_law_775 rfl 1 rfl ?_
      obtain ⟨r357, er357, hf⟩ := hl_bd hf
      refine g_sufi C0 (P := [(a11, .inr (0, [.ref w11, .int 0, .int 0, .int 0])), (w11, .inl (cB, t11n, .inl f11))]) (X := labX cB cC cI cO L0 ua v) (X1 := labX cB cC cI cO L0 ua v) (As := []) (st := []) (mg_size l D cB cC cI cO L0 ua v  r357 er357) hmX6_size q_197 ⟨Nat.le_of_ble_eq_true rfl, Nat.le_of_ble_eq_true rfl⟩ ⟨by omega, by omega⟩ rfl rfl rfl rfl rfl 0 rfl rfl rfl (Nat.le_of_ble_eq_true rfl) dL_law_776 ?_
      refine g_iload C0 dL_law_779 4 rfl ?_
      refine g_icmp_ne C0 (tgt := 944) dL_law_781 (by decide) (fun c358 => ?_) (fun c358 => ?_)
      · rw [if_neg c358] at hf
        refine g_iconst C0 (v := (0 : Int32)) dL_law_944 (by decide) ?_
        cases hf
      · rw [if_pos c358] at hf
        refine g_aload_n C0 dL_law_784 rfl 1 rfl ?_
        obtain ⟨r359, er359, hf⟩ := hl_bd hf
        refine g_sufi C0 (P := [(a11, .inr (0, [.ref w11, .int 0, .int 0, .int 0])), (w11, .inl (cB, t11n, .inl f11))]) (X := labX cB cC cI cO L0 ua v) (X1 := labX cB cC cI cO L0 ua v) (As := []) (st := []) (mg_tombstones l D cB cC cI cO L0 ua v  r359 er359) hmX6_tombstones q_205 ⟨Nat.le_of_ble_eq_true rfl, Nat.le_of_ble_eq_true rfl⟩ ⟨by omega, by omega⟩ rfl rfl rfl rfl rfl 0 rfl rfl rfl (Nat.le_of_ble_eq_true rfl) dL_law_785 ?_
        refine g_iload C0 dL_law_788 5 rfl ?_
        refine g_icmp_ne C0 (tgt := 944) dL_law_790 (by decide) (fun c360 => ?_) (fun c360 => ?_)
        · rw [if_neg c360] at hf
          refine g_iconst C0 (v := (0 : Int32)) dL_law_944 (by decide) ?_
          cases hf
        · rw [if_pos c360] at hf
          refine g_aload_n C0 dL_law_793 rfl 1 rfl ?_
          obtain ⟨r361, er361, hf⟩ := hl_bd hf
          refine g_sufi C0 (P := [(a11, .inr (0, [.ref w11, .int 0, .int 0, .int 0])), (w11, .inl (cB, t11n, .inl f11))]) (X := labX cB cC cI cO L0 ua v) (X1 := labX cB cC cI cO L0 ua v) (As := []) (st := []) (mg_clusters l D cB cC cI cO L0 ua v  r361 er361) hmX6_clusters q_449 ⟨Nat.le_of_ble_eq_true rfl, Nat.le_of_ble_eq_true rfl⟩ ⟨by omega, by omega⟩ rfl rfl rfl rfl rfl 0 rfl rfl rfl (Nat.le_of_ble_eq_true rfl) dL_law_794 ?_
          refine g_iload C0 dL_law_797 6 rfl ?_
          refine g_icmp_ne C0 (tgt := 944) dL_law_799 (by decide) (fun c362 => ?_) (fun c362 => ?_)
          · rw [if_neg c362] at hf
            refine g_iconst C0 (v := (0 : Int32)) dL_law_944 (by decide) ?_
            cases hf
          · rw [if_pos c362] at hf
            refine g_aload_n C0 dL_law_802 rfl 1 rfl ?_
            obtain ⟨r363, er363, hf⟩ := hl_bd hf
            refine g_sufi C0 (P := [(a11, .inr (0, [.ref w11, .int 0, .int 0, .int 0])), (w11, .inl (cB, t11n, .inl f11))]) (X := labX cB cC cI cO L0 ua v) (X1 := labX cB cC cI cO L0 ua v) (As := []) (st := []) (mg_largestCluster l D cB cC cI cO L0 ua v  r363 er363) hmX6_largestCluster q_468 ⟨Nat.le_of_ble_eq_true rfl, Nat.le_of_ble_eq_true rfl⟩ ⟨by omega, by omega⟩ rfl rfl rfl rfl rfl 0 rfl rfl rfl (Nat.le_of_ble_eq_true rfl) dL_law_803 ?_
            refine g_iload C0 dL_law_806 7 rfl ?_
            refine g_icmp_ne C0 (tgt := 944) dL_law_808 (by decide) (fun c364 => ?_) (fun c364 => ?_)
            · rw [if_neg c364] at hf
              refine g_iconst C0 (v := (0 : Int32)) dL_law_944 (by decide) ?_
              cases hf
            · rw [if_pos c364] at hf
              refine g_aload_n C0 dL_law_811 rfl 1 rfl ?_
              obtain ⟨r365, er365, hf⟩ := hl_bd hf
              refine g_sufi C0 (P := [(a11, .inr (0, [.ref w11, .int 0, .int 0, .int 0])), (w11, .inl (cB, t11n, .inl f11))]) (X := labX cB cC cI cO L0 ua v) (X1 := labX cB cC cI cO L0 ua v) (As := []) (st := []) (mg_largestClusterByHalves l D cB cC cI cO L0 ua v  r365 er365) hmX6_largestClusterByHalves q_478 ⟨Nat.le_of_ble_eq_true rfl, Nat.le_of_ble_eq_true rfl⟩ ⟨by omega, by omega⟩ rfl rfl rfl rfl rfl 0 rfl rfl rfl (Nat.le_of_ble_eq_true rfl) dL_law_812 ?_
              refine g_iload C0 dL_law_815 7 rfl ?_
              refine g_icmp_ne C0 (tgt := 944) dL_law_817 (by decide) (fun c366 => ?_) (fun c366 => ?_)
              · rw [if_neg c366] at hf
                refine g_iconst C0 (v := (0 : Int32)) dL_law_944 (by decide) ?_
                cases hf
              · rw [if_pos c366] at hf
                refine g_aload_n C0 dL_law_820 rfl 1 rfl ?_
                obtain ⟨r367, er367, hf⟩ := hl_bd hf
                refine g_hSi C0 E0 (P := [(a11, .inr (0, [.ref w11, .int 0, .int 0, .int 0])), (w11, .inl (cB, t11n, .inl f11))]) (X := labX cB cC cI cO L0 ua v) (X1 := labX cB cC cI cO L0 ua v) (As := [.ref L0]) (st := []) (mL_hardestKey l hl0 D cB cC cI cO g L0 ua v  r367 er367) hmL_hardestKey q_728 ⟨Nat.le_of_ble_eq_true rfl, Nat.le_of_ble_eq_true rfl⟩ rfl rfl ⟨by omega, by omega⟩ rfl rfl rfl rfl (Nat.le_of_ble_eq_true rfl) dL_law_821 ?_
                refine g_iload C0 dL_law_824 9 rfl ?_
                refine g_icmp_ne C0 (tgt := 944) dL_law_826 (by decide) (fun c368 => ?_) (fun c368 => ?_)
                · rw [if_neg c368] at hf
                  refine g_iconst C0 (v := (0 : Int32)) dL_law_944 (by decide) ?_
                  cases hf
                · rw [if_pos c368] at hf
                  refine g_aload_n C0 dL_law_829 rfl 1 rfl ?_
                  refine g_iload C0 dL_law_830 4 rfl ?_
                  obtain ⟨r369, er369, hf⟩ := hl_bd hf
                  refine g_hSi C0 E0 (P := [(a11, .inr (0, [.ref w11, .int 0, .int 0, .int 0])), (w11, .inl (cB, t11n, .inl f11))]) (X := labX cB cC cI cO L0 ua v) (X1 := labX cB cC cI cO L0 ua v) (As := [.ref L0, .int v4]) (st := []) (mL_keyAt l hl0 D cB cC cI cO g L0 ua v v4 r369 er369) hmL_keyAt q_725 ⟨Nat.le_of_ble_eq_true rfl, Nat.le_of_ble_eq_true rfl⟩ rfl rfl ⟨by omega, by omega⟩ rfl rfl rfl rfl (Nat.le_of_ble_eq_true rfl) dL_law_832 ?_
                  refine g_sipush C0 (v := (-30000 : Int32)) dL_law_835 (by decide) ?_
                  refine g_icmp_ne C0 (tgt := 944) dL_law_838 (by decide) (fun c370 => ?_) (fun c370 => ?_)
                  · rw [if_neg c370] at hf
                    refine g_iconst C0 (v := (0 : Int32)) dL_law_944 (by decide) ?_
                    cases hf
                  · rw [if_pos c370] at hf
                    refine g_aload_n C0 dL_law_841 rfl 1 rfl ?_
                    obtain ⟨r371, er371, hf⟩ := hl_bd hf
                    refine g_sufi C0 (P := [(a11, .inr (0, [.ref w11, .int 0, .int 0, .int 0])), (w11, .inl (cB, t11n, .inl f11))]) (X := labX cB cC cI cO L0 ua v) (X1 := labX cB cC cI cO L0 ua r371.2) (As := []) (st := []) (mg_isConsistent l D cB cC cI cO L0 ua v  r371 er371) hmX6_isConsistent q_600 ⟨Nat.le_of_ble_eq_true rfl, Nat.le_of_ble_eq_true rfl⟩ ⟨by omega, by omega⟩ rfl rfl rfl rfl rfl 0 rfl rfl rfl (Nat.le_of_ble_eq_true rfl) dL_law_842 ?_
                    refine g_if_eq C0 (tgt := 944) dL_law_845 (by decide) (fun c372 => ?_) (fun c372 => ?_)
                    · rw [if_pos c372] at hf
                      refine g_iconst C0 (v := (0 : Int32)) dL_law_944 (by decide) ?_
                      cases hf
                    · rw [if_neg c372] at hf
                      refine g_aload_n C0 dL_law_848 rfl 1 rfl ?_
                      obtain ⟨r373, er373, hf⟩ := hl_bd hf
                      refine g_sufi C0 (P := [(a11, .inr (0, [.ref w11, .int 0, .int 0, .int 0])), (w11, .inl (cB, t11n, .inl f11))]) (X := labX cB cC cI cO L0 ua r371.2) (X1 := labX cB cC cI cO L0 ua r371.2) (As := []) (st := []) (mg_growths l D cB cC cI cO L0 ua r371.2  r373 er373) hmX6_growths q_221 ⟨Nat.le_of_ble_eq_true rfl, Nat.le_of_ble_eq_true rfl⟩ ⟨by omega, by omega⟩ rfl rfl rfl rfl rfl 0 rfl rfl rfl (Nat.le_of_ble_eq_true rfl) dL_law_849 ?_
                      refine g_aload_n C0 dL_law_852 rfl 1 rfl ?_
                      obtain ⟨r374, er374, hf⟩ := hl_bd hf
                      refine g_sufi C0 (P := [(a11, .inr (0, [.ref w11, .int 0, .int 0, .int 0])), (w11, .inl (cB, t11n, .inl f11))]) (X := labX cB cC cI cO L0 ua r371.2) (X1 := labX cB cC cI cO L0 ua r371.2) (As := []) (st := [.int r373]) (mg_rebuilds l D cB cC cI cO L0 ua r371.2  r374 er374) hmX6_rebuilds q_217 ⟨Nat.le_of_ble_eq_true rfl, Nat.le_of_ble_eq_true rfl⟩ ⟨by omega, by omega⟩ rfl rfl rfl rfl rfl 0 rfl rfl rfl (Nat.le_of_ble_eq_true rfl) dL_law_853 ?_
                      refine g_icmp_gt C0 (tgt := 944) dL_law_856 (by decide) (fun c375 => ?_) (fun c375 => ?_)
                      · rw [if_pos c375] at hf
                        refine g_iconst C0 (v := (0 : Int32)) dL_law_944 (by decide) ?_
                        cases hf
                      · rw [if_neg c375] at hf
                        refine g_aload_n C0 dL_law_859 rfl 1 rfl ?_
                        obtain ⟨r376, er376, hf⟩ := hl_bd hf
                        refine g_sufi C0 (P := [(a11, .inr (0, [.ref w11, .int 0, .int 0, .int 0])), (w11, .inl (cB, t11n, .inl f11))]) (X := labX cB cC cI cO L0 ua r371.2) (X1 := labX cB cC cI cO L0 ua r371.2) (As := []) (st := []) (mg_isNearLimit l D cB cC cI cO L0 ua r371.2  r376 er376) hmX6_isNearLimit q_225 ⟨Nat.le_of_ble_eq_true rfl, Nat.le_of_ble_eq_true rfl⟩ ⟨by omega, by omega⟩ rfl rfl rfl rfl rfl 0 rfl rfl rfl (Nat.le_of_ble_eq_true rfl) dL_law_860 ?_
                        refine g_bipush C0 (v := (100 : Int32)) dL_law_863 (by decide) ?_
                        refine g_iload C0 dL_law_865 4 rfl ?_
                        refine g_iload C0 dL_law_867 5 rfl ?_
                        refine g_iadd C0 dL_law_869 ?_
                        refine g_iconst C0 (v := (1 : Int32)) dL_law_870 (by decide) ?_
                        refine g_iadd C0 dL_law_871 ?_
                        refine g_imul C0 dL_law_872 ?_
                        refine g_aload_n C0 dL_law_873 rfl 1 rfl ?_
                        obtain ⟨r377, er377, hf⟩ := hl_bd hf
                        refine g_sufi C0 (P := [(a11, .inr (0, [.ref w11, .int 0, .int 0, .int 0])), (w11, .inl (cB, t11n, .inl f11))]) (X := labX cB cC cI cO L0 ua r371.2) (X1 := labX cB cC cI cO L0 ua r371.2) (As := []) (st := [.int ((100 : Int32) * ((v4 + v5) + (1 : Int32))), .int r376]) (mg_limit l D cB cC cI cO L0 ua r371.2  r377 er377) hmX6_limit q_213 ⟨Nat.le_of_ble_eq_true rfl, Nat.le_of_ble_eq_true rfl⟩ ⟨by omega, by omega⟩ rfl rfl rfl rfl rfl 0 rfl rfl rfl (Nat.le_of_ble_eq_true rfl) dL_law_874 ?_
                        refine g_iload_n C0 dL_law_877 rfl 3 rfl ?_
                        refine g_imul C0 dL_law_878 ?_
                        refine g_icmp_le C0 (tgt := 886) dL_law_879 (by decide) (fun c378 => ?_) (fun c378 => ?_)
                        · rw [if_pos c378] at hf
                          refine g_iconst C0 (v := (0 : Int32)) dL_law_886 (by decide) ?_
                          refine g_lv [0, 1, 2, 3, 4, 8, 10, 11] (lv' := [(0, .ref g.2.2.1), (1, .ref L0), (2, .int v2), (3, .int v3), (4, .int v4), (8, .int v8), (11, .ref a11), (12, .ref (g.1 0))]) rfl ?_
                          exact bL_law_887_WK C0 E0 hl0 K0 hK0 KE L0 ua out rec15 hrec15   r371.2 v2 v3 v4 v8 t11n t11f (kLen 0) (kByt 0) (0 : Int32) r376 a11 w11 f11 hx11 hc11 _ _ hf (by omega) (by omega)
                        · rw [if_neg c378] at hf
                          refine g_iconst C0 (v := (1 : Int32)) dL_law_882 (by decide) ?_
                          refine g_goto C0 (tgt := 887) dL_law_883 (by decide) ?_
                          refine g_lv [0, 1, 2, 3, 4, 8, 10, 11] (lv' := [(0, .ref g.2.2.1), (1, .ref L0), (2, .int v2), (3, .int v3), (4, .int v4), (8, .int v8), (11, .ref a11), (12, .ref (g.1 0))]) rfl ?_
                          exact bL_law_887_WK C0 E0 hl0 K0 hK0 KE L0 ua out rec15 hrec15   r371.2 v2 v3 v4 v8 t11n t11f (kLen 0) (kByt 0) (1 : Int32) r376 a11 w11 f11 hx11 hc11 _ _ hf (by omega) (by omega)
    · rw [if_neg c356] at hf
      refine g_aload_n C0 dL_law_657 rfl 0 rfl ?_
      refine g_bipush C0 (v := (90 : Int32)) dL_law_658 (by decide) ?_
      refine g_bipush C0 (v := (6 : Int32)) dL_law_660 (by decide) ?_
      refine g_iload_n C0 dL_law_662 rfl 2 rfl ?_
      refine g_imul C0 dL_law_663 ?_
      refine g_iadd C0 dL_law_664 ?_
      refine g_iload C0 dL_law_665 12 rfl ?_
      refine g_iadd C0 dL_law_667 ?_
      refine g_sipush C0 (v := (10000 : Int32)) dL_law_668 (by decide) ?_
      obtain ⟨r379, er379, hf⟩ := hl_bd hf
      refine g_l0i C0 E0 (mL_some l hl0 D cB cC cI cO g (((90 : Int32) + ((6 : Int32) * v2)) + v13) (10000 : Int32) r379 er379) hmL_some q_667 ⟨Nat.le_of_ble_eq_true rfl, Nat.le_of_ble_eq_true rfl⟩ rfl rfl ⟨by omega, by omega⟩ rfl rfl (Nat.le_of_ble_eq_true rfl) dL_law_671 ?_
      refine g_istore C0 (lv' := [(14, .int r379), (0, .ref g.2.2.1), (1, .ref L0), (2, .int v2), (3, .int v3), (4, .int v4), (5, .int v5), (6, .int v6), (7, .int v7), (8, .int v8), (9, .int v9), (11, .ref a11), (12, .ref (g.1 0)), (13, .int v13)]) dL_law_674 (by decide) rfl ?_
      refine g_aload_n C0 dL_law_676 rfl 1 rfl ?_
      refine g_bipush C0 (v := (110 : Int32)) dL_law_677 (by decide) ?_
      refine g_iload C0 dL_law_679 13 rfl ?_
      refine g_iadd C0 dL_law_681 ?_
      refine g_iload_n C0 dL_law_682 rfl 4 rfl ?_
      obtain ⟨r380, er380, hf⟩ := hl_bd hf
      refine g_l0i C0 E0 (mL_some l hl0 D cB cC cI cO g ((110 : Int32) + v13) v3 r380 er380) hmL_some q_667 ⟨Nat.le_of_ble_eq_true rfl, Nat.le_of_ble_eq_true rfl⟩ rfl rfl ⟨by omega, by omega⟩ rfl rfl (Nat.le_of_ble_eq_true rfl) dL_law_683 ?_
      refine g_istore C0 (lv' := [(15, .int r380), (14, .int r379), (0, .ref g.2.2.1), (1, .ref L0), (2, .int v2), (3, .int v3), (4, .int v4), (5, .int v5), (6, .int v6), (7, .int v7), (8, .int v8), (9, .int v9), (11, .ref a11), (12, .ref (g.1 0)), (13, .int v13)]) dL_law_686 (by decide) rfl ?_
      refine g_aload_n C0 dL_law_688 rfl 3 rfl ?_
      refine g_iload C0 dL_law_689 1 rfl ?_
      refine g_iload C0 dL_law_691 0 rfl ?_
      obtain ⟨r381, er381, hf⟩ := hl_bd hf
      obtain ⟨z382, ez382, hf⟩ := hl_inl hf
      have kr381 := mg_probe l hl0 D cB cC cI cO L0 ua v r379 r380 r381 er381
      rw [ez382] at kr381
      refine g_sufNi C0 E0.1.1 (P := [(a11, .inr (0, [.ref w11, .int 0, .int 0, .int 0])), (w11, .inl (cB, t11n, .inl f11))]) (X := labX cB cC cI cO L0 ua v) (X1 := labX cB cC cI cO L0 ua v) (As := [.int r379, .int r380]) (st := []) kr381 hmX6_probe q_364 ⟨Nat.le_of_ble_eq_true rfl, Nat.le_of_ble_eq_true rfl⟩ ⟨by omega, by omega⟩ rfl rfl rfl rfl rfl 0 rfl rfl rfl (Nat.le_of_ble_eq_true rfl) dL_law_693 ?_
      refine g_aload_n C0 dL_law_696 rfl 3 rfl ?_
      refine g_iload C0 dL_law_697 1 rfl ?_
      refine g_iload C0 dL_law_699 0 rfl ?_
      obtain ⟨r383, er383, hf⟩ := hl_bd hf
      refine g_lSi C0 E0 (P := [(a11, .inr (0, [.ref w11, .int 0, .int 0, .int 0])), (w11, .inl (cB, t11n, .inl f11))]) (X := labX cB cC cI cO L0 ua v) (X1 := labX cB cC cI cO L0 ua v) (As := [.ref L0, .int r379, .int r380]) (st := [.int z382]) (mL_slot l hl0 D cB cC cI cO g L0 ua v r379 r380 r383 er383) hmL_slot q_820 ⟨Nat.le_of_ble_eq_true rfl, Nat.le_of_ble_eq_true rfl⟩ rfl rfl ⟨by omega, by omega⟩ rfl rfl rfl rfl (Nat.le_of_ble_eq_true rfl) dL_law_701 ?_
      refine g_icmp_ne C0 (tgt := 767) dL_law_704 (by decide) (fun c384 => ?_) (fun c384 => ?_)
      · rw [if_neg c384] at hf
        refine g_iconst C0 (v := (0 : Int32)) dL_law_767 (by decide) ?_
        cases hf
      · rw [if_pos c384] at hf
        refine g_aload_n C0 dL_law_707 rfl 3 rfl ?_
        refine g_iload C0 dL_law_708 1 rfl ?_
        obtain ⟨r385, er385, hf⟩ := hl_bd hf
        obtain ⟨z386, ez386, hf⟩ := hl_inl hf
        have kr385 := mg_probes l hl0 D cB cC cI cO L0 ua v r379 r385 er385
        rw [ez386] at kr385
        refine g_sufNi C0 E0.1.1 (P := [(a11, .inr (0, [.ref w11, .int 0, .int 0, .int 0])), (w11, .inl (cB, t11n, .inl f11))]) (X := labX cB cC cI cO L0 ua v) (X1 := labX cB cC cI cO L0 ua v) (As := [.int r379]) (st := []) kr385 hmX6_probes q_412 ⟨Nat.le_of_ble_eq_true rfl, Nat.le_of_ble_eq_true rfl⟩ ⟨by omega, by omega⟩ rfl rfl rfl rfl rfl 0 rfl rfl rfl (Nat.le_of_ble_eq_true rfl) dL_law_710 ?_
        refine g_aload_n C0 dL_law_713 rfl 3 rfl ?_
        refine g_iload C0 dL_law_714 1 rfl ?_
        obtain ⟨r387, er387, hf⟩ := hl_bd hf
        refine g_lSi C0 E0 (P := [(a11, .inr (0, [.ref w11, .int 0, .int 0, .int 0])), (w11, .inl (cB, t11n, .inl f11))]) (X := labX cB cC cI cO L0 ua v) (X1 := labX cB cC cI cO L0 ua v) (As := [.ref L0, .int r379]) (st := [.int z386]) (mL_examined l hl0 D cB cC cI cO g L0 ua v r379 r387 er387) hmL_examined q_829 ⟨Nat.le_of_ble_eq_true rfl, Nat.le_of_ble_eq_true rfl⟩ rfl rfl ⟨by omega, by omega⟩ rfl rfl rfl rfl (Nat.le_of_ble_eq_true rfl) dL_law_716 ?_
        refine g_icmp_ne C0 (tgt := 767) dL_law_719 (by decide) (fun c388 => ?_) (fun c388 => ?_)
        · rw [if_neg c388] at hf
          refine g_iconst C0 (v := (0 : Int32)) dL_law_767 (by decide) ?_
          cases hf
        · rw [if_pos c388] at hf
          refine g_aload_n C0 dL_law_722 rfl 3 rfl ?_
          refine g_iload C0 dL_law_723 1 rfl ?_
          obtain ⟨r389, er389, hf⟩ := hl_bd hf
          obtain ⟨z390, ez390, hf⟩ := hl_inl hf
          have kr389 := mg_step l hl0 D cB cC cI cO L0 ua v r379 r389 er389
          rw [ez390] at kr389
          refine g_sufNi C0 E0.1.1 (P := [(a11, .inr (0, [.ref w11, .int 0, .int 0, .int 0])), (w11, .inl (cB, t11n, .inl f11))]) (X := labX cB cC cI cO L0 ua v) (X1 := labX cB cC cI cO L0 ua v) (As := [.int r379]) (st := []) kr389 hmX6_step q_406 ⟨Nat.le_of_ble_eq_true rfl, Nat.le_of_ble_eq_true rfl⟩ ⟨by omega, by omega⟩ rfl rfl rfl rfl rfl 0 rfl rfl rfl (Nat.le_of_ble_eq_true rfl) dL_law_725 ?_
          refine g_iconst C0 (v := (2 : Int32)) dL_law_728 (by decide) ?_
          refine g_irem C0 dL_law_729 (by decide) ?_
          refine g_iconst C0 (v := (1 : Int32)) dL_law_730 (by decide) ?_
          refine g_icmp_ne C0 (tgt := 767) dL_law_731 (by decide) (fun c391 => ?_) (fun c391 => ?_)
          · rw [if_neg c391] at hf
            refine g_iconst C0 (v := (0 : Int32)) dL_law_767 (by decide) ?_
            cases hf
          · rw [if_pos c391] at hf
            refine g_aload_n C0 dL_law_734 rfl 3 rfl ?_
            refine g_iload C0 dL_law_735 1 rfl ?_
            obtain ⟨r392, er392, hf⟩ := hl_bd hf
            refine g_sufi C0 (P := [(a11, .inr (0, [.ref w11, .int 0, .int 0, .int 0])), (w11, .inl (cB, t11n, .inl f11))]) (X := labX cB cC cI cO L0 ua v) (X1 := labX cB cC cI cO L0 ua v) (As := [.int r379]) (st := []) (mg_contains l D cB cC cI cO L0 ua v r379 r392 er392) hmX6_contains q_237 ⟨Nat.le_of_ble_eq_true rfl, Nat.le_of_ble_eq_true rfl⟩ ⟨by omega, by omega⟩ rfl rfl rfl rfl rfl 0 rfl rfl rfl (Nat.le_of_ble_eq_true rfl) dL_law_737 ?_
            refine g_if_ne C0 (tgt := 769) dL_law_740 (by decide) (fun c393 => ?_) (fun c393 => ?_)
            · rw [if_neg c393] at hf
              refine g_lv [2, 3, 4, 5, 6, 7, 8, 9, 10, 11, 12, 13, 14] (lv' := [(0, .ref g.2.2.1), (1, .ref L0), (2, .int v2), (3, .int v3), (4, .int v4), (5, .int v5), (6, .int v6), (7, .int v7), (8, .int v8), (9, .int v9), (11, .ref a11), (12, .ref (g.1 0)), (13, .int v13)]) rfl ?_
              exact bL_law_769_WK C0 E0 hl0 K0 hK0 KE L0 ua out rec15 (fL_law_650 g K0 rec15 n) hrec15 ih   v v2 v3 v4 v5 v6 v7 v8 v9 t11n t11f (kLen 0) (kByt 0) v13 a11 w11 f11 hx11 hc11 _ _ hf (by omega) (by omega)
            · rw [if_pos c393] at hf
              refine g_aload_n C0 dL_law_743 rfl 3 rfl ?_
              refine g_iload C0 dL_law_744 1 rfl ?_
              obtain ⟨r394, er394, hf⟩ := hl_bd hf
              refine g_hSi C0 E0 (P := [(a11, .inr (0, [.ref w11, .int 0, .int 0, .int 0])), (w11, .inl (cB, t11n, .inl f11))]) (X := labX cB cC cI cO L0 ua v) (X1 := labX cB cC cI cO L0 ua v) (As := [.ref L0, .int r379]) (st := []) (mL_get l hl0 D cB cC cI cO g L0 ua v r379 r394 er394) hmL_get q_718 ⟨Nat.le_of_ble_eq_true rfl, Nat.le_of_ble_eq_true rfl⟩ rfl rfl ⟨by omega, by omega⟩ rfl rfl rfl rfl (Nat.le_of_ble_eq_true rfl) dL_law_746 ?_
              refine g_sipush C0 (v := (-30000 : Int32)) dL_law_749 (by decide) ?_
              refine g_icmp_ne C0 (tgt := 767) dL_law_752 (by decide) (fun c395 => ?_) (fun c395 => ?_)
              · rw [if_neg c395] at hf
                refine g_iconst C0 (v := (0 : Int32)) dL_law_767 (by decide) ?_
                cases hf
              · rw [if_pos c395] at hf
                refine g_aload_n C0 dL_law_755 rfl 3 rfl ?_
                refine g_iload C0 dL_law_756 1 rfl ?_
                obtain ⟨r396, er396, hf⟩ := hl_bd hf
                refine g_hSi C0 E0 (P := [(a11, .inr (0, [.ref w11, .int 0, .int 0, .int 0])), (w11, .inl (cB, t11n, .inl f11))]) (X := labX cB cC cI cO L0 ua v) (X1 := labX cB cC cI cO L0 ua v) (As := [.ref L0, .int r379]) (st := []) (mL_probesBySlot l hl0 D cB cC cI cO g L0 ua v r379 r396 er396) hmL_probesBySlot q_722 ⟨Nat.le_of_ble_eq_true rfl, Nat.le_of_ble_eq_true rfl⟩ rfl rfl ⟨by omega, by omega⟩ rfl rfl rfl rfl (Nat.le_of_ble_eq_true rfl) dL_law_758 ?_
                refine g_sipush C0 (v := (-30000 : Int32)) dL_law_761 (by decide) ?_
                refine g_icmp_eq C0 (tgt := 769) dL_law_764 (by decide) (fun c397 => ?_) (fun c397 => ?_)
                · rw [if_pos c397] at hf
                  refine g_lv [2, 3, 4, 5, 6, 7, 8, 9, 10, 11, 12, 13, 14] (lv' := [(0, .ref g.2.2.1), (1, .ref L0), (2, .int v2), (3, .int v3), (4, .int v4), (5, .int v5), (6, .int v6), (7, .int v7), (8, .int v8), (9, .int v9), (11, .ref a11), (12, .ref (g.1 0)), (13, .int v13)]) rfl ?_
                  exact bL_law_769_WK C0 E0 hl0 K0 hK0 KE L0 ua out rec15 (fL_law_650 g K0 rec15 n) hrec15 ih   v v2 v3 v4 v5 v6 v7 v8 v9 t11n t11f (kLen 0) (kByt 0) v13 a11 w11 f11 hx11 hc11 _ _ hf (by omega) (by omega)
                · rw [if_neg c397] at hf
                  refine g_iconst C0 (v := (0 : Int32)) dL_law_767 (by decide) ?_
                  cases hf
set_option maxHeartbeats 8000000 in
set_option maxRecDepth 100000 in
theorem bL_law_590_WK {p : Program} {l : Launch} {e : Env} {s : State} {m : MethodId} {args : Array Value} {below : List Frame} {meth : Method} {c : Code} {D : va_G} {cB cC cI cO : ClassId} {A : Nat → Prop} {g : LG} (C0 : gC RL cL_law 23 (some .boolean) p s m args meth c D (hTy cB cC cI cO) A) (E0 : hLw g A s) (hl0 : l.stackTraces = false) (K0 : Nat → Int32) (hK0 : fJ7_fill_53178 64 (fun _ => 0) (-1 : Int32) = some K0) {Q : State → Prop} (KE : ∀ (lv : List (Nat × Value)) (ws : va_W) (kk nn : Nat), kk ≤ room_1.cells → nn ≤ room_1.slots → gG p l e room_1 s m args below meth c D A 23 Q kk nn 1230 lv [.int 1] ws) (L0 : Nat) (ua : LA) (out : Unit) {B15a B15b : Nat} {B555a B555b : Nat} (rec15 : LV → Int32 → Option (Unit)) (rec555 : LV → Int32 → Int32 → Int32 → Int32 → Int32 → Int32 → Int32 → Int32 → Nat → (Nat → Int32) → Nat → (Nat → Int32) → Int32 → Option (Unit)) (hrec15 : ∀ (v : LV) (v2 : Int32)  (kk nn : Nat), rec15 v v2 = some out → kk + (B15a) ≤ room_1.cells → nn + (B15b) ≤ room_1.slots → gG p l e room_1 s m args below meth c D A 23 Q kk nn 15 [(0, .ref g.2.2.1), (1, .ref L0), (2, .int v2)] [] (List.append [] (labX cB cC cI cO L0 ua v))) (hrec555 : ∀ (v : LV) (v2 : Int32) (v3 : Int32) (v4 : Int32) (v5 : Int32) (v6 : Int32) (v7 : Int32) (v8 : Int32) (v9 : Int32) (t11n : Nat) (t11f : Nat → Int32) (t12n : Nat) (t12f : Nat → Int32) (v13 : Int32) (a11 w11 : Nat) (f11 : Nat → Int32) (hx11 : ∀ j, j < t11n → f11 j = t11f j) (hc11 : ascB t11n f11) (a12 w12 : Nat) (f12 : Nat → Int32) (hx12 : ∀ j, j < t12n → f12 j = t12f j) (hc12 : ascB t12n f12) (kk nn : Nat), rec555 v v2 v3 v4 v5 v6 v7 v8 v9 t11n t11f t12n t12f v13 = some out → kk + (B555a) ≤ room_1.cells → nn + (B555b) ≤ room_1.slots → gG p l e room_1 s m args below meth c D A 23 Q kk nn 555 [(0, .ref g.2.2.1), (1, .ref L0), (2, .int v2), (3, .int v3), (4, .int v4), (5, .int v5), (6, .int v6), (7, .int v7), (8, .int v8), (9, .int v9), (11, .ref a11), (12, .ref a12), (13, .int v13)] [] (List.append [(a11, .inr (0, [.ref w11, .int 0, .int 0, .int 0])), (w11, .inl (cB, t11n, .inl f11)), (a12, .inr (0, [.ref w12, .int 0, .int 0, .int 0])), (w12, .inl (cB, t12n, .inl f12))] (labX cB cC cI cO L0 ua v))) : ∀ (v : LV) (v2 : Int32) (v3 : Int32) (v4 : Int32) (v5 : Int32) (v6 : Int32) (v7 : Int32) (v8 : Int32) (v9 : Int32) (t11n : Nat) (t11f : Nat → Int32) (_ : Nat) (_ : Nat → Int32) (v13 : Int32) (v14 : Int32) (a11 w11 : Nat) (f11 : Nat → Int32) (hx11 : ∀ j, j < t11n → f11 j = t11f j) (hc11 : ascB t11n f11) (kk nn : Nat), fL_law_590 g K0 rec15 rec555  v v2 v3 v4 v5 v6 v7 v8 v9 t11n t11f (kLen 0) (kByt 0) v13 v14 = some out → kk + (10 + B555a) ≤ room_1.cells → nn + (7730 + B555b) ≤ room_1.slots → gG p l e room_1 s m args below meth c D A 23 Q kk nn 590 [(0, .ref g.2.2.1), (1, .ref L0), (2, .int v2), (3, .int v3), (4, .int v4), (5, .int v5), (6, .int v6), (7, .int v7), (8, .int v8), (9, .int v9), (11, .ref a11), (12, .ref (g.1 0)), (13, .int v13), (14, .int v14)] [] (List.append [(a11, .inr (0, [.ref w11, .int 0, .int 0, .int 0])), (w11, .inl (cB, t11n, .inl f11))] (labX cB cC cI cO L0 ua v)) := by
  intro v v2 v3 v4 v5 v6 v7 v8 v9 t11n t11f _ _ v13 v14 a11 w11 f11 hx11 hc11 kk nn hf hb1 hb2
  unfold fL_law_590 at hf
  refine g_new (ci := 1) (fs := [.null, .int 0, .int 0, .int 0]) C0 hinJ4 tyJ4_ok q_914 q_915 q_31 rfl (fun z hz => hl_dB z hz) (by omega) (by omega) dL_law_590 (fun b398 => ?_)
  refine g_rot ?_
  refine g_eq (ws' := (List.append [(a11, .inr (0, [.ref w11, .int 0, .int 0, .int 0])), (w11, .inl (cB, t11n, .inl f11)), (b398, .inr (1, [.null, .int 0, .int 0, .int 0]))] (labX cB cC cI cO L0 ua v))) rfl rfl rfl ?_
  refine g_dup C0 dL_law_593 rfl ?_
  refine g_xIv (ret := none) (X := [(a11, .inr (0, [.ref w11, .int 0, .int 0, .int 0])), (w11, .inl (cB, t11n, .inl f11)), (b398, .inr (1, [.null, .int 0, .int 0, .int 0]))]) (pl := labX cB cC cI cO L0 ua v) (wr := [(a11, .inr (0, [.ref w11, .int 0, .int 0, .int 0])), (w11, .inl (cB, t11n, .inl f11))]) (As := []) (st := [.ref b398]) (b := b398) C0 jE_ok (xe_of C0 jE_ok E0.1.2) (mJ4_init_da8c8 l D cB cC cI cO b398) hmJ4_init_da8c8 q_916 ⟨Nat.le_of_ble_eq_true rfl, Nat.le_of_ble_eq_true rfl⟩ rfl rfl ⟨by omega, by omega⟩ rfl [2] [0, 1] rfl rfl rfl rfl (by decide) rfl rfl (Nat.le_of_ble_eq_true rfl) dL_law_594 (fun w399 => ?_)
  refine g_eq (ws' := (List.append [(a11, .inr (0, [.ref w11, .int 0, .int 0, .int 0])), (w11, .inl (cB, t11n, .inl f11)), (b398, .inr (1, [.ref w399, .int 0, .int 0, .int (Int32.ofNat 0)])), (w399, .inl (cB, 16, .inl (fun _ => 0)))] (labX cB cC cI cO L0 ua v))) rfl rfl rfl ?_
  refine g_aload C0 dL_law_597 11 rfl ?_
  obtain ⟨h400, hf⟩ := hl_ifS hf
  refine g_xVr (X := [(a11, .inr (0, [.ref w11, .int 0, .int 0, .int 0])), (w11, .inl (cB, t11n, .inl f11)), (b398, .inr (1, [.ref w399, .int 0, .int 0, .int (Int32.ofNat 0)])), (w399, .inl (cB, 16, .inl (fun _ => 0)))]) (pl := labX cB cC cI cO L0 ua v) (wr := [(a11, .inr (0, [.ref w11, .int 0, .int 0, .int 0])), (w11, .inl (cB, t11n, .inl f11))]) (As := [.ref (g.1 0)]) (st := []) (b := b398) C0 (jT_ok _ _ _ _) (xe_of C0 (jT_ok _ _ _ _) ⟨E0.1.2, hKt_tx E0.2.1 (by decide : 0 < 6)⟩) (xr_w C0 2 rfl rfl) (mJ4_append_15ec4 l D cB cC cI cO (g.1 0) (g.2.1 0) (kLen 0) (kByt 0) b398 w399 0 0 16 (fun _ => 0) (fun _ => 0) (by omega) (by omega) (kAsc 0 (by decide)) (sbP0 w399)) hmJ4_append_15ec4 q_944 ⟨Nat.le_of_ble_eq_true rfl, Nat.le_of_ble_eq_true rfl⟩ rfl rfl ⟨by omega, by omega⟩ rfl [2, 3] [0, 1] rfl rfl rfl rfl (by decide) rfl rfl (Nat.le_of_ble_eq_true rfl) dL_law_599 (fun u401 => ?_)
  refine g_widen (kk1 := kk + 3) (nn1 := nn + 1420) (by omega) (by omega) ?_
  have qu401 : asc (0 + (kLen 0)) (tcat 0 (fun _ => 0) (kByt 0)) := asc_cat (asc0 _) (kAsc 0 (by decide))
  have eu401 : ∀ j, j < 0 + (kLen 0) → (tcat 0 (fun _ => 0) (kByt 0)) j = (tcat 0 (fun _ => 0) (kByt 0)) j := tcat_eq (fun _ _ => rfl) (fun _ _ => rfl)
  refine g_eq (ws' := (List.append [(a11, .inr (0, [.ref w11, .int 0, .int 0, .int 0])), (w11, .inl (cB, t11n, .inl f11)), (b398, .inr (1, [.ref u401.1.1, .int 0, .int 0, .int (Int32.ofNat (0 + (kLen 0)))])), (u401.1.1, .inl (cB, u401.1.2.1, .inl u401.1.2.2))] (labX cB cC cI cO L0 ua v))) rfl rfl rfl ?_
  refine g_iload C0 dL_law_602 12 rfl ?_
  refine g_if_le C0 (tgt := 612) dL_law_604 (by decide) (fun c402 => ?_) (fun c402 => ?_)
  · rw [if_pos c402] at hf
    refine g_ldcS C0 (E0.2.1.2 0 (123, "") rfl) dL_law_612 ?_
    obtain ⟨h403, hf⟩ := hl_ifS hf
    refine g_xVr (X := [(a11, .inr (0, [.ref w11, .int 0, .int 0, .int 0])), (w11, .inl (cB, t11n, .inl f11)), (b398, .inr (1, [.ref u401.1.1, .int 0, .int 0, .int (Int32.ofNat (0 + (kLen 0)))])), (u401.1.1, .inl (cB, u401.1.2.1, .inl u401.1.2.2))]) (pl := labX cB cC cI cO L0 ua v) (wr := [(a11, .inr (0, [.ref w11, .int 0, .int 0, .int 0])), (w11, .inl (cB, t11n, .inl f11))]) (As := [.ref (g.1 0)]) (st := []) (b := b398) C0 (jT_ok _ _ _ _) (xe_of C0 (jT_ok _ _ _ _) ⟨E0.1.2, hKt_tx E0.2.1 (by decide : 0 < 6)⟩) (xr_w C0 2 rfl rfl) (mJ4_append_15ec4 l D cB cC cI cO (g.1 0) (g.2.1 0) (kLen 0) (kByt 0) b398 u401.1.1 0 (0 + (kLen 0)) u401.1.2.1 u401.1.2.2 (tcat 0 (fun _ => 0) (kByt 0)) (by omega) (by omega) (kAsc 0 (by decide)) u401.2) hmJ4_append_15ec4 q_944 ⟨Nat.le_of_ble_eq_true rfl, Nat.le_of_ble_eq_true rfl⟩ rfl rfl ⟨by omega, by omega⟩ rfl [2, 3] [0, 1] rfl rfl rfl rfl (by decide) rfl rfl (Nat.le_of_ble_eq_true rfl) dL_law_614 (fun u404 => ?_)
    refine g_widen (kk1 := kk + 4) (nn1 := nn + 2820) (by omega) (by omega) ?_
    have qu404 : asc ((0 + (kLen 0)) + (kLen 0)) (tcat (0 + (kLen 0)) (tcat 0 (fun _ => 0) (kByt 0)) (kByt 0)) := asc_cat qu401 (kAsc 0 (by decide))
    have eu404 : ∀ j, j < (0 + (kLen 0)) + (kLen 0) → (tcat (0 + (kLen 0)) (tcat 0 (fun _ => 0) (kByt 0)) (kByt 0)) j = (tcat (0 + (kLen 0)) (tcat 0 (fun _ => 0) (kByt 0)) (kByt 0)) j := tcat_eq eu401 (fun _ _ => rfl)
    refine g_eq (ws' := (List.append [(a11, .inr (0, [.ref w11, .int 0, .int 0, .int 0])), (w11, .inl (cB, t11n, .inl f11)), (b398, .inr (1, [.ref u404.1.1, .int 0, .int 0, .int (Int32.ofNat ((0 + (kLen 0)) + (kLen 0)))])), (u404.1.1, .inl (cB, u404.1.2.1, .inl u404.1.2.2))] (labX cB cC cI cO L0 ua v))) rfl rfl rfl ?_
    refine g_iload C0 dL_law_617 13 rfl ?_
    obtain ⟨h405, hf⟩ := hl_ifS hf
    refine g_xVr (X := [(a11, .inr (0, [.ref w11, .int 0, .int 0, .int 0])), (w11, .inl (cB, t11n, .inl f11)), (b398, .inr (1, [.ref u404.1.1, .int 0, .int 0, .int (Int32.ofNat ((0 + (kLen 0)) + (kLen 0)))])), (u404.1.1, .inl (cB, u404.1.2.1, .inl u404.1.2.2))]) (pl := labX cB cC cI cO L0 ua v) (wr := [(a11, .inr (0, [.ref w11, .int 0, .int 0, .int 0])), (w11, .inl (cB, t11n, .inl f11))]) (As := [.int v14]) (st := []) (b := b398) C0 jE_ok (xe_of C0 jE_ok E0.1.2) (xr_w C0 2 rfl rfl) (mJ4_append_bf812 l D cB cC cI cO v14 (nLen v14) (nDig v14) b398 u404.1.1 0 ((0 + (kLen 0)) + (kLen 0)) u404.1.2.1 u404.1.2.2 (tcat (0 + (kLen 0)) (tcat 0 (fun _ => 0) (kByt 0)) (kByt 0)) (by omega) (by omega) (numOK_T h405.2) u404.2) hmJ4_append_bf812 q_1039 ⟨Nat.le_of_ble_eq_true rfl, Nat.le_of_ble_eq_true rfl⟩ rfl rfl ⟨by omega, by omega⟩ rfl [2, 3] [0, 1] rfl rfl rfl rfl (by decide) rfl rfl (Nat.le_of_ble_eq_true rfl) dL_law_619 (fun u406 => ?_)
    refine g_widen (kk1 := kk + 5) (nn1 := nn + 4220) (by omega) (by omega) ?_
    have qu406 : asc (((0 + (kLen 0)) + (kLen 0)) + (nLen v14)) (tcat ((0 + (kLen 0)) + (kLen 0)) (tcat (0 + (kLen 0)) (tcat 0 (fun _ => 0) (kByt 0)) (kByt 0)) (nDig v14)) := asc_cat qu404 (numOK_asc h405.2)
    have eu406 : ∀ j, j < ((0 + (kLen 0)) + (kLen 0)) + (nLen v14) → (tcat ((0 + (kLen 0)) + (kLen 0)) (tcat (0 + (kLen 0)) (tcat 0 (fun _ => 0) (kByt 0)) (kByt 0)) (nDig v14)) j = (tcat ((0 + (kLen 0)) + (kLen 0)) (tcat (0 + (kLen 0)) (tcat 0 (fun _ => 0) (kByt 0)) (kByt 0)) (nDig v14)) j := tcat_eq eu404 (fun _ _ => rfl)
    refine g_eq (ws' := (List.append [(a11, .inr (0, [.ref w11, .int 0, .int 0, .int 0])), (w11, .inl (cB, t11n, .inl f11)), (b398, .inr (1, [.ref u406.1.1, .int 0, .int 0, .int (Int32.ofNat (((0 + (kLen 0)) + (kLen 0)) + (nLen v14)))])), (u406.1.1, .inl (cB, u406.1.2.1, .inl u406.1.2.2))] (labX cB cC cI cO L0 ua v))) rfl rfl rfl ?_
    refine g_ldcS C0 (E0.2.1.2 5 (168, "=") rfl) dL_law_622 ?_
    obtain ⟨h407, hf⟩ := hl_ifS hf
    refine g_xVr (X := [(a11, .inr (0, [.ref w11, .int 0, .int 0, .int 0])), (w11, .inl (cB, t11n, .inl f11)), (b398, .inr (1, [.ref u406.1.1, .int 0, .int 0, .int (Int32.ofNat (((0 + (kLen 0)) + (kLen 0)) + (nLen v14)))])), (u406.1.1, .inl (cB, u406.1.2.1, .inl u406.1.2.2))]) (pl := labX cB cC cI cO L0 ua v) (wr := [(a11, .inr (0, [.ref w11, .int 0, .int 0, .int 0])), (w11, .inl (cB, t11n, .inl f11))]) (As := [.ref (g.1 5)]) (st := []) (b := b398) C0 (jT_ok _ _ _ _) (xe_of C0 (jT_ok _ _ _ _) ⟨E0.1.2, hKt_tx E0.2.1 (by decide : 5 < 6)⟩) (xr_w C0 2 rfl rfl) (mJ4_append_15ec4 l D cB cC cI cO (g.1 5) (g.2.1 5) (kLen 5) (kByt 5) b398 u406.1.1 0 (((0 + (kLen 0)) + (kLen 0)) + (nLen v14)) u406.1.2.1 u406.1.2.2 (tcat ((0 + (kLen 0)) + (kLen 0)) (tcat (0 + (kLen 0)) (tcat 0 (fun _ => 0) (kByt 0)) (kByt 0)) (nDig v14)) (by omega) (by omega) (kAsc 5 (by decide)) u406.2) hmJ4_append_15ec4 q_944 ⟨Nat.le_of_ble_eq_true rfl, Nat.le_of_ble_eq_true rfl⟩ rfl rfl ⟨by omega, by omega⟩ rfl [2, 3] [0, 1] rfl rfl rfl rfl (by decide) rfl rfl (Nat.le_of_ble_eq_true rfl) dL_law_624 (fun u408 => ?_)
    refine g_widen (kk1 := kk + 6) (nn1 := nn + 5620) (by omega) (by omega) ?_
    have qu408 : asc ((((0 + (kLen 0)) + (kLen 0)) + (nLen v14)) + (kLen 5)) (tcat (((0 + (kLen 0)) + (kLen 0)) + (nLen v14)) (tcat ((0 + (kLen 0)) + (kLen 0)) (tcat (0 + (kLen 0)) (tcat 0 (fun _ => 0) (kByt 0)) (kByt 0)) (nDig v14)) (kByt 5)) := asc_cat qu406 (kAsc 5 (by decide))
    have eu408 : ∀ j, j < (((0 + (kLen 0)) + (kLen 0)) + (nLen v14)) + (kLen 5) → (tcat (((0 + (kLen 0)) + (kLen 0)) + (nLen v14)) (tcat ((0 + (kLen 0)) + (kLen 0)) (tcat (0 + (kLen 0)) (tcat 0 (fun _ => 0) (kByt 0)) (kByt 0)) (nDig v14)) (kByt 5)) j = (tcat (((0 + (kLen 0)) + (kLen 0)) + (nLen v14)) (tcat ((0 + (kLen 0)) + (kLen 0)) (tcat (0 + (kLen 0)) (tcat 0 (fun _ => 0) (kByt 0)) (kByt 0)) (nDig v14)) (kByt 5)) j := tcat_eq eu406 (fun _ _ => rfl)
    refine g_eq (ws' := (List.append [(a11, .inr (0, [.ref w11, .int 0, .int 0, .int 0])), (w11, .inl (cB, t11n, .inl f11)), (b398, .inr (1, [.ref u408.1.1, .int 0, .int 0, .int (Int32.ofNat ((((0 + (kLen 0)) + (kLen 0)) + (nLen v14)) + (kLen 5)))])), (u408.1.1, .inl (cB, u408.1.2.1, .inl u408.1.2.2))] (labX cB cC cI cO L0 ua v))) rfl rfl rfl ?_
    refine g_aload_n C0 dL_law_627 rfl 1 rfl ?_
    refine g_iload C0 dL_law_628 13 rfl ?_
    obtain ⟨r409, er409, hf⟩ := hl_bd hf
    obtain ⟨z410, ez410, hf⟩ := hl_inl hf
    have kr409 := mg_get l hl0 D cB cC cI cO L0 ua v v14 r409 er409
    rw [ez410] at kr409
    refine g_sufNi C0 E0.1.1 (P := [(a11, .inr (0, [.ref w11, .int 0, .int 0, .int 0])), (w11, .inl (cB, t11n, .inl f11)), (b398, .inr (1, [.ref u408.1.1, .int 0, .int 0, .int (Int32.ofNat ((((0 + (kLen 0)) + (kLen 0)) + (nLen v14)) + (kLen 5)))])), (u408.1.1, .inl (cB, u408.1.2.1, .inl u408.1.2.2))]) (X := labX cB cC cI cO L0 ua v) (X1 := labX cB cC cI cO L0 ua v) (As := [.int v14]) (st := [.ref b398]) kr409 hmX6_get q_281 ⟨Nat.le_of_ble_eq_true rfl, Nat.le_of_ble_eq_true rfl⟩ ⟨by omega, by omega⟩ rfl rfl rfl rfl rfl 0 rfl rfl rfl (Nat.le_of_ble_eq_true rfl) dL_law_630 ?_
    obtain ⟨h411, hf⟩ := hl_ifS hf
    refine g_xVr (X := [(a11, .inr (0, [.ref w11, .int 0, .int 0, .int 0])), (w11, .inl (cB, t11n, .inl f11)), (b398, .inr (1, [.ref u408.1.1, .int 0, .int 0, .int (Int32.ofNat ((((0 + (kLen 0)) + (kLen 0)) + (nLen v14)) + (kLen 5)))])), (u408.1.1, .inl (cB, u408.1.2.1, .inl u408.1.2.2))]) (pl := labX cB cC cI cO L0 ua v) (wr := [(a11, .inr (0, [.ref w11, .int 0, .int 0, .int 0])), (w11, .inl (cB, t11n, .inl f11))]) (As := [.int z410]) (st := []) (b := b398) C0 jE_ok (xe_of C0 jE_ok E0.1.2) (xr_w C0 2 rfl rfl) (mJ4_append_bf812 l D cB cC cI cO z410 (nLen z410) (nDig z410) b398 u408.1.1 0 ((((0 + (kLen 0)) + (kLen 0)) + (nLen v14)) + (kLen 5)) u408.1.2.1 u408.1.2.2 (tcat (((0 + (kLen 0)) + (kLen 0)) + (nLen v14)) (tcat ((0 + (kLen 0)) + (kLen 0)) (tcat (0 + (kLen 0)) (tcat 0 (fun _ => 0) (kByt 0)) (kByt 0)) (nDig v14)) (kByt 5)) (by omega) (by omega) (numOK_T h411.2) u408.2) hmJ4_append_bf812 q_1039 ⟨Nat.le_of_ble_eq_true rfl, Nat.le_of_ble_eq_true rfl⟩ rfl rfl ⟨by omega, by omega⟩ rfl [2, 3] [0, 1] rfl rfl rfl rfl (by decide) rfl rfl (Nat.le_of_ble_eq_true rfl) dL_law_633 (fun u412 => ?_)
    refine g_widen (kk1 := kk + 8) (nn1 := nn + 7026) (by omega) (by omega) ?_
    have qu412 : asc (((((0 + (kLen 0)) + (kLen 0)) + (nLen v14)) + (kLen 5)) + (nLen z410)) (tcat ((((0 + (kLen 0)) + (kLen 0)) + (nLen v14)) + (kLen 5)) (tcat (((0 + (kLen 0)) + (kLen 0)) + (nLen v14)) (tcat ((0 + (kLen 0)) + (kLen 0)) (tcat (0 + (kLen 0)) (tcat 0 (fun _ => 0) (kByt 0)) (kByt 0)) (nDig v14)) (kByt 5)) (nDig z410)) := asc_cat qu408 (numOK_asc h411.2)
    have eu412 : ∀ j, j < ((((0 + (kLen 0)) + (kLen 0)) + (nLen v14)) + (kLen 5)) + (nLen z410) → (tcat ((((0 + (kLen 0)) + (kLen 0)) + (nLen v14)) + (kLen 5)) (tcat (((0 + (kLen 0)) + (kLen 0)) + (nLen v14)) (tcat ((0 + (kLen 0)) + (kLen 0)) (tcat (0 + (kLen 0)) (tcat 0 (fun _ => 0) (kByt 0)) (kByt 0)) (nDig v14)) (kByt 5)) (nDig z410)) j = (tcat ((((0 + (kLen 0)) + (kLen 0)) + (nLen v14)) + (kLen 5)) (tcat (((0 + (kLen 0)) + (kLen 0)) + (nLen v14)) (tcat ((0 + (kLen 0)) + (kLen 0)) (tcat (0 + (kLen 0)) (tcat 0 (fun _ => 0) (kByt 0)) (kByt 0)) (nDig v14)) (kByt 5)) (nDig z410)) j := tcat_eq eu408 (fun _ _ => rfl)
    refine g_eq (ws' := (List.append [(a11, .inr (0, [.ref w11, .int 0, .int 0, .int 0])), (w11, .inl (cB, t11n, .inl f11)), (b398, .inr (1, [.ref u412.1.1, .int 0, .int 0, .int (Int32.ofNat (((((0 + (kLen 0)) + (kLen 0)) + (nLen v14)) + (kLen 5)) + (nLen z410)))])), (u412.1.1, .inl (cB, u412.1.2.1, .inl u412.1.2.2))] (labX cB cC cI cO L0 ua v))) rfl rfl rfl ?_
    refine g_xVr (X := [(a11, .inr (0, [.ref w11, .int 0, .int 0, .int 0])), (w11, .inl (cB, t11n, .inl f11)), (b398, .inr (1, [.ref u412.1.1, .int 0, .int 0, .int (Int32.ofNat (((((0 + (kLen 0)) + (kLen 0)) + (nLen v14)) + (kLen 5)) + (nLen z410)))])), (u412.1.1, .inl (cB, u412.1.2.1, .inl u412.1.2.2))]) (pl := labX cB cC cI cO L0 ua v) (wr := [(a11, .inr (0, [.ref w11, .int 0, .int 0, .int 0])), (w11, .inl (cB, t11n, .inl f11))]) (As := []) (st := []) (b := b398) C0 jE_ok (xe_of C0 jE_ok E0.1.2) (xr_w C0 2 rfl rfl) (mJ4_toString_0e30d l D cB cC cI cO b398 u412.1.1 0 (((((0 + (kLen 0)) + (kLen 0)) + (nLen v14)) + (kLen 5)) + (nLen z410)) u412.1.2.1 u412.1.2.2 (tcat ((((0 + (kLen 0)) + (kLen 0)) + (nLen v14)) + (kLen 5)) (tcat (((0 + (kLen 0)) + (kLen 0)) + (nLen v14)) (tcat ((0 + (kLen 0)) + (kLen 0)) (tcat (0 + (kLen 0)) (tcat 0 (fun _ => 0) (kByt 0)) (kByt 0)) (nDig v14)) (kByt 5)) (nDig z410)) (by omega) u412.2) hmJ4_toString_0e30d q_1064 ⟨Nat.le_of_ble_eq_true rfl, Nat.le_of_ble_eq_true rfl⟩ rfl rfl ⟨by omega, by omega⟩ rfl [2, 3] [0, 1] rfl rfl rfl rfl (by decide) rfl rfl (Nat.le_of_ble_eq_true rfl) dL_law_636 (fun u413 => ?_)
    refine g_widen (kk1 := kk + 10) (nn1 := nn + 7730) (by omega) (by omega) ?_
    obtain ⟨⟨tau413, twu413, tfu413⟩, hfitu413, hyu413⟩ := u413
    have hxu413 : ∀ j, j < (((((0 + (kLen 0)) + (kLen 0)) + (nLen v14)) + (kLen 5)) + (nLen z410)) → tfu413 j = (tcat ((((0 + (kLen 0)) + (kLen 0)) + (nLen v14)) + (kLen 5)) (tcat (((0 + (kLen 0)) + (kLen 0)) + (nLen v14)) (tcat ((0 + (kLen 0)) + (kLen 0)) (tcat (0 + (kLen 0)) (tcat 0 (fun _ => 0) (kByt 0)) (kByt 0)) (nDig v14)) (kByt 5)) (nDig z410)) j := fun j hj => (hyu413 j hj).trans (eu412 j hj)
    have hcu413 : ascB (((((0 + (kLen 0)) + (kLen 0)) + (nLen v14)) + (kLen 5)) + (nLen z410)) tfu413 := ⟨by omega, asc_of hyu413 qu412⟩
    refine g_ordP (P' := [(a11, .inr (0, [.ref w11, .int 0, .int 0, .int 0])), (w11, .inl (cB, t11n, .inl f11)), (tau413, .inr (0, [.ref twu413, .int 0, .int 0, .int 0])), (twu413, .inl (cB, (((((0 + (kLen 0)) + (kLen 0)) + (nLen v14)) + (kLen 5)) + (nLen z410)), .inl tfu413))]) (X := labX cB cC cI cO L0 ua v) [0, 1, 4, 5] rfl rfl rfl ?_
    refine g_eq (st' := [.ref tau413]) (ws' := (List.append [(a11, .inr (0, [.ref w11, .int 0, .int 0, .int 0])), (w11, .inl (cB, t11n, .inl f11)), (tau413, .inr (0, [.ref twu413, .int 0, .int 0, .int 0])), (twu413, .inl (cB, (((((0 + (kLen 0)) + (kLen 0)) + (nLen v14)) + (kLen 5)) + (nLen z410)), .inl tfu413))] (labX cB cC cI cO L0 ua v))) rfl rfl rfl ?_
    refine g_astore C0 (lv' := [(12, .ref tau413), (0, .ref g.2.2.1), (1, .ref L0), (2, .int v2), (3, .int v3), (4, .int v4), (5, .int v5), (6, .int v6), (7, .int v7), (8, .int v8), (9, .int v9), (11, .ref a11), (13, .int v13), (14, .int v14)]) dL_law_639 (by decide) rfl ?_
    refine g_iinc C0 (lv' := [(13, .int (v13 + (1 : Int32))), (12, .ref tau413), (0, .ref g.2.2.1), (1, .ref L0), (2, .int v2), (3, .int v3), (4, .int v4), (5, .int v5), (6, .int v6), (7, .int v7), (8, .int v8), (9, .int v9), (11, .ref a11), (14, .int v14)]) dL_law_641 12 rfl rfl (by decide) rfl ?_
    refine g_goto C0 (tgt := 555) dL_law_644 (by decide) ?_
    refine g_lv [2, 3, 4, 5, 6, 7, 8, 9, 10, 11, 12, 1, 0] (lv' := [(0, .ref g.2.2.1), (1, .ref L0), (2, .int v2), (3, .int v3), (4, .int v4), (5, .int v5), (6, .int v6), (7, .int v7), (8, .int v8), (9, .int v9), (11, .ref a11), (12, .ref tau413), (13, .int (v13 + (1 : Int32)))]) rfl ?_
    exact hrec555 v v2 v3 v4 v5 v6 v7 v8 v9 t11n t11f (((((0 + (kLen 0)) + (kLen 0)) + (nLen v14)) + (kLen 5)) + (nLen z410)) (tcat ((((0 + (kLen 0)) + (kLen 0)) + (nLen v14)) + (kLen 5)) (tcat (((0 + (kLen 0)) + (kLen 0)) + (nLen v14)) (tcat ((0 + (kLen 0)) + (kLen 0)) (tcat (0 + (kLen 0)) (tcat 0 (fun _ => 0) (kByt 0)) (kByt 0)) (nDig v14)) (kByt 5)) (nDig z410)) (v13 + (1 : Int32)) a11 w11 f11 hx11 hc11 tau413 twu413 tfu413 hxu413 hcu413 _ _ hf (by omega) (by omega)
  · rw [if_neg c402] at hf
    refine g_ldcS C0 (E0.2.1.2 4 (166, ",") rfl) dL_law_607 ?_
    refine g_goto C0 (tgt := 614) dL_law_609 (by decide) ?_
    obtain ⟨h414, hf⟩ := hl_ifS hf
    refine g_xVr (X := [(a11, .inr (0, [.ref w11, .int 0, .int 0, .int 0])), (w11, .inl (cB, t11n, .inl f11)), (b398, .inr (1, [.ref u401.1.1, .int 0, .int 0, .int (Int32.ofNat (0 + (kLen 0)))])), (u401.1.1, .inl (cB, u401.1.2.1, .inl u401.1.2.2))]) (pl := labX cB cC cI cO L0 ua v) (wr := [(a11, .inr (0, [.ref w11, .int 0, .int 0, .int 0])), (w11, .inl (cB, t11n, .inl f11))]) (As := [.ref (g.1 4)]) (st := []) (b := b398) C0 (jT_ok _ _ _ _) (xe_of C0 (jT_ok _ _ _ _) ⟨E0.1.2, hKt_tx E0.2.1 (by decide : 4 < 6)⟩) (xr_w C0 2 rfl rfl) (mJ4_append_15ec4 l D cB cC cI cO (g.1 4) (g.2.1 4) (kLen 4) (kByt 4) b398 u401.1.1 0 (0 + (kLen 0)) u401.1.2.1 u401.1.2.2 (tcat 0 (fun _ => 0) (kByt 0)) (by omega) (by omega) (kAsc 4 (by decide)) u401.2) hmJ4_append_15ec4 q_944 ⟨Nat.le_of_ble_eq_true rfl, Nat.le_of_ble_eq_true rfl⟩ rfl rfl ⟨by omega, by omega⟩ rfl [2, 3] [0, 1] rfl rfl rfl rfl (by decide) rfl rfl (Nat.le_of_ble_eq_true rfl) dL_law_614 (fun u415 => ?_)
    refine g_widen (kk1 := kk + 4) (nn1 := nn + 2820) (by omega) (by omega) ?_
    have qu415 : asc ((0 + (kLen 0)) + (kLen 4)) (tcat (0 + (kLen 0)) (tcat 0 (fun _ => 0) (kByt 0)) (kByt 4)) := asc_cat qu401 (kAsc 4 (by decide))
    have eu415 : ∀ j, j < (0 + (kLen 0)) + (kLen 4) → (tcat (0 + (kLen 0)) (tcat 0 (fun _ => 0) (kByt 0)) (kByt 4)) j = (tcat (0 + (kLen 0)) (tcat 0 (fun _ => 0) (kByt 0)) (kByt 4)) j := tcat_eq eu401 (fun _ _ => rfl)
    refine g_eq (ws' := (List.append [(a11, .inr (0, [.ref w11, .int 0, .int 0, .int 0])), (w11, .inl (cB, t11n, .inl f11)), (b398, .inr (1, [.ref u415.1.1, .int 0, .int 0, .int (Int32.ofNat ((0 + (kLen 0)) + (kLen 4)))])), (u415.1.1, .inl (cB, u415.1.2.1, .inl u415.1.2.2))] (labX cB cC cI cO L0 ua v))) rfl rfl rfl ?_
    refine g_iload C0 dL_law_617 13 rfl ?_
    obtain ⟨h416, hf⟩ := hl_ifS hf
    refine g_xVr (X := [(a11, .inr (0, [.ref w11, .int 0, .int 0, .int 0])), (w11, .inl (cB, t11n, .inl f11)), (b398, .inr (1, [.ref u415.1.1, .int 0, .int 0, .int (Int32.ofNat ((0 + (kLen 0)) + (kLen 4)))])), (u415.1.1, .inl (cB, u415.1.2.1, .inl u415.1.2.2))]) (pl := labX cB cC cI cO L0 ua v) (wr := [(a11, .inr (0, [.ref w11, .int 0, .int 0, .int 0])), (w11, .inl (cB, t11n, .inl f11))]) (As := [.int v14]) (st := []) (b := b398) C0 jE_ok (xe_of C0 jE_ok E0.1.2) (xr_w C0 2 rfl rfl) (mJ4_append_bf812 l D cB cC cI cO v14 (nLen v14) (nDig v14) b398 u415.1.1 0 ((0 + (kLen 0)) + (kLen 4)) u415.1.2.1 u415.1.2.2 (tcat (0 + (kLen 0)) (tcat 0 (fun _ => 0) (kByt 0)) (kByt 4)) (by omega) (by omega) (numOK_T h416.2) u415.2) hmJ4_append_bf812 q_1039 ⟨Nat.le_of_ble_eq_true rfl, Nat.le_of_ble_eq_true rfl⟩ rfl rfl ⟨by omega, by omega⟩ rfl [2, 3] [0, 1] rfl rfl rfl rfl (by decide) rfl rfl (Nat.le_of_ble_eq_true rfl) dL_law_619 (fun u417 => ?_)
    refine g_widen (kk1 := kk + 5) (nn1 := nn + 4220) (by omega) (by omega) ?_
    have qu417 : asc (((0 + (kLen 0)) + (kLen 4)) + (nLen v14)) (tcat ((0 + (kLen 0)) + (kLen 4)) (tcat (0 + (kLen 0)) (tcat 0 (fun _ => 0) (kByt 0)) (kByt 4)) (nDig v14)) := asc_cat qu415 (numOK_asc h416.2)
    have eu417 : ∀ j, j < ((0 + (kLen 0)) + (kLen 4)) + (nLen v14) → (tcat ((0 + (kLen 0)) + (kLen 4)) (tcat (0 + (kLen 0)) (tcat 0 (fun _ => 0) (kByt 0)) (kByt 4)) (nDig v14)) j = (tcat ((0 + (kLen 0)) + (kLen 4)) (tcat (0 + (kLen 0)) (tcat 0 (fun _ => 0) (kByt 0)) (kByt 4)) (nDig v14)) j := tcat_eq eu415 (fun _ _ => rfl)
    refine g_eq (ws' := (List.append [(a11, .inr (0, [.ref w11, .int 0, .int 0, .int 0])), (w11, .inl (cB, t11n, .inl f11)), (b398, .inr (1, [.ref u417.1.1, .int 0, .int 0, .int (Int32.ofNat (((0 + (kLen 0)) + (kLen 4)) + (nLen v14)))])), (u417.1.1, .inl (cB, u417.1.2.1, .inl u417.1.2.2))] (labX cB cC cI cO L0 ua v))) rfl rfl rfl ?_
    refine g_ldcS C0 (E0.2.1.2 5 (168, "=") rfl) dL_law_622 ?_
    obtain ⟨h418, hf⟩ := hl_ifS hf
    refine g_xVr (X := [(a11, .inr (0, [.ref w11, .int 0, .int 0, .int 0])), (w11, .inl (cB, t11n, .inl f11)), (b398, .inr (1, [.ref u417.1.1, .int 0, .int 0, .int (Int32.ofNat (((0 + (kLen 0)) + (kLen 4)) + (nLen v14)))])), (u417.1.1, .inl (cB, u417.1.2.1, .inl u417.1.2.2))]) (pl := labX cB cC cI cO L0 ua v) (wr := [(a11, .inr (0, [.ref w11, .int 0, .int 0, .int 0])), (w11, .inl (cB, t11n, .inl f11))]) (As := [.ref (g.1 5)]) (st := []) (b := b398) C0 (jT_ok _ _ _ _) (xe_of C0 (jT_ok _ _ _ _) ⟨E0.1.2, hKt_tx E0.2.1 (by decide : 5 < 6)⟩) (xr_w C0 2 rfl rfl) (mJ4_append_15ec4 l D cB cC cI cO (g.1 5) (g.2.1 5) (kLen 5) (kByt 5) b398 u417.1.1 0 (((0 + (kLen 0)) + (kLen 4)) + (nLen v14)) u417.1.2.1 u417.1.2.2 (tcat ((0 + (kLen 0)) + (kLen 4)) (tcat (0 + (kLen 0)) (tcat 0 (fun _ => 0) (kByt 0)) (kByt 4)) (nDig v14)) (by omega) (by omega) (kAsc 5 (by decide)) u417.2) hmJ4_append_15ec4 q_944 ⟨Nat.le_of_ble_eq_true rfl, Nat.le_of_ble_eq_true rfl⟩ rfl rfl ⟨by omega, by omega⟩ rfl [2, 3] [0, 1] rfl rfl rfl rfl (by decide) rfl rfl (Nat.le_of_ble_eq_true rfl) dL_law_624 (fun u419 => ?_)
    refine g_widen (kk1 := kk + 6) (nn1 := nn + 5620) (by omega) (by omega) ?_
    have qu419 : asc ((((0 + (kLen 0)) + (kLen 4)) + (nLen v14)) + (kLen 5)) (tcat (((0 + (kLen 0)) + (kLen 4)) + (nLen v14)) (tcat ((0 + (kLen 0)) + (kLen 4)) (tcat (0 + (kLen 0)) (tcat 0 (fun _ => 0) (kByt 0)) (kByt 4)) (nDig v14)) (kByt 5)) := asc_cat qu417 (kAsc 5 (by decide))
    have eu419 : ∀ j, j < (((0 + (kLen 0)) + (kLen 4)) + (nLen v14)) + (kLen 5) → (tcat (((0 + (kLen 0)) + (kLen 4)) + (nLen v14)) (tcat ((0 + (kLen 0)) + (kLen 4)) (tcat (0 + (kLen 0)) (tcat 0 (fun _ => 0) (kByt 0)) (kByt 4)) (nDig v14)) (kByt 5)) j = (tcat (((0 + (kLen 0)) + (kLen 4)) + (nLen v14)) (tcat ((0 + (kLen 0)) + (kLen 4)) (tcat (0 + (kLen 0)) (tcat 0 (fun _ => 0) (kByt 0)) (kByt 4)) (nDig v14)) (kByt 5)) j := tcat_eq eu417 (fun _ _ => rfl)
    refine g_eq (ws' := (List.append [(a11, .inr (0, [.ref w11, .int 0, .int 0, .int 0])), (w11, .inl (cB, t11n, .inl f11)), (b398, .inr (1, [.ref u419.1.1, .int 0, .int 0, .int (Int32.ofNat ((((0 + (kLen 0)) + (kLen 4)) + (nLen v14)) + (kLen 5)))])), (u419.1.1, .inl (cB, u419.1.2.1, .inl u419.1.2.2))] (labX cB cC cI cO L0 ua v))) rfl rfl rfl ?_
    refine g_aload_n C0 dL_law_627 rfl 1 rfl ?_
    refine g_iload C0 dL_law_628 13 rfl ?_
    obtain ⟨r420, er420, hf⟩ := hl_bd hf
    obtain ⟨z421, ez421, hf⟩ := hl_inl hf
    have kr420 := mg_get l hl0 D cB cC cI cO L0 ua v v14 r420 er420
    rw [ez421] at kr420
    refine g_sufNi C0 E0.1.1 (P := [(a11, .inr (0, [.ref w11, .int 0, .int 0, .int 0])), (w11, .inl (cB, t11n, .inl f11)), (b398, .inr (1, [.ref u419.1.1, .int 0, .int 0, .int (Int32.ofNat ((((0 + (kLen 0)) + (kLen 4)) + (nLen v14)) + (kLen 5)))])), (u419.1.1, .inl (cB, u419.1.2.1, .inl u419.1.2.2))]) (X := labX cB cC cI cO L0 ua v) (X1 := labX cB cC cI cO L0 ua v) (As := [.int v14]) (st := [.ref b398]) kr420 hmX6_get q_281 ⟨Nat.le_of_ble_eq_true rfl, Nat.le_of_ble_eq_true rfl⟩ ⟨by omega, by omega⟩ rfl rfl rfl rfl rfl 0 rfl rfl rfl (Nat.le_of_ble_eq_true rfl) dL_law_630 ?_
    obtain ⟨h422, hf⟩ := hl_ifS hf
    refine g_xVr (X := [(a11, .inr (0, [.ref w11, .int 0, .int 0, .int 0])), (w11, .inl (cB, t11n, .inl f11)), (b398, .inr (1, [.ref u419.1.1, .int 0, .int 0, .int (Int32.ofNat ((((0 + (kLen 0)) + (kLen 4)) + (nLen v14)) + (kLen 5)))])), (u419.1.1, .inl (cB, u419.1.2.1, .inl u419.1.2.2))]) (pl := labX cB cC cI cO L0 ua v) (wr := [(a11, .inr (0, [.ref w11, .int 0, .int 0, .int 0])), (w11, .inl (cB, t11n, .inl f11))]) (As := [.int z421]) (st := []) (b := b398) C0 jE_ok (xe_of C0 jE_ok E0.1.2) (xr_w C0 2 rfl rfl) (mJ4_append_bf812 l D cB cC cI cO z421 (nLen z421) (nDig z421) b398 u419.1.1 0 ((((0 + (kLen 0)) + (kLen 4)) + (nLen v14)) + (kLen 5)) u419.1.2.1 u419.1.2.2 (tcat (((0 + (kLen 0)) + (kLen 4)) + (nLen v14)) (tcat ((0 + (kLen 0)) + (kLen 4)) (tcat (0 + (kLen 0)) (tcat 0 (fun _ => 0) (kByt 0)) (kByt 4)) (nDig v14)) (kByt 5)) (by omega) (by omega) (numOK_T h422.2) u419.2) hmJ4_append_bf812 q_1039 ⟨Nat.le_of_ble_eq_true rfl, Nat.le_of_ble_eq_true rfl⟩ rfl rfl ⟨by omega, by omega⟩ rfl [2, 3] [0, 1] rfl rfl rfl rfl (by decide) rfl rfl (Nat.le_of_ble_eq_true rfl) dL_law_633 (fun u423 => ?_)
    refine g_widen (kk1 := kk + 8) (nn1 := nn + 7026) (by omega) (by omega) ?_
    have qu423 : asc (((((0 + (kLen 0)) + (kLen 4)) + (nLen v14)) + (kLen 5)) + (nLen z421)) (tcat ((((0 + (kLen 0)) + (kLen 4)) + (nLen v14)) + (kLen 5)) (tcat (((0 + (kLen 0)) + (kLen 4)) + (nLen v14)) (tcat ((0 + (kLen 0)) + (kLen 4)) (tcat (0 + (kLen 0)) (tcat 0 (fun _ => 0) (kByt 0)) (kByt 4)) (nDig v14)) (kByt 5)) (nDig z421)) := asc_cat qu419 (numOK_asc h422.2)
    have eu423 : ∀ j, j < ((((0 + (kLen 0)) + (kLen 4)) + (nLen v14)) + (kLen 5)) + (nLen z421) → (tcat ((((0 + (kLen 0)) + (kLen 4)) + (nLen v14)) + (kLen 5)) (tcat (((0 + (kLen 0)) + (kLen 4)) + (nLen v14)) (tcat ((0 + (kLen 0)) + (kLen 4)) (tcat (0 + (kLen 0)) (tcat 0 (fun _ => 0) (kByt 0)) (kByt 4)) (nDig v14)) (kByt 5)) (nDig z421)) j = (tcat ((((0 + (kLen 0)) + (kLen 4)) + (nLen v14)) + (kLen 5)) (tcat (((0 + (kLen 0)) + (kLen 4)) + (nLen v14)) (tcat ((0 + (kLen 0)) + (kLen 4)) (tcat (0 + (kLen 0)) (tcat 0 (fun _ => 0) (kByt 0)) (kByt 4)) (nDig v14)) (kByt 5)) (nDig z421)) j := tcat_eq eu419 (fun _ _ => rfl)
    refine g_eq (ws' := (List.append [(a11, .inr (0, [.ref w11, .int 0, .int 0, .int 0])), (w11, .inl (cB, t11n, .inl f11)), (b398, .inr (1, [.ref u423.1.1, .int 0, .int 0, .int (Int32.ofNat (((((0 + (kLen 0)) + (kLen 4)) + (nLen v14)) + (kLen 5)) + (nLen z421)))])), (u423.1.1, .inl (cB, u423.1.2.1, .inl u423.1.2.2))] (labX cB cC cI cO L0 ua v))) rfl rfl rfl ?_
    refine g_xVr (X := [(a11, .inr (0, [.ref w11, .int 0, .int 0, .int 0])), (w11, .inl (cB, t11n, .inl f11)), (b398, .inr (1, [.ref u423.1.1, .int 0, .int 0, .int (Int32.ofNat (((((0 + (kLen 0)) + (kLen 4)) + (nLen v14)) + (kLen 5)) + (nLen z421)))])), (u423.1.1, .inl (cB, u423.1.2.1, .inl u423.1.2.2))]) (pl := labX cB cC cI cO L0 ua v) (wr := [(a11, .inr (0, [.ref w11, .int 0, .int 0, .int 0])), (w11, .inl (cB, t11n, .inl f11))]) (As := []) (st := []) (b := b398) C0 jE_ok (xe_of C0 jE_ok E0.1.2) (xr_w C0 2 rfl rfl) (mJ4_toString_0e30d l D cB cC cI cO b398 u423.1.1 0 (((((0 + (kLen 0)) + (kLen 4)) + (nLen v14)) + (kLen 5)) + (nLen z421)) u423.1.2.1 u423.1.2.2 (tcat ((((0 + (kLen 0)) + (kLen 4)) + (nLen v14)) + (kLen 5)) (tcat (((0 + (kLen 0)) + (kLen 4)) + (nLen v14)) (tcat ((0 + (kLen 0)) + (kLen 4)) (tcat (0 + (kLen 0)) (tcat 0 (fun _ => 0) (kByt 0)) (kByt 4)) (nDig v14)) (kByt 5)) (nDig z421)) (by omega) u423.2) hmJ4_toString_0e30d q_1064 ⟨Nat.le_of_ble_eq_true rfl, Nat.le_of_ble_eq_true rfl⟩ rfl rfl ⟨by omega, by omega⟩ rfl [2, 3] [0, 1] rfl rfl rfl rfl (by decide) rfl rfl (Nat.le_of_ble_eq_true rfl) dL_law_636 (fun u424 => ?_)
    refine g_widen (kk1 := kk + 10) (nn1 := nn + 7730) (by omega) (by omega) ?_
    obtain ⟨⟨tau424, twu424, tfu424⟩, hfitu424, hyu424⟩ := u424
    have hxu424 : ∀ j, j < (((((0 + (kLen 0)) + (kLen 4)) + (nLen v14)) + (kLen 5)) + (nLen z421)) → tfu424 j = (tcat ((((0 + (kLen 0)) + (kLen 4)) + (nLen v14)) + (kLen 5)) (tcat (((0 + (kLen 0)) + (kLen 4)) + (nLen v14)) (tcat ((0 + (kLen 0)) + (kLen 4)) (tcat (0 + (kLen 0)) (tcat 0 (fun _ => 0) (kByt 0)) (kByt 4)) (nDig v14)) (kByt 5)) (nDig z421)) j := fun j hj => (hyu424 j hj).trans (eu423 j hj)
    have hcu424 : ascB (((((0 + (kLen 0)) + (kLen 4)) + (nLen v14)) + (kLen 5)) + (nLen z421)) tfu424 := ⟨by omega, asc_of hyu424 qu423⟩
    refine g_ordP (P' := [(a11, .inr (0, [.ref w11, .int 0, .int 0, .int 0])), (w11, .inl (cB, t11n, .inl f11)), (tau424, .inr (0, [.ref twu424, .int 0, .int 0, .int 0])), (twu424, .inl (cB, (((((0 + (kLen 0)) + (kLen 4)) + (nLen v14)) + (kLen 5)) + (nLen z421)), .inl tfu424))]) (X := labX cB cC cI cO L0 ua v) [0, 1, 4, 5] rfl rfl rfl ?_
    refine g_eq (st' := [.ref tau424]) (ws' := (List.append [(a11, .inr (0, [.ref w11, .int 0, .int 0, .int 0])), (w11, .inl (cB, t11n, .inl f11)), (tau424, .inr (0, [.ref twu424, .int 0, .int 0, .int 0])), (twu424, .inl (cB, (((((0 + (kLen 0)) + (kLen 4)) + (nLen v14)) + (kLen 5)) + (nLen z421)), .inl tfu424))] (labX cB cC cI cO L0 ua v))) rfl rfl rfl ?_
    refine g_astore C0 (lv' := [(12, .ref tau424), (0, .ref g.2.2.1), (1, .ref L0), (2, .int v2), (3, .int v3), (4, .int v4), (5, .int v5), (6, .int v6), (7, .int v7), (8, .int v8), (9, .int v9), (11, .ref a11), (13, .int v13), (14, .int v14)]) dL_law_639 (by decide) rfl ?_
    refine g_iinc C0 (lv' := [(13, .int (v13 + (1 : Int32))), (12, .ref tau424), (0, .ref g.2.2.1), (1, .ref L0), (2, .int v2), (3, .int v3), (4, .int v4), (5, .int v5), (6, .int v6), (7, .int v7), (8, .int v8), (9, .int v9), (11, .ref a11), (14, .int v14)]) dL_law_641 12 rfl rfl (by decide) rfl ?_
    refine g_goto C0 (tgt := 555) dL_law_644 (by decide) ?_
    refine g_lv [2, 3, 4, 5, 6, 7, 8, 9, 10, 11, 12, 1, 0] (lv' := [(0, .ref g.2.2.1), (1, .ref L0), (2, .int v2), (3, .int v3), (4, .int v4), (5, .int v5), (6, .int v6), (7, .int v7), (8, .int v8), (9, .int v9), (11, .ref a11), (12, .ref tau424), (13, .int (v13 + (1 : Int32)))]) rfl ?_
    exact hrec555 v v2 v3 v4 v5 v6 v7 v8 v9 t11n t11f (((((0 + (kLen 0)) + (kLen 4)) + (nLen v14)) + (kLen 5)) + (nLen z421)) (tcat ((((0 + (kLen 0)) + (kLen 4)) + (nLen v14)) + (kLen 5)) (tcat (((0 + (kLen 0)) + (kLen 4)) + (nLen v14)) (tcat ((0 + (kLen 0)) + (kLen 4)) (tcat (0 + (kLen 0)) (tcat 0 (fun _ => 0) (kByt 0)) (kByt 4)) (nDig v14)) (kByt 5)) (nDig z421)) (v13 + (1 : Int32)) a11 w11 f11 hx11 hc11 tau424 twu424 tfu424 hxu424 hcu424 _ _ hf (by omega) (by omega)
set_option maxHeartbeats 8000000 in
set_option maxRecDepth 100000 in
theorem bL_law_555_WK {p : Program} {l : Launch} {e : Env} {s : State} {m : MethodId} {args : Array Value} {below : List Frame} {meth : Method} {c : Code} {D : va_G} {cB cC cI cO : ClassId} {A : Nat → Prop} {g : LG} (C0 : gC RL cL_law 23 (some .boolean) p s m args meth c D (hTy cB cC cI cO) A) (E0 : hLw g A s) (hl0 : l.stackTraces = false) (K0 : Nat → Int32) (hK0 : fJ7_fill_53178 64 (fun _ => 0) (-1 : Int32) = some K0) {Q : State → Prop} (KE : ∀ (lv : List (Nat × Value)) (ws : va_W) (kk nn : Nat), kk ≤ room_1.cells → nn ≤ room_1.slots → gG p l e room_1 s m args below meth c D A 23 Q kk nn 1230 lv [.int 1] ws) (L0 : Nat) (ua : LA) (out : Unit) {B15a B15b : Nat} (rec15 : LV → Int32 → Option (Unit)) (hrec15 : ∀ (v : LV) (v2 : Int32)  (kk nn : Nat), rec15 v v2 = some out → kk + (B15a) ≤ room_1.cells → nn + (B15b) ≤ room_1.slots → gG p l e room_1 s m args below meth c D A 23 Q kk nn 15 [(0, .ref g.2.2.1), (1, .ref L0), (2, .int v2)] [] (List.append [] (labX cB cC cI cO L0 ua v))) : ∀ (n : Nat) (v : LV) (v2 : Int32) (v3 : Int32) (v4 : Int32) (v5 : Int32) (v6 : Int32) (v7 : Int32) (v8 : Int32) (v9 : Int32) (t11n : Nat) (t11f : Nat → Int32) (_ : Nat) (_ : Nat → Int32) (v13 : Int32) (a11 w11 : Nat) (f11 : Nat → Int32) (hx11 : ∀ j, j < t11n → f11 j = t11f j) (hc11 : ascB t11n f11) (kk nn : Nat), fL_law_555 g K0 rec15 n v v2 v3 v4 v5 v6 v7 v8 v9 t11n t11f (kLen 0) (kByt 0) v13 = some out → kk + (n * 12 + (3272 + B15a)) ≤ room_1.cells → nn + (n * 7742 + (34456 + B15b)) ≤ room_1.slots → gG p l e room_1 s m args below meth c D A 23 Q kk nn 555 [(0, .ref g.2.2.1), (1, .ref L0), (2, .int v2), (3, .int v3), (4, .int v4), (5, .int v5), (6, .int v6), (7, .int v7), (8, .int v8), (9, .int v9), (11, .ref a11), (12, .ref (g.1 0)), (13, .int v13)] [] (List.append [(a11, .inr (0, [.ref w11, .int 0, .int 0, .int 0])), (w11, .inl (cB, t11n, .inl f11))] (labX cB cC cI cO L0 ua v)) := by
  intro n
  cases n with
  | zero => intro v v2 v3 v4 v5 v6 v7 v8 v9 t11n t11f _ _ v13 a11 w11 f11 hx11 hc11 kk nn hf hb1 hb2; rw [fL_law_555] at hf; cases hf
  | succ n =>
    intro v v2 v3 v4 v5 v6 v7 v8 v9 t11n t11f _ _ v13 a11 w11 f11 hx11 hc11 kk nn hf hb1 hb2
    have ih := bL_law_555_WW C0 E0 hl0 K0 hK0 KE L0 ua out rec15 hrec15 n
    rw [fL_law_555] at hf
    refine g_iload C0 dL_law_555 12 rfl ?_
    refine g_iload C0 dL_law_557 4 rfl ?_
    refine g_icmp_ge C0 (tgt := 647) dL_law_559 (by decide) (fun c341 => ?_) (fun c341 => ?_)
    · rw [if_pos c341] at hf
      refine g_iconst C0 (v := (0 : Int32)) dL_law_647 (by decide) ?_
      refine g_istore C0 (lv' := [(13, .int (0 : Int32)), (0, .ref g.2.2.1), (1, .ref L0), (2, .int v2), (3, .int v3), (4, .int v4), (5, .int v5), (6, .int v6), (7, .int v7), (8, .int v8), (9, .int v9), (11, .ref a11), (12, .ref (g.1 0))]) dL_law_648 (by decide) rfl ?_
      refine g_lv [1, 2, 3, 4, 5, 6, 7, 8, 9, 10, 11, 12, 0] (lv' := [(0, .ref g.2.2.1), (1, .ref L0), (2, .int v2), (3, .int v3), (4, .int v4), (5, .int v5), (6, .int v6), (7, .int v7), (8, .int v8), (9, .int v9), (11, .ref a11), (12, .ref (g.1 0)), (13, .int (0 : Int32))]) rfl ?_
      exact bL_law_650_WK C0 E0 hl0 K0 hK0 KE L0 ua out rec15 hrec15  7  v v2 v3 v4 v5 v6 v7 v8 v9 t11n t11f (kLen 0) (kByt 0) (0 : Int32) a11 w11 f11 hx11 hc11 _ _ hf (by omega) (by omega)
    · rw [if_neg c341] at hf
      refine g_aload_n C0 dL_law_562 rfl 1 rfl ?_
      refine g_iload C0 dL_law_563 12 rfl ?_
      obtain ⟨r342, er342, hf⟩ := hl_bd hf
      obtain ⟨z343, ez343, hf⟩ := hl_inl hf
      have kr342 := mg_keyAt l hl0 D cB cC cI cO L0 ua v v13 r342 er342
      rw [ez343] at kr342
      refine g_sufNi C0 E0.1.1 (P := [(a11, .inr (0, [.ref w11, .int 0, .int 0, .int 0])), (w11, .inl (cB, t11n, .inl f11))]) (X := labX cB cC cI cO L0 ua v) (X1 := labX cB cC cI cO L0 ua v) (As := [.int v13]) (st := []) kr342 hmX6_keyAt q_425 ⟨Nat.le_of_ble_eq_true rfl, Nat.le_of_ble_eq_true rfl⟩ ⟨by omega, by omega⟩ rfl rfl rfl rfl rfl 0 rfl rfl rfl (Nat.le_of_ble_eq_true rfl) dL_law_565 ?_
      refine g_istore C0 (lv' := [(14, .int z343), (0, .ref g.2.2.1), (1, .ref L0), (2, .int v2), (3, .int v3), (4, .int v4), (5, .int v5), (6, .int v6), (7, .int v7), (8, .int v8), (9, .int v9), (11, .ref a11), (12, .ref (g.1 0)), (13, .int v13)]) dL_law_568 (by decide) rfl ?_
      refine g_iload C0 dL_law_570 13 rfl ?_
      refine g_if_le C0 (tgt := 590) dL_law_572 (by decide) (fun c344 => ?_) (fun c344 => ?_)
      · rw [if_pos c344] at hf
        refine g_lv [1, 2, 3, 4, 5, 6, 7, 8, 9, 10, 11, 12, 13, 0] (lv' := [(0, .ref g.2.2.1), (1, .ref L0), (2, .int v2), (3, .int v3), (4, .int v4), (5, .int v5), (6, .int v6), (7, .int v7), (8, .int v8), (9, .int v9), (11, .ref a11), (12, .ref (g.1 0)), (13, .int v13), (14, .int z343)]) rfl ?_
        exact bL_law_590_WK C0 E0 hl0 K0 hK0 KE L0 ua out rec15 (fL_law_555 g K0 rec15 n) hrec15 ih   v v2 v3 v4 v5 v6 v7 v8 v9 t11n t11f (kLen 0) (kByt 0) v13 z343 a11 w11 f11 hx11 hc11 _ _ hf (by omega) (by omega)
      · rw [if_neg c344] at hf
        refine g_iload C0 dL_law_575 0 rfl ?_
        refine g_aload_n C0 dL_law_577 rfl 2 rfl ?_
        refine g_iload C0 dL_law_578 13 rfl ?_
        refine g_iconst C0 (v := (1 : Int32)) dL_law_580 (by decide) ?_
        refine g_isub C0 dL_law_581 ?_
        obtain ⟨r345, er345, hf⟩ := hl_bd hf
        obtain ⟨z346, ez346, hf⟩ := hl_inl hf
        have kr345 := mg_keyAt l hl0 D cB cC cI cO L0 ua v (v13 - (1 : Int32)) r345 er345
        rw [ez346] at kr345
        refine g_sufNi C0 E0.1.1 (P := [(a11, .inr (0, [.ref w11, .int 0, .int 0, .int 0])), (w11, .inl (cB, t11n, .inl f11))]) (X := labX cB cC cI cO L0 ua v) (X1 := labX cB cC cI cO L0 ua v) (As := [.int (v13 - (1 : Int32))]) (st := [.int z343]) kr345 hmX6_keyAt q_425 ⟨Nat.le_of_ble_eq_true rfl, Nat.le_of_ble_eq_true rfl⟩ ⟨by omega, by omega⟩ rfl rfl rfl rfl rfl 0 rfl rfl rfl (Nat.le_of_ble_eq_true rfl) dL_law_582 ?_
        refine g_icmp_gt C0 (tgt := 590) dL_law_585 (by decide) (fun c347 => ?_) (fun c347 => ?_)
        · rw [if_pos c347] at hf
          refine g_lv [1, 2, 3, 4, 5, 6, 7, 8, 9, 10, 11, 12, 13, 0] (lv' := [(0, .ref g.2.2.1), (1, .ref L0), (2, .int v2), (3, .int v3), (4, .int v4), (5, .int v5), (6, .int v6), (7, .int v7), (8, .int v8), (9, .int v9), (11, .ref a11), (12, .ref (g.1 0)), (13, .int v13), (14, .int z343)]) rfl ?_
          exact bL_law_590_WK C0 E0 hl0 K0 hK0 KE L0 ua out rec15 (fL_law_555 g K0 rec15 n) hrec15 ih   v v2 v3 v4 v5 v6 v7 v8 v9 t11n t11f (kLen 0) (kByt 0) v13 z343 a11 w11 f11 hx11 hc11 _ _ hf (by omega) (by omega)
        · rw [if_neg c347] at hf
          refine g_iconst C0 (v := (0 : Int32)) dL_law_588 (by decide) ?_
          cases hf
set_option maxHeartbeats 8000000 in
set_option maxRecDepth 100000 in
theorem bL_law_546_WK {p : Program} {l : Launch} {e : Env} {s : State} {m : MethodId} {args : Array Value} {below : List Frame} {meth : Method} {c : Code} {D : va_G} {cB cC cI cO : ClassId} {A : Nat → Prop} {g : LG} (C0 : gC RL cL_law 23 (some .boolean) p s m args meth c D (hTy cB cC cI cO) A) (E0 : hLw g A s) (hl0 : l.stackTraces = false) (K0 : Nat → Int32) (hK0 : fJ7_fill_53178 64 (fun _ => 0) (-1 : Int32) = some K0) {Q : State → Prop} (KE : ∀ (lv : List (Nat × Value)) (ws : va_W) (kk nn : Nat), kk ≤ room_1.cells → nn ≤ room_1.slots → gG p l e room_1 s m args below meth c D A 23 Q kk nn 1230 lv [.int 1] ws) (L0 : Nat) (ua : LA) (out : Unit) {B15a B15b : Nat} {B59a B59b : Nat} (rec15 : LV → Int32 → Option (Unit)) (rec59 : LV → Int32 → Int32 → Int32 → Int32 → Int32 → Int32 → Int32 → Int32 → Int32 → Nat → (Nat → Int32) → Nat → (Nat → Int32) → Int32 → Option (Unit)) (hrec15 : ∀ (v : LV) (v2 : Int32)  (kk nn : Nat), rec15 v v2 = some out → kk + (B15a) ≤ room_1.cells → nn + (B15b) ≤ room_1.slots → gG p l e room_1 s m args below meth c D A 23 Q kk nn 15 [(0, .ref g.2.2.1), (1, .ref L0), (2, .int v2)] [] (List.append [] (labX cB cC cI cO L0 ua v))) (hrec59 : ∀ (v : LV) (v2 : Int32) (v3 : Int32) (v4 : Int32) (v5 : Int32) (v6 : Int32) (v7 : Int32) (v8 : Int32) (v9 : Int32) (v10 : Int32) (t11n : Nat) (t11f : Nat → Int32) (_ : Nat) (_ : Nat → Int32) (v13 : Int32) (a11 w11 : Nat) (f11 : Nat → Int32) (hx11 : ∀ j, j < t11n → f11 j = t11f j) (hc11 : ascB t11n f11) (kk nn : Nat), rec59 v v2 v3 v4 v5 v6 v7 v8 v9 v10 t11n t11f (kLen 0) (kByt 0) v13 = some out → kk + (B59a) ≤ room_1.cells → nn + (B59b) ≤ room_1.slots → gG p l e room_1 s m args below meth c D A 23 Q kk nn 59 [(0, .ref g.2.2.1), (1, .ref L0), (2, .int v2), (3, .int v3), (4, .int v4), (5, .int v5), (6, .int v6), (7, .int v7), (8, .int v8), (9, .int v9), (10, .int v10), (11, .ref a11), (12, .ref (g.1 0)), (13, .int v13)] [] (List.append [(a11, .inr (0, [.ref w11, .int 0, .int 0, .int 0])), (w11, .inl (cB, t11n, .inl f11))] (labX cB cC cI cO L0 ua v))) : ∀ (v : LV) (v2 : Int32) (v3 : Int32) (v4 : Int32) (v5 : Int32) (v6 : Int32) (v7 : Int32) (v8 : Int32) (v9 : Int32) (v10 : Int32) (t11n : Nat) (t11f : Nat → Int32) (_ : Nat) (_ : Nat → Int32) (v13 : Int32) (a11 w11 : Nat) (f11 : Nat → Int32) (hx11 : ∀ j, j < t11n → f11 j = t11f j) (hc11 : ascB t11n f11) (kk nn : Nat), fL_law_546 g K0 rec15 rec59  v v2 v3 v4 v5 v6 v7 v8 v9 v10 t11n t11f (kLen 0) (kByt 0) v13 = some out → kk + (0 + B59a) ≤ room_1.cells → nn + (0 + B59b) ≤ room_1.slots → gG p l e room_1 s m args below meth c D A 23 Q kk nn 546 [(0, .ref g.2.2.1), (1, .ref L0), (2, .int v2), (3, .int v3), (4, .int v4), (5, .int v5), (6, .int v6), (7, .int v7), (8, .int v8), (9, .int v9), (10, .int v10), (11, .ref a11), (12, .ref (g.1 0)), (13, .int v13)] [] (List.append [(a11, .inr (0, [.ref w11, .int 0, .int 0, .int 0])), (w11, .inl (cB, t11n, .inl f11))] (labX cB cC cI cO L0 ua v)) := by
  intro v v2 v3 v4 v5 v6 v7 v8 v9 v10 t11n t11f _ _ v13 a11 w11 f11 hx11 hc11 kk nn hf hb1 hb2
  unfold fL_law_546 at hf
  refine g_iinc C0 (lv' := [(13, .int (v13 + (1 : Int32))), (0, .ref g.2.2.1), (1, .ref L0), (2, .int v2), (3, .int v3), (4, .int v4), (5, .int v5), (6, .int v6), (7, .int v7), (8, .int v8), (9, .int v9), (10, .int v10), (11, .ref a11), (12, .ref (g.1 0))]) dL_law_546 13 rfl rfl (by decide) rfl ?_
  refine g_goto C0 (tgt := 59) dL_law_549 (by decide) ?_
  refine g_lv [1, 2, 3, 4, 5, 6, 7, 8, 9, 10, 11, 12, 13, 0] (lv' := [(0, .ref g.2.2.1), (1, .ref L0), (2, .int v2), (3, .int v3), (4, .int v4), (5, .int v5), (6, .int v6), (7, .int v7), (8, .int v8), (9, .int v9), (10, .int v10), (11, .ref a11), (12, .ref (g.1 0)), (13, .int (v13 + (1 : Int32)))]) rfl ?_
  exact hrec59 v v2 v3 v4 v5 v6 v7 v8 v9 v10 t11n t11f (kLen 0) (kByt 0) (v13 + (1 : Int32)) a11 w11 f11 hx11 hc11 _ _ hf (by omega) (by omega)
set_option maxHeartbeats 8000000 in
set_option maxRecDepth 100000 in
theorem bL_law_476_WK {p : Program} {l : Launch} {e : Env} {s : State} {m : MethodId} {args : Array Value} {below : List Frame} {meth : Method} {c : Code} {D : va_G} {cB cC cI cO : ClassId} {A : Nat → Prop} {g : LG} (C0 : gC RL cL_law 23 (some .boolean) p s m args meth c D (hTy cB cC cI cO) A) (E0 : hLw g A s) (hl0 : l.stackTraces = false) (K0 : Nat → Int32) (hK0 : fJ7_fill_53178 64 (fun _ => 0) (-1 : Int32) = some K0) {Q : State → Prop} (KE : ∀ (lv : List (Nat × Value)) (ws : va_W) (kk nn : Nat), kk ≤ room_1.cells → nn ≤ room_1.slots → gG p l e room_1 s m args below meth c D A 23 Q kk nn 1230 lv [.int 1] ws) (L0 : Nat) (ua : LA) (out : Unit) {B15a B15b : Nat} {B59a B59b : Nat} (rec15 : LV → Int32 → Option (Unit)) (rec59 : LV → Int32 → Int32 → Int32 → Int32 → Int32 → Int32 → Int32 → Int32 → Int32 → Nat → (Nat → Int32) → Nat → (Nat → Int32) → Int32 → Option (Unit)) (hrec15 : ∀ (v : LV) (v2 : Int32)  (kk nn : Nat), rec15 v v2 = some out → kk + (B15a) ≤ room_1.cells → nn + (B15b) ≤ room_1.slots → gG p l e room_1 s m args below meth c D A 23 Q kk nn 15 [(0, .ref g.2.2.1), (1, .ref L0), (2, .int v2)] [] (List.append [] (labX cB cC cI cO L0 ua v))) (hrec59 : ∀ (v : LV) (v2 : Int32) (v3 : Int32) (v4 : Int32) (v5 : Int32) (v6 : Int32) (v7 : Int32) (v8 : Int32) (v9 : Int32) (v10 : Int32) (t11n : Nat) (t11f : Nat → Int32) (_ : Nat) (_ : Nat → Int32) (v13 : Int32) (a11 w11 : Nat) (f11 : Nat → Int32) (hx11 : ∀ j, j < t11n → f11 j = t11f j) (hc11 : ascB t11n f11) (kk nn : Nat), rec59 v v2 v3 v4 v5 v6 v7 v8 v9 v10 t11n t11f (kLen 0) (kByt 0) v13 = some out → kk + (B59a) ≤ room_1.cells → nn + (B59b) ≤ room_1.slots → gG p l e room_1 s m args below meth c D A 23 Q kk nn 59 [(0, .ref g.2.2.1), (1, .ref L0), (2, .int v2), (3, .int v3), (4, .int v4), (5, .int v5), (6, .int v6), (7, .int v7), (8, .int v8), (9, .int v9), (10, .int v10), (11, .ref a11), (12, .ref (g.1 0)), (13, .int v13)] [] (List.append [(a11, .inr (0, [.ref w11, .int 0, .int 0, .int 0])), (w11, .inl (cB, t11n, .inl f11))] (labX cB cC cI cO L0 ua v))) : ∀ (v : LV) (v2 : Int32) (v3 : Int32) (v4 : Int32) (v5 : Int32) (v6 : Int32) (v7 : Int32) (v8 : Int32) (v10 : Int32) (t11n : Nat) (t11f : Nat → Int32) (_ : Nat) (_ : Nat → Int32) (v13 : Int32) (v14 : Int32) (v18 : Int32) (k0 : Int32) (a11 w11 : Nat) (f11 : Nat → Int32) (hx11 : ∀ j, j < t11n → f11 j = t11f j) (hc11 : ascB t11n f11) (kk nn : Nat), fL_law_476 g K0 rec15 rec59  v v2 v3 v4 v5 v6 v7 v8 v10 t11n t11f (kLen 0) (kByt 0) v13 v14 v18 k0 = some out → kk + (3 + B59a) ≤ room_1.cells → nn + (18 + B59b) ≤ room_1.slots → gG p l e room_1 s m args below meth c D A 23 Q kk nn 476 [(0, .ref g.2.2.1), (1, .ref L0), (2, .int v2), (3, .int v3), (4, .int v4), (5, .int v5), (6, .int v6), (7, .int v7), (8, .int v8), (10, .int v10), (11, .ref a11), (12, .ref (g.1 0)), (13, .int v13), (14, .int v14), (18, .int v18)] [.int k0] (List.append [(a11, .inr (0, [.ref w11, .int 0, .int 0, .int 0])), (w11, .inl (cB, t11n, .inl f11))] (labX cB cC cI cO L0 ua v)) := by
  intro v v2 v3 v4 v5 v6 v7 v8 v10 t11n t11f _ _ v13 v14 v18 k0 a11 w11 f11 hx11 hc11 kk nn hf hb1 hb2
  unfold fL_law_476 at hf
  refine g_istore C0 (lv' := [(9, .int k0), (0, .ref g.2.2.1), (1, .ref L0), (2, .int v2), (3, .int v3), (4, .int v4), (5, .int v5), (6, .int v6), (7, .int v7), (8, .int v8), (10, .int v10), (11, .ref a11), (12, .ref (g.1 0)), (13, .int v13), (14, .int v14), (18, .int v18)]) dL_law_476 (by decide) rfl ?_
  refine g_iload C0 dL_law_478 10 rfl ?_
  refine g_iload C0 dL_law_480 15 rfl ?_
  refine g_mmax C0 q_912 q_476 q_22 q_477 (Nat.le_of_ble_eq_true rfl) ⟨by omega, by omega⟩ (Nat.le_of_ble_eq_true rfl) dL_law_482 ?_
  refine g_istore C0 (lv' := [(10, .int (if v10 < v18 then v18 else v10)), (9, .int k0), (0, .ref g.2.2.1), (1, .ref L0), (2, .int v2), (3, .int v3), (4, .int v4), (5, .int v5), (6, .int v6), (7, .int v7), (8, .int v8), (11, .ref a11), (12, .ref (g.1 0)), (13, .int v13), (14, .int v14), (18, .int v18)]) dL_law_485 (by decide) rfl ?_
  refine g_aload_n C0 dL_law_487 rfl 3 rfl ?_
  refine g_iload C0 dL_law_488 14 rfl ?_
  obtain ⟨r319, er319, hf⟩ := hl_bd hf
  obtain ⟨z320, ez320, hf⟩ := hl_inl hf
  have kr319 := mg_slotOf l hl0 D cB cC cI cO L0 ua v v14 r319 er319
  rw [ez320] at kr319
  refine g_sufNi C0 E0.1.1 (P := [(a11, .inr (0, [.ref w11, .int 0, .int 0, .int 0])), (w11, .inl (cB, t11n, .inl f11))]) (X := labX cB cC cI cO L0 ua v) (X1 := labX cB cC cI cO L0 ua v) (As := [.int v14]) (st := []) kr319 hmX6_slotOf q_360 ⟨Nat.le_of_ble_eq_true rfl, Nat.le_of_ble_eq_true rfl⟩ ⟨by omega, by omega⟩ rfl rfl rfl rfl rfl 0 rfl rfl rfl (Nat.le_of_ble_eq_true rfl) dL_law_490 ?_
  refine g_iload C0 dL_law_493 13 rfl ?_
  refine g_icmp_ne C0 (tgt := 544) dL_law_495 (by decide) (fun c321 => ?_) (fun c321 => ?_)
  · rw [if_neg c321] at hf
    refine g_iconst C0 (v := (0 : Int32)) dL_law_544 (by decide) ?_
    cases hf
  · rw [if_pos c321] at hf
    refine g_aload_n C0 dL_law_498 rfl 3 rfl ?_
    refine g_iload C0 dL_law_499 14 rfl ?_
    refine g_iload C0 dL_law_501 15 rfl ?_
    refine g_iconst C0 (v := (1 : Int32)) dL_law_503 (by decide) ?_
    refine g_isub C0 dL_law_504 ?_
    obtain ⟨r322, er322, hf⟩ := hl_bd hf
    refine g_lSi C0 E0 (P := [(a11, .inr (0, [.ref w11, .int 0, .int 0, .int 0])), (w11, .inl (cB, t11n, .inl f11))]) (X := labX cB cC cI cO L0 ua v) (X1 := labX cB cC cI cO L0 ua v) (As := [.ref L0, .int v14, .int (v18 - (1 : Int32))]) (st := []) (mL_slot l hl0 D cB cC cI cO g L0 ua v v14 (v18 - (1 : Int32)) r322 er322) hmL_slot q_820 ⟨Nat.le_of_ble_eq_true rfl, Nat.le_of_ble_eq_true rfl⟩ rfl rfl ⟨by omega, by omega⟩ rfl rfl rfl rfl (Nat.le_of_ble_eq_true rfl) dL_law_505 ?_
    refine g_iload C0 dL_law_508 13 rfl ?_
    refine g_icmp_ne C0 (tgt := 544) dL_law_510 (by decide) (fun c323 => ?_) (fun c323 => ?_)
    · rw [if_neg c323] at hf
      refine g_iconst C0 (v := (0 : Int32)) dL_law_544 (by decide) ?_
      cases hf
    · rw [if_pos c323] at hf
      refine g_aload_n C0 dL_law_513 rfl 3 rfl ?_
      refine g_iload C0 dL_law_514 14 rfl ?_
      obtain ⟨r324, er324, hf⟩ := hl_bd hf
      obtain ⟨z325, ez325, hf⟩ := hl_inl hf
      have kr324 := mg_probes l hl0 D cB cC cI cO L0 ua v v14 r324 er324
      rw [ez325] at kr324
      refine g_sufNi C0 E0.1.1 (P := [(a11, .inr (0, [.ref w11, .int 0, .int 0, .int 0])), (w11, .inl (cB, t11n, .inl f11))]) (X := labX cB cC cI cO L0 ua v) (X1 := labX cB cC cI cO L0 ua v) (As := [.int v14]) (st := []) kr324 hmX6_probes q_412 ⟨Nat.le_of_ble_eq_true rfl, Nat.le_of_ble_eq_true rfl⟩ ⟨by omega, by omega⟩ rfl rfl rfl rfl rfl 0 rfl rfl rfl (Nat.le_of_ble_eq_true rfl) dL_law_516 ?_
      refine g_iload C0 dL_law_519 15 rfl ?_
      refine g_icmp_ne C0 (tgt := 544) dL_law_521 (by decide) (fun c326 => ?_) (fun c326 => ?_)
      · rw [if_neg c326] at hf
        refine g_iconst C0 (v := (0 : Int32)) dL_law_544 (by decide) ?_
        cases hf
      · rw [if_pos c326] at hf
        refine g_aload_n C0 dL_law_524 rfl 3 rfl ?_
        refine g_iload C0 dL_law_525 14 rfl ?_
        obtain ⟨r327, er327, hf⟩ := hl_bd hf
        obtain ⟨z328, ez328, hf⟩ := hl_inl hf
        have kr327 := mg_probesBySlot l hl0 D cB cC cI cO L0 ua v v14 r327 er327
        rw [ez328] at kr327
        refine g_sufNi C0 E0.1.1 (P := [(a11, .inr (0, [.ref w11, .int 0, .int 0, .int 0])), (w11, .inl (cB, t11n, .inl f11))]) (X := labX cB cC cI cO L0 ua v) (X1 := labX cB cC cI cO L0 ua v) (As := [.int v14]) (st := []) kr327 hmX6_probesBySlot q_417 ⟨Nat.le_of_ble_eq_true rfl, Nat.le_of_ble_eq_true rfl⟩ ⟨by omega, by omega⟩ rfl rfl rfl rfl rfl 0 rfl rfl rfl (Nat.le_of_ble_eq_true rfl) dL_law_527 ?_
        refine g_iload C0 dL_law_530 15 rfl ?_
        refine g_icmp_ne C0 (tgt := 544) dL_law_532 (by decide) (fun c329 => ?_) (fun c329 => ?_)
        · rw [if_neg c329] at hf
          refine g_iconst C0 (v := (0 : Int32)) dL_law_544 (by decide) ?_
          cases hf
        · rw [if_pos c329] at hf
          refine g_aload_n C0 dL_law_535 rfl 3 rfl ?_
          refine g_iload C0 dL_law_536 14 rfl ?_
          obtain ⟨r330, er330, hf⟩ := hl_bd hf
          refine g_sufi C0 (P := [(a11, .inr (0, [.ref w11, .int 0, .int 0, .int 0])), (w11, .inl (cB, t11n, .inl f11))]) (X := labX cB cC cI cO L0 ua v) (X1 := labX cB cC cI cO L0 ua v) (As := [.int v14]) (st := []) (mg_contains l D cB cC cI cO L0 ua v v14 r330 er330) hmX6_contains q_237 ⟨Nat.le_of_ble_eq_true rfl, Nat.le_of_ble_eq_true rfl⟩ ⟨by omega, by omega⟩ rfl rfl rfl rfl rfl 0 rfl rfl rfl (Nat.le_of_ble_eq_true rfl) dL_law_538 ?_
          refine g_if_ne C0 (tgt := 546) dL_law_541 (by decide) (fun c331 => ?_) (fun c331 => ?_)
          · rw [if_neg c331] at hf
            refine g_lv [2, 3, 4, 5, 6, 7, 8, 9, 10, 1, 0, 11, 12, 13] (lv' := [(0, .ref g.2.2.1), (1, .ref L0), (2, .int v2), (3, .int v3), (4, .int v4), (5, .int v5), (6, .int v6), (7, .int v7), (8, .int v8), (9, .int k0), (10, .int (if v10 < v18 then v18 else v10)), (11, .ref a11), (12, .ref (g.1 0)), (13, .int v13)]) rfl ?_
            exact bL_law_546_WK C0 E0 hl0 K0 hK0 KE L0 ua out rec15 rec59 hrec15 hrec59   v v2 v3 v4 v5 v6 v7 v8 k0 (if v10 < v18 then v18 else v10) t11n t11f (kLen 0) (kByt 0) v13 a11 w11 f11 hx11 hc11 _ _ hf (by omega) (by omega)
          · rw [if_pos c331] at hf
            refine g_iconst C0 (v := (0 : Int32)) dL_law_544 (by decide) ?_
            cases hf
set_option maxHeartbeats 8000000 in
set_option maxRecDepth 100000 in
theorem bL_law_448_WK {p : Program} {l : Launch} {e : Env} {s : State} {m : MethodId} {args : Array Value} {below : List Frame} {meth : Method} {c : Code} {D : va_G} {cB cC cI cO : ClassId} {A : Nat → Prop} {g : LG} (C0 : gC RL cL_law 23 (some .boolean) p s m args meth c D (hTy cB cC cI cO) A) (E0 : hLw g A s) (hl0 : l.stackTraces = false) (K0 : Nat → Int32) (hK0 : fJ7_fill_53178 64 (fun _ => 0) (-1 : Int32) = some K0) {Q : State → Prop} (KE : ∀ (lv : List (Nat × Value)) (ws : va_W) (kk nn : Nat), kk ≤ room_1.cells → nn ≤ room_1.slots → gG p l e room_1 s m args below meth c D A 23 Q kk nn 1230 lv [.int 1] ws) (L0 : Nat) (ua : LA) (out : Unit) {B15a B15b : Nat} {B59a B59b : Nat} (rec15 : LV → Int32 → Option (Unit)) (rec59 : LV → Int32 → Int32 → Int32 → Int32 → Int32 → Int32 → Int32 → Int32 → Int32 → Nat → (Nat → Int32) → Nat → (Nat → Int32) → Int32 → Option (Unit)) (hrec15 : ∀ (v : LV) (v2 : Int32)  (kk nn : Nat), rec15 v v2 = some out → kk + (B15a) ≤ room_1.cells → nn + (B15b) ≤ room_1.slots → gG p l e room_1 s m args below meth c D A 23 Q kk nn 15 [(0, .ref g.2.2.1), (1, .ref L0), (2, .int v2)] [] (List.append [] (labX cB cC cI cO L0 ua v))) (hrec59 : ∀ (v : LV) (v2 : Int32) (v3 : Int32) (v4 : Int32) (v5 : Int32) (v6 : Int32) (v7 : Int32) (v8 : Int32) (v9 : Int32) (v10 : Int32) (t11n : Nat) (t11f : Nat → Int32) (_ : Nat) (_ : Nat → Int32) (v13 : Int32) (a11 w11 : Nat) (f11 : Nat → Int32) (hx11 : ∀ j, j < t11n → f11 j = t11f j) (hc11 : ascB t11n f11) (kk nn : Nat), rec59 v v2 v3 v4 v5 v6 v7 v8 v9 v10 t11n t11f (kLen 0) (kByt 0) v13 = some out → kk + (B59a) ≤ room_1.cells → nn + (B59b) ≤ room_1.slots → gG p l e room_1 s m args below meth c D A 23 Q kk nn 59 [(0, .ref g.2.2.1), (1, .ref L0), (2, .int v2), (3, .int v3), (4, .int v4), (5, .int v5), (6, .int v6), (7, .int v7), (8, .int v8), (9, .int v9), (10, .int v10), (11, .ref a11), (12, .ref (g.1 0)), (13, .int v13)] [] (List.append [(a11, .inr (0, [.ref w11, .int 0, .int 0, .int 0])), (w11, .inl (cB, t11n, .inl f11))] (labX cB cC cI cO L0 ua v))) : ∀ (v : LV) (v2 : Int32) (v3 : Int32) (v4 : Int32) (v5 : Int32) (v6 : Int32) (v7 : Int32) (v8 : Int32) (v9 : Int32) (v10 : Int32) (t11n : Nat) (t11f : Nat → Int32) (_ : Nat) (_ : Nat → Int32) (v13 : Int32) (v14 : Int32) (v18 : Int32) (a11 w11 : Nat) (f11 : Nat → Int32) (hx11 : ∀ j, j < t11n → f11 j = t11f j) (hc11 : ascB t11n f11) (kk nn : Nat), fL_law_448 g K0 rec15 rec59  v v2 v3 v4 v5 v6 v7 v8 v9 v10 t11n t11f (kLen 0) (kByt 0) v13 v14 v18 = some out → kk + (3 + B59a) ≤ room_1.cells → nn + (18 + B59b) ≤ room_1.slots → gG p l e room_1 s m args below meth c D A 23 Q kk nn 448 [(0, .ref g.2.2.1), (1, .ref L0), (2, .int v2), (3, .int v3), (4, .int v4), (5, .int v5), (6, .int v6), (7, .int v7), (8, .int v8), (9, .int v9), (10, .int v10), (11, .ref a11), (12, .ref (g.1 0)), (13, .int v13), (14, .int v14), (18, .int v18)] [] (List.append [(a11, .inr (0, [.ref w11, .int 0, .int 0, .int 0])), (w11, .inl (cB, t11n, .inl f11))] (labX cB cC cI cO L0 ua v)) := by
  intro v v2 v3 v4 v5 v6 v7 v8 v9 v10 t11n t11f _ _ v13 v14 v18 a11 w11 f11 hx11 hc11 kk nn hf hb1 hb2
  unfold fL_law_448 at hf
  refine g_iload C0 dL_law_448 15 rfl ?_
  refine g_iload C0 dL_law_450 10 rfl ?_
  refine g_icmp_gt C0 (tgt := 469) dL_law_452 (by decide) (fun c309 => ?_) (fun c309 => ?_)
  · rw [if_pos c309] at hf
    refine g_iload C0 dL_law_469 14 rfl ?_
    refine g_goto C0 (tgt := 476) dL_law_471 (by decide) ?_
    refine g_lv [0, 1, 2, 3, 4, 5, 6, 7, 8, 10, 11, 12, 13, 14, 15] (lv' := [(0, .ref g.2.2.1), (1, .ref L0), (2, .int v2), (3, .int v3), (4, .int v4), (5, .int v5), (6, .int v6), (7, .int v7), (8, .int v8), (10, .int v10), (11, .ref a11), (12, .ref (g.1 0)), (13, .int v13), (14, .int v14), (18, .int v18)]) rfl ?_
    exact bL_law_476_WK C0 E0 hl0 K0 hK0 KE L0 ua out rec15 rec59 hrec15 hrec59   v v2 v3 v4 v5 v6 v7 v8 v10 t11n t11f (kLen 0) (kByt 0) v13 v14 v18 v14 a11 w11 f11 hx11 hc11 _ _ hf (by omega) (by omega)
  · rw [if_neg c309] at hf
    refine g_iload C0 dL_law_455 15 rfl ?_
    refine g_iload C0 dL_law_457 10 rfl ?_
    refine g_icmp_ne C0 (tgt := 474) dL_law_459 (by decide) (fun c310 => ?_) (fun c310 => ?_)
    · rw [if_neg c310] at hf
      refine g_iload C0 dL_law_474 9 rfl ?_
      refine g_lv [0, 1, 2, 3, 4, 5, 6, 7, 8, 10, 11, 12, 13, 14, 15] (lv' := [(0, .ref g.2.2.1), (1, .ref L0), (2, .int v2), (3, .int v3), (4, .int v4), (5, .int v5), (6, .int v6), (7, .int v7), (8, .int v8), (10, .int v10), (11, .ref a11), (12, .ref (g.1 0)), (13, .int v13), (14, .int v14), (18, .int v18)]) rfl ?_
      exact bL_law_476_WK C0 E0 hl0 K0 hK0 KE L0 ua out rec15 rec59 hrec15 hrec59   v v2 v3 v4 v5 v6 v7 v8 v10 t11n t11f (kLen 0) (kByt 0) v13 v14 v18 v9 a11 w11 f11 hx11 hc11 _ _ hf (by omega) (by omega)
    · rw [if_pos c310] at hf
      refine g_iload C0 dL_law_462 14 rfl ?_
      refine g_iload C0 dL_law_464 9 rfl ?_
      refine g_icmp_ge C0 (tgt := 474) dL_law_466 (by decide) (fun c311 => ?_) (fun c311 => ?_)
      · rw [if_pos c311] at hf
        refine g_iload C0 dL_law_474 9 rfl ?_
        refine g_lv [0, 1, 2, 3, 4, 5, 6, 7, 8, 10, 11, 12, 13, 14, 15] (lv' := [(0, .ref g.2.2.1), (1, .ref L0), (2, .int v2), (3, .int v3), (4, .int v4), (5, .int v5), (6, .int v6), (7, .int v7), (8, .int v8), (10, .int v10), (11, .ref a11), (12, .ref (g.1 0)), (13, .int v13), (14, .int v14), (18, .int v18)]) rfl ?_
        exact bL_law_476_WK C0 E0 hl0 K0 hK0 KE L0 ua out rec15 rec59 hrec15 hrec59   v v2 v3 v4 v5 v6 v7 v8 v10 t11n t11f (kLen 0) (kByt 0) v13 v14 v18 v9 a11 w11 f11 hx11 hc11 _ _ hf (by omega) (by omega)
      · rw [if_neg c311] at hf
        refine g_iload C0 dL_law_469 14 rfl ?_
        refine g_goto C0 (tgt := 476) dL_law_471 (by decide) ?_
        refine g_lv [0, 1, 2, 3, 4, 5, 6, 7, 8, 10, 11, 12, 13, 14, 15] (lv' := [(0, .ref g.2.2.1), (1, .ref L0), (2, .int v2), (3, .int v3), (4, .int v4), (5, .int v5), (6, .int v6), (7, .int v7), (8, .int v8), (10, .int v10), (11, .ref a11), (12, .ref (g.1 0)), (13, .int v13), (14, .int v14), (18, .int v18)]) rfl ?_
        exact bL_law_476_WK C0 E0 hl0 K0 hK0 KE L0 ua out rec15 rec59 hrec15 hrec59   v v2 v3 v4 v5 v6 v7 v8 v10 t11n t11f (kLen 0) (kByt 0) v13 v14 v18 v14 a11 w11 f11 hx11 hc11 _ _ hf (by omega) (by omega)
set_option maxHeartbeats 8000000 in
set_option maxRecDepth 100000 in
theorem bL_law_319_WK {p : Program} {l : Launch} {e : Env} {s : State} {m : MethodId} {args : Array Value} {below : List Frame} {meth : Method} {c : Code} {D : va_G} {cB cC cI cO : ClassId} {A : Nat → Prop} {g : LG} (C0 : gC RL cL_law 23 (some .boolean) p s m args meth c D (hTy cB cC cI cO) A) (E0 : hLw g A s) (hl0 : l.stackTraces = false) (K0 : Nat → Int32) (hK0 : fJ7_fill_53178 64 (fun _ => 0) (-1 : Int32) = some K0) {Q : State → Prop} (KE : ∀ (lv : List (Nat × Value)) (ws : va_W) (kk nn : Nat), kk ≤ room_1.cells → nn ≤ room_1.slots → gG p l e room_1 s m args below meth c D A 23 Q kk nn 1230 lv [.int 1] ws) (L0 : Nat) (ua : LA) (out : Unit) {B15a B15b : Nat} {B59a B59b : Nat} (rec15 : LV → Int32 → Option (Unit)) (rec59 : LV → Int32 → Int32 → Int32 → Int32 → Int32 → Int32 → Int32 → Int32 → Int32 → Nat → (Nat → Int32) → Nat → (Nat → Int32) → Int32 → Option (Unit)) (hrec15 : ∀ (v : LV) (v2 : Int32)  (kk nn : Nat), rec15 v v2 = some out → kk + (B15a) ≤ room_1.cells → nn + (B15b) ≤ room_1.slots → gG p l e room_1 s m args below meth c D A 23 Q kk nn 15 [(0, .ref g.2.2.1), (1, .ref L0), (2, .int v2)] [] (List.append [] (labX cB cC cI cO L0 ua v))) (hrec59 : ∀ (v : LV) (v2 : Int32) (v3 : Int32) (v4 : Int32) (v5 : Int32) (v6 : Int32) (v7 : Int32) (v8 : Int32) (v9 : Int32) (v10 : Int32) (t11n : Nat) (t11f : Nat → Int32) (_ : Nat) (_ : Nat → Int32) (v13 : Int32) (a11 w11 : Nat) (f11 : Nat → Int32) (hx11 : ∀ j, j < t11n → f11 j = t11f j) (hc11 : ascB t11n f11) (kk nn : Nat), rec59 v v2 v3 v4 v5 v6 v7 v8 v9 v10 t11n t11f (kLen 0) (kByt 0) v13 = some out → kk + (B59a) ≤ room_1.cells → nn + (B59b) ≤ room_1.slots → gG p l e room_1 s m args below meth c D A 23 Q kk nn 59 [(0, .ref g.2.2.1), (1, .ref L0), (2, .int v2), (3, .int v3), (4, .int v4), (5, .int v5), (6, .int v6), (7, .int v7), (8, .int v8), (9, .int v9), (10, .int v10), (11, .ref a11), (12, .ref (g.1 0)), (13, .int v13)] [] (List.append [(a11, .inr (0, [.ref w11, .int 0, .int 0, .int 0])), (w11, .inl (cB, t11n, .inl f11))] (labX cB cC cI cO L0 ua v))) : ∀ (v : LV) (v2 : Int32) (v3 : Int32) (v4 : Int32) (v5 : Int32) (v6 : Int32) (v7 : Int32) (v8 : Int32) (v9 : Int32) (v10 : Int32) (t11n : Nat) (t11f : Nat → Int32) (_ : Nat) (_ : Nat → Int32) (v13 : Int32) (v14 : Int32) (v15 : Int32) (v16 : Int32) (a11 w11 : Nat) (f11 : Nat → Int32) (hx11 : ∀ j, j < t11n → f11 j = t11f j) (hc11 : ascB t11n f11) (kk nn : Nat), fL_law_319 g K0 rec15 rec59  v v2 v3 v4 v5 v6 v7 v8 v9 v10 t11n t11f (kLen 0) (kByt 0) v13 v14 v15 v16 = some out → kk + (217 + B59a) ≤ room_1.cells → nn + (8278 + B59b) ≤ room_1.slots → gG p l e room_1 s m args below meth c D A 23 Q kk nn 319 [(0, .ref g.2.2.1), (1, .ref L0), (2, .int v2), (3, .int v3), (4, .int v4), (5, .int v5), (6, .int v6), (7, .int v7), (8, .int v8), (9, .int v9), (10, .int v10), (11, .ref a11), (12, .ref (g.1 0)), (13, .int v13), (14, .int v14), (15, .int v15), (16, .int v16)] [] (List.append [(a11, .inr (0, [.ref w11, .int 0, .int 0, .int 0])), (w11, .inl (cB, t11n, .inl f11))] (labX cB cC cI cO L0 ua v)) := by
  intro v v2 v3 v4 v5 v6 v7 v8 v9 v10 t11n t11f _ _ v13 v14 v15 v16 a11 w11 f11 hx11 hc11 kk nn hf hb1 hb2
  unfold fL_law_319 at hf
  refine g_iload C0 dL_law_319 7 rfl ?_
  refine g_iload C0 dL_law_321 15 rfl ?_
  refine g_mmax C0 q_912 q_476 q_22 q_477 (Nat.le_of_ble_eq_true rfl) ⟨by omega, by omega⟩ (Nat.le_of_ble_eq_true rfl) dL_law_323 ?_
  refine g_istore C0 (lv' := [(7, .int (if v7 < v15 then v15 else v7)), (0, .ref g.2.2.1), (1, .ref L0), (2, .int v2), (3, .int v3), (4, .int v4), (5, .int v5), (6, .int v6), (8, .int v8), (9, .int v9), (10, .int v10), (11, .ref a11), (12, .ref (g.1 0)), (13, .int v13), (14, .int v14), (15, .int v15), (16, .int v16)]) dL_law_326 (by decide) rfl ?_
  refine g_aload_n C0 dL_law_328 rfl 2 rfl ?_
  refine g_iload C0 dL_law_329 13 rfl ?_
  obtain ⟨r570, er570, hf⟩ := hl_bd hf
  obtain ⟨z571, ez571, hf⟩ := hl_inl hf
  have kr570 := mg_clusterSize l hl0 D cB cC cI cO L0 ua v v13 r570 er570
  rw [ez571] at kr570
  refine g_sufNi C0 E0.1.1 (P := [(a11, .inr (0, [.ref w11, .int 0, .int 0, .int 0])), (w11, .inl (cB, t11n, .inl f11))]) (X := labX cB cC cI cO L0 ua v) (X1 := labX cB cC cI cO L0 ua v) (As := [.int v13]) (st := []) kr570 hmX6_clusterSize q_461 ⟨Nat.le_of_ble_eq_true rfl, Nat.le_of_ble_eq_true rfl⟩ ⟨by omega, by omega⟩ rfl rfl rfl rfl rfl 0 rfl rfl rfl (Nat.le_of_ble_eq_true rfl) dL_law_331 ?_
  refine g_iload C0 dL_law_334 15 rfl ?_
  refine g_icmp_eq C0 (tgt := 341) dL_law_336 (by decide) (fun c572 => ?_) (fun c572 => ?_)
  · rw [if_pos c572] at hf
    refine g_iload C0 dL_law_341 14 rfl ?_
    refine g_if_ge C0 (tgt := 381) dL_law_343 (by decide) (fun c573 => ?_) (fun c573 => ?_)
    · rw [if_pos c573] at hf
      refine g_aload_n C0 dL_law_381 rfl 2 rfl ?_
      refine g_iload C0 dL_law_382 14 rfl ?_
      obtain ⟨r574, er574, hf⟩ := hl_bd hf
      refine g_lSi C0 E0 (P := [(a11, .inr (0, [.ref w11, .int 0, .int 0, .int 0])), (w11, .inl (cB, t11n, .inl f11))]) (X := labX cB cC cI cO L0 ua v) (X1 := labX cB cC cI cO L0 ua v) (As := [.ref L0, .int v14]) (st := []) (mL_examined l hl0 D cB cC cI cO g L0 ua v v14 r574 er574) hmL_examined q_829 ⟨Nat.le_of_ble_eq_true rfl, Nat.le_of_ble_eq_true rfl⟩ rfl rfl ⟨by omega, by omega⟩ rfl rfl rfl rfl (Nat.le_of_ble_eq_true rfl) dL_law_384 ?_
      refine g_istore C0 (lv' := [(18, .int r574), (7, .int (if v7 < v15 then v15 else v7)), (0, .ref g.2.2.1), (1, .ref L0), (2, .int v2), (3, .int v3), (4, .int v4), (5, .int v5), (6, .int v6), (8, .int v8), (9, .int v9), (10, .int v10), (11, .ref a11), (12, .ref (g.1 0)), (13, .int v13), (14, .int v14), (15, .int v15), (16, .int v16)]) dL_law_387 (by decide) rfl ?_
      refine g_iload C0 dL_law_389 9 rfl ?_
      refine g_iload C0 dL_law_391 0 rfl ?_
      refine g_iadd C0 dL_law_393 ?_
      refine g_istore C0 (lv' := [(8, .int (v8 + r574)), (18, .int r574), (7, .int (if v7 < v15 then v15 else v7)), (0, .ref g.2.2.1), (1, .ref L0), (2, .int v2), (3, .int v3), (4, .int v4), (5, .int v5), (6, .int v6), (9, .int v9), (10, .int v10), (11, .ref a11), (12, .ref (g.1 0)), (13, .int v13), (14, .int v14), (15, .int v15), (16, .int v16)]) dL_law_394 (by decide) rfl ?_
      refine g_new (ci := 1) (fs := [.null, .int 0, .int 0, .int 0]) C0 hinJ4 tyJ4_ok q_914 q_915 q_31 rfl (fun z hz => hl_dB z hz) (by omega) (by omega) dL_law_396 (fun b575 => ?_)
      refine g_rot ?_
      refine g_eq (ws' := (List.append [(a11, .inr (0, [.ref w11, .int 0, .int 0, .int 0])), (w11, .inl (cB, t11n, .inl f11)), (b575, .inr (1, [.null, .int 0, .int 0, .int 0]))] (labX cB cC cI cO L0 ua v))) rfl rfl rfl ?_
      refine g_dup C0 dL_law_399 rfl ?_
      refine g_xIv (ret := none) (X := [(a11, .inr (0, [.ref w11, .int 0, .int 0, .int 0])), (w11, .inl (cB, t11n, .inl f11)), (b575, .inr (1, [.null, .int 0, .int 0, .int 0]))]) (pl := labX cB cC cI cO L0 ua v) (wr := [(a11, .inr (0, [.ref w11, .int 0, .int 0, .int 0])), (w11, .inl (cB, t11n, .inl f11))]) (As := []) (st := [.ref b575]) (b := b575) C0 jE_ok (xe_of C0 jE_ok E0.1.2) (mJ4_init_da8c8 l D cB cC cI cO b575) hmJ4_init_da8c8 q_916 ⟨Nat.le_of_ble_eq_true rfl, Nat.le_of_ble_eq_true rfl⟩ rfl rfl ⟨by omega, by omega⟩ rfl [2] [0, 1] rfl rfl rfl rfl (by decide) rfl rfl (Nat.le_of_ble_eq_true rfl) dL_law_400 (fun w576 => ?_)
      refine g_eq (ws' := (List.append [(a11, .inr (0, [.ref w11, .int 0, .int 0, .int 0])), (w11, .inl (cB, t11n, .inl f11)), (b575, .inr (1, [.ref w576, .int 0, .int 0, .int (Int32.ofNat 0)])), (w576, .inl (cB, 16, .inl (fun _ => 0)))] (labX cB cC cI cO L0 ua v))) rfl rfl rfl ?_
      refine g_aload C0 dL_law_403 12 rfl ?_
      obtain ⟨h577, hf⟩ := hl_ifS hf
      refine g_xVr (X := [(a11, .inr (0, [.ref w11, .int 0, .int 0, .int 0])), (w11, .inl (cB, t11n, .inl f11)), (b575, .inr (1, [.ref w576, .int 0, .int 0, .int (Int32.ofNat 0)])), (w576, .inl (cB, 16, .inl (fun _ => 0)))]) (pl := labX cB cC cI cO L0 ua v) (wr := [(a11, .inr (0, [.ref w11, .int 0, .int 0, .int 0])), (w11, .inl (cB, t11n, .inl f11))]) (As := [.ref a11]) (st := []) (b := b575) C0 (jT_ok _ _ _ _) (xe_W (g := 0) C0 E0.1.2 0 1 rfl rfl 3 rfl [2, 3] rfl (by decide) (by decide)) (xr_w C0 2 rfl rfl) (mJ4_append_15ec4 l D cB cC cI cO a11 w11 t11n f11 b575 w576 0 0 16 (fun _ => 0) (fun _ => 0) (by omega) (by omega) hc11.2 (sbP0 w576)) hmJ4_append_15ec4 q_944 ⟨Nat.le_of_ble_eq_true rfl, Nat.le_of_ble_eq_true rfl⟩ rfl rfl ⟨by omega, by omega⟩ rfl [2, 3] [0, 1] rfl rfl rfl rfl (by decide) rfl rfl (Nat.le_of_ble_eq_true rfl) dL_law_405 (fun u578 => ?_)
      refine g_widen (kk1 := kk + 205) (nn1 := nn + 2632) (by omega) (by omega) ?_
      have qu578 : asc (0 + t11n) (tcat 0 (fun _ => 0) f11) := asc_cat (asc0 _) hc11.2
      have eu578 : ∀ j, j < 0 + t11n → (tcat 0 (fun _ => 0) f11) j = (tcat 0 (fun _ => 0) t11f) j := tcat_eq (fun _ _ => rfl) hx11
      refine g_eq (ws' := (List.append [(a11, .inr (0, [.ref w11, .int 0, .int 0, .int 0])), (w11, .inl (cB, t11n, .inl f11)), (b575, .inr (1, [.ref u578.1.1, .int 0, .int 0, .int (Int32.ofNat (0 + t11n))])), (u578.1.1, .inl (cB, u578.1.2.1, .inl u578.1.2.2))] (labX cB cC cI cO L0 ua v))) rfl rfl rfl ?_
      refine g_iload C0 dL_law_408 1 rfl ?_
      refine g_bipush C0 (v := (9 : Int32)) dL_law_410 (by decide) ?_
      refine g_icmp_le C0 (tgt := 420) dL_law_412 (by decide) (fun c579 => ?_) (fun c579 => ?_)
      · rw [if_pos c579] at hf
        refine g_new (ci := 1) (fs := [.null, .int 0, .int 0, .int 0]) C0 hinJ4 tyJ4_ok q_914 q_915 q_31 rfl (fun z hz => hl_dB z hz) (by omega) (by omega) dL_law_420 (fun b580 => ?_)
        refine g_rot ?_
        refine g_eq (ws' := (List.append [(a11, .inr (0, [.ref w11, .int 0, .int 0, .int 0])), (w11, .inl (cB, t11n, .inl f11)), (b575, .inr (1, [.ref u578.1.1, .int 0, .int 0, .int (Int32.ofNat (0 + t11n))])), (u578.1.1, .inl (cB, u578.1.2.1, .inl u578.1.2.2)), (b580, .inr (1, [.null, .int 0, .int 0, .int 0]))] (labX cB cC cI cO L0 ua v))) rfl rfl rfl ?_
        refine g_dup C0 dL_law_423 rfl ?_
        refine g_xIv (ret := none) (X := [(a11, .inr (0, [.ref w11, .int 0, .int 0, .int 0])), (w11, .inl (cB, t11n, .inl f11)), (b575, .inr (1, [.ref u578.1.1, .int 0, .int 0, .int (Int32.ofNat (0 + t11n))])), (u578.1.1, .inl (cB, u578.1.2.1, .inl u578.1.2.2)), (b580, .inr (1, [.null, .int 0, .int 0, .int 0]))]) (pl := labX cB cC cI cO L0 ua v) (wr := [(a11, .inr (0, [.ref w11, .int 0, .int 0, .int 0])), (w11, .inl (cB, t11n, .inl f11)), (b575, .inr (1, [.ref u578.1.1, .int 0, .int 0, .int (Int32.ofNat (0 + t11n))])), (u578.1.1, .inl (cB, u578.1.2.1, .inl u578.1.2.2))]) (As := []) (st := [.ref b580, .ref b575]) (b := b580) C0 jE_ok (xe_of C0 jE_ok E0.1.2) (mJ4_init_da8c8 l D cB cC cI cO b580) hmJ4_init_da8c8 q_916 ⟨Nat.le_of_ble_eq_true rfl, Nat.le_of_ble_eq_true rfl⟩ rfl rfl ⟨by omega, by omega⟩ rfl [4] [0, 1, 2, 3] rfl rfl rfl rfl (by decide) rfl rfl (Nat.le_of_ble_eq_true rfl) dL_law_424 (fun w581 => ?_)
        refine g_eq (ws' := (List.append [(a11, .inr (0, [.ref w11, .int 0, .int 0, .int 0])), (w11, .inl (cB, t11n, .inl f11)), (b575, .inr (1, [.ref u578.1.1, .int 0, .int 0, .int (Int32.ofNat (0 + t11n))])), (u578.1.1, .inl (cB, u578.1.2.1, .inl u578.1.2.2)), (b580, .inr (1, [.ref w581, .int 0, .int 0, .int (Int32.ofNat 0)])), (w581, .inl (cB, 16, .inl (fun _ => 0)))] (labX cB cC cI cO L0 ua v))) rfl rfl rfl ?_
        refine g_ldcS C0 (E0.2.1.2 0 (123, "") rfl) dL_law_427 ?_
        obtain ⟨h582, hf⟩ := hl_ifS hf
        refine g_xVr (X := [(a11, .inr (0, [.ref w11, .int 0, .int 0, .int 0])), (w11, .inl (cB, t11n, .inl f11)), (b575, .inr (1, [.ref u578.1.1, .int 0, .int 0, .int (Int32.ofNat (0 + t11n))])), (u578.1.1, .inl (cB, u578.1.2.1, .inl u578.1.2.2)), (b580, .inr (1, [.ref w581, .int 0, .int 0, .int (Int32.ofNat 0)])), (w581, .inl (cB, 16, .inl (fun _ => 0)))]) (pl := labX cB cC cI cO L0 ua v) (wr := [(a11, .inr (0, [.ref w11, .int 0, .int 0, .int 0])), (w11, .inl (cB, t11n, .inl f11)), (b575, .inr (1, [.ref u578.1.1, .int 0, .int 0, .int (Int32.ofNat (0 + t11n))])), (u578.1.1, .inl (cB, u578.1.2.1, .inl u578.1.2.2))]) (As := [.ref (g.1 0)]) (st := [.ref b575]) (b := b580) C0 (jT_ok _ _ _ _) (xe_of C0 (jT_ok _ _ _ _) ⟨E0.1.2, hKt_tx E0.2.1 (by decide : 0 < 6)⟩) (xr_w C0 4 rfl rfl) (mJ4_append_15ec4 l D cB cC cI cO (g.1 0) (g.2.1 0) (kLen 0) (kByt 0) b580 w581 0 0 16 (fun _ => 0) (fun _ => 0) (by omega) (by omega) (kAsc 0 (by decide)) (sbP0 w581)) hmJ4_append_15ec4 q_944 ⟨Nat.le_of_ble_eq_true rfl, Nat.le_of_ble_eq_true rfl⟩ rfl rfl ⟨by omega, by omega⟩ rfl [4, 5] [0, 1, 2, 3] rfl rfl rfl rfl (by decide) rfl rfl (Nat.le_of_ble_eq_true rfl) dL_law_429 (fun u583 => ?_)
        refine g_widen (kk1 := kk + 208) (nn1 := nn + 4052) (by omega) (by omega) ?_
        have qu583 : asc (0 + (kLen 0)) (tcat 0 (fun _ => 0) (kByt 0)) := asc_cat (asc0 _) (kAsc 0 (by decide))
        have eu583 : ∀ j, j < 0 + (kLen 0) → (tcat 0 (fun _ => 0) (kByt 0)) j = (tcat 0 (fun _ => 0) (kByt 0)) j := tcat_eq (fun _ _ => rfl) (fun _ _ => rfl)
        refine g_eq (ws' := (List.append [(a11, .inr (0, [.ref w11, .int 0, .int 0, .int 0])), (w11, .inl (cB, t11n, .inl f11)), (b575, .inr (1, [.ref u578.1.1, .int 0, .int 0, .int (Int32.ofNat (0 + t11n))])), (u578.1.1, .inl (cB, u578.1.2.1, .inl u578.1.2.2)), (b580, .inr (1, [.ref u583.1.1, .int 0, .int 0, .int (Int32.ofNat (0 + (kLen 0)))])), (u583.1.1, .inl (cB, u583.1.2.1, .inl u583.1.2.2))] (labX cB cC cI cO L0 ua v))) rfl rfl rfl ?_
        refine g_iload C0 dL_law_432 1 rfl ?_
        obtain ⟨h584, hf⟩ := hl_ifS hf
        refine g_xVr (X := [(a11, .inr (0, [.ref w11, .int 0, .int 0, .int 0])), (w11, .inl (cB, t11n, .inl f11)), (b575, .inr (1, [.ref u578.1.1, .int 0, .int 0, .int (Int32.ofNat (0 + t11n))])), (u578.1.1, .inl (cB, u578.1.2.1, .inl u578.1.2.2)), (b580, .inr (1, [.ref u583.1.1, .int 0, .int 0, .int (Int32.ofNat (0 + (kLen 0)))])), (u583.1.1, .inl (cB, u583.1.2.1, .inl u583.1.2.2))]) (pl := labX cB cC cI cO L0 ua v) (wr := [(a11, .inr (0, [.ref w11, .int 0, .int 0, .int 0])), (w11, .inl (cB, t11n, .inl f11)), (b575, .inr (1, [.ref u578.1.1, .int 0, .int 0, .int (Int32.ofNat (0 + t11n))])), (u578.1.1, .inl (cB, u578.1.2.1, .inl u578.1.2.2))]) (As := [.int r574]) (st := [.ref b575]) (b := b580) C0 jE_ok (xe_of C0 jE_ok E0.1.2) (xr_w C0 4 rfl rfl) (mJ4_append_bf812 l D cB cC cI cO r574 (nLen r574) (nDig r574) b580 u583.1.1 0 (0 + (kLen 0)) u583.1.2.1 u583.1.2.2 (tcat 0 (fun _ => 0) (kByt 0)) (by omega) (by omega) (numOK_T h584.2) u583.2) hmJ4_append_bf812 q_1039 ⟨Nat.le_of_ble_eq_true rfl, Nat.le_of_ble_eq_true rfl⟩ rfl rfl ⟨by omega, by omega⟩ rfl [4, 5] [0, 1, 2, 3] rfl rfl rfl rfl (by decide) rfl rfl (Nat.le_of_ble_eq_true rfl) dL_law_434 (fun u585 => ?_)
        refine g_widen (kk1 := kk + 209) (nn1 := nn + 5452) (by omega) (by omega) ?_
        have qu585 : asc ((0 + (kLen 0)) + (nLen r574)) (tcat (0 + (kLen 0)) (tcat 0 (fun _ => 0) (kByt 0)) (nDig r574)) := asc_cat qu583 (numOK_asc h584.2)
        have eu585 : ∀ j, j < (0 + (kLen 0)) + (nLen r574) → (tcat (0 + (kLen 0)) (tcat 0 (fun _ => 0) (kByt 0)) (nDig r574)) j = (tcat (0 + (kLen 0)) (tcat 0 (fun _ => 0) (kByt 0)) (nDig r574)) j := tcat_eq eu583 (fun _ _ => rfl)
        refine g_eq (ws' := (List.append [(a11, .inr (0, [.ref w11, .int 0, .int 0, .int 0])), (w11, .inl (cB, t11n, .inl f11)), (b575, .inr (1, [.ref u578.1.1, .int 0, .int 0, .int (Int32.ofNat (0 + t11n))])), (u578.1.1, .inl (cB, u578.1.2.1, .inl u578.1.2.2)), (b580, .inr (1, [.ref u585.1.1, .int 0, .int 0, .int (Int32.ofNat ((0 + (kLen 0)) + (nLen r574)))])), (u585.1.1, .inl (cB, u585.1.2.1, .inl u585.1.2.2))] (labX cB cC cI cO L0 ua v))) rfl rfl rfl ?_
        refine g_xVr (X := [(a11, .inr (0, [.ref w11, .int 0, .int 0, .int 0])), (w11, .inl (cB, t11n, .inl f11)), (b575, .inr (1, [.ref u578.1.1, .int 0, .int 0, .int (Int32.ofNat (0 + t11n))])), (u578.1.1, .inl (cB, u578.1.2.1, .inl u578.1.2.2)), (b580, .inr (1, [.ref u585.1.1, .int 0, .int 0, .int (Int32.ofNat ((0 + (kLen 0)) + (nLen r574)))])), (u585.1.1, .inl (cB, u585.1.2.1, .inl u585.1.2.2))]) (pl := labX cB cC cI cO L0 ua v) (wr := [(a11, .inr (0, [.ref w11, .int 0, .int 0, .int 0])), (w11, .inl (cB, t11n, .inl f11)), (b575, .inr (1, [.ref u578.1.1, .int 0, .int 0, .int (Int32.ofNat (0 + t11n))])), (u578.1.1, .inl (cB, u578.1.2.1, .inl u578.1.2.2))]) (As := []) (st := [.ref b575]) (b := b580) C0 jE_ok (xe_of C0 jE_ok E0.1.2) (xr_w C0 4 rfl rfl) (mJ4_toString_0e30d l D cB cC cI cO b580 u585.1.1 0 ((0 + (kLen 0)) + (nLen r574)) u585.1.2.1 u585.1.2.2 (tcat (0 + (kLen 0)) (tcat 0 (fun _ => 0) (kByt 0)) (nDig r574)) (by omega) u585.2) hmJ4_toString_0e30d q_1064 ⟨Nat.le_of_ble_eq_true rfl, Nat.le_of_ble_eq_true rfl⟩ rfl rfl ⟨by omega, by omega⟩ rfl [4, 5] [0, 1, 2, 3] rfl rfl rfl rfl (by decide) rfl rfl (Nat.le_of_ble_eq_true rfl) dL_law_437 (fun u586 => ?_)
        refine g_widen (kk1 := kk + 211) (nn1 := nn + 6156) (by omega) (by omega) ?_
        obtain ⟨⟨tau586, twu586, tfu586⟩, hfitu586, hyu586⟩ := u586
        have hxu586 : ∀ j, j < ((0 + (kLen 0)) + (nLen r574)) → tfu586 j = (tcat (0 + (kLen 0)) (tcat 0 (fun _ => 0) (kByt 0)) (nDig r574)) j := fun j hj => (hyu586 j hj).trans (eu585 j hj)
        have hcu586 : ascB ((0 + (kLen 0)) + (nLen r574)) tfu586 := ⟨by omega, asc_of hyu586 qu585⟩
        refine g_ordP (P' := [(a11, .inr (0, [.ref w11, .int 0, .int 0, .int 0])), (w11, .inl (cB, t11n, .inl f11)), (b575, .inr (1, [.ref u578.1.1, .int 0, .int 0, .int (Int32.ofNat (0 + t11n))])), (u578.1.1, .inl (cB, u578.1.2.1, .inl u578.1.2.2)), (tau586, .inr (0, [.ref twu586, .int 0, .int 0, .int 0])), (twu586, .inl (cB, ((0 + (kLen 0)) + (nLen r574)), .inl tfu586))]) (X := labX cB cC cI cO L0 ua v) [0, 1, 2, 3, 6, 7] rfl rfl rfl ?_
        refine g_eq (st' := [.ref tau586, .ref b575]) (ws' := (List.append [(a11, .inr (0, [.ref w11, .int 0, .int 0, .int 0])), (w11, .inl (cB, t11n, .inl f11)), (b575, .inr (1, [.ref u578.1.1, .int 0, .int 0, .int (Int32.ofNat (0 + t11n))])), (u578.1.1, .inl (cB, u578.1.2.1, .inl u578.1.2.2)), (tau586, .inr (0, [.ref twu586, .int 0, .int 0, .int 0])), (twu586, .inl (cB, ((0 + (kLen 0)) + (nLen r574)), .inl tfu586))] (labX cB cC cI cO L0 ua v))) rfl rfl rfl ?_
        obtain ⟨h587, hf⟩ := hl_ifS hf
        refine g_xVr (X := [(a11, .inr (0, [.ref w11, .int 0, .int 0, .int 0])), (w11, .inl (cB, t11n, .inl f11)), (b575, .inr (1, [.ref u578.1.1, .int 0, .int 0, .int (Int32.ofNat (0 + t11n))])), (u578.1.1, .inl (cB, u578.1.2.1, .inl u578.1.2.2)), (tau586, .inr (0, [.ref twu586, .int 0, .int 0, .int 0])), (twu586, .inl (cB, ((0 + (kLen 0)) + (nLen r574)), .inl tfu586))]) (pl := labX cB cC cI cO L0 ua v) (wr := [(a11, .inr (0, [.ref w11, .int 0, .int 0, .int 0])), (w11, .inl (cB, t11n, .inl f11)), (tau586, .inr (0, [.ref twu586, .int 0, .int 0, .int 0])), (twu586, .inl (cB, ((0 + (kLen 0)) + (nLen r574)), .inl tfu586))]) (As := [.ref tau586]) (st := []) (b := b575) C0 (jT_ok _ _ _ _) (xe_W (g := 0) C0 E0.1.2 4 5 rfl rfl 3 rfl [2, 3] rfl (by decide) (by decide)) (xr_w C0 2 rfl rfl) (mJ4_append_15ec4 l D cB cC cI cO tau586 twu586 ((0 + (kLen 0)) + (nLen r574)) tfu586 b575 u578.1.1 0 (0 + t11n) u578.1.2.1 u578.1.2.2 (tcat 0 (fun _ => 0) f11) (by omega) (by omega) hcu586.2 u578.2) hmJ4_append_15ec4 q_944 ⟨Nat.le_of_ble_eq_true rfl, Nat.le_of_ble_eq_true rfl⟩ rfl rfl ⟨by omega, by omega⟩ rfl [2, 3] [0, 1, 4, 5] rfl rfl rfl rfl (by decide) rfl rfl (Nat.le_of_ble_eq_true rfl) dL_law_440 (fun u588 => ?_)
        refine g_widen (kk1 := kk + 212) (nn1 := nn + 7556) (by omega) (by omega) ?_
        have qu588 : asc ((0 + t11n) + ((0 + (kLen 0)) + (nLen r574))) (tcat (0 + t11n) (tcat 0 (fun _ => 0) f11) tfu586) := asc_cat qu578 hcu586.2
        have eu588 : ∀ j, j < (0 + t11n) + ((0 + (kLen 0)) + (nLen r574)) → (tcat (0 + t11n) (tcat 0 (fun _ => 0) f11) tfu586) j = (tcat (0 + t11n) (tcat 0 (fun _ => 0) t11f) (tcat (0 + (kLen 0)) (tcat 0 (fun _ => 0) (kByt 0)) (nDig r574))) j := tcat_eq eu578 hxu586
        refine g_eq (ws' := (List.append [(a11, .inr (0, [.ref w11, .int 0, .int 0, .int 0])), (w11, .inl (cB, t11n, .inl f11)), (tau586, .inr (0, [.ref twu586, .int 0, .int 0, .int 0])), (twu586, .inl (cB, ((0 + (kLen 0)) + (nLen r574)), .inl tfu586)), (b575, .inr (1, [.ref u588.1.1, .int 0, .int 0, .int (Int32.ofNat ((0 + t11n) + ((0 + (kLen 0)) + (nLen r574))))])), (u588.1.1, .inl (cB, u588.1.2.1, .inl u588.1.2.2))] (labX cB cC cI cO L0 ua v))) rfl rfl rfl ?_
        refine g_xVr (X := [(a11, .inr (0, [.ref w11, .int 0, .int 0, .int 0])), (w11, .inl (cB, t11n, .inl f11)), (tau586, .inr (0, [.ref twu586, .int 0, .int 0, .int 0])), (twu586, .inl (cB, ((0 + (kLen 0)) + (nLen r574)), .inl tfu586)), (b575, .inr (1, [.ref u588.1.1, .int 0, .int 0, .int (Int32.ofNat ((0 + t11n) + ((0 + (kLen 0)) + (nLen r574))))])), (u588.1.1, .inl (cB, u588.1.2.1, .inl u588.1.2.2))]) (pl := labX cB cC cI cO L0 ua v) (wr := [(a11, .inr (0, [.ref w11, .int 0, .int 0, .int 0])), (w11, .inl (cB, t11n, .inl f11)), (tau586, .inr (0, [.ref twu586, .int 0, .int 0, .int 0])), (twu586, .inl (cB, ((0 + (kLen 0)) + (nLen r574)), .inl tfu586))]) (As := []) (st := []) (b := b575) C0 jE_ok (xe_of C0 jE_ok E0.1.2) (xr_w C0 4 rfl rfl) (mJ4_toString_0e30d l D cB cC cI cO b575 u588.1.1 0 ((0 + t11n) + ((0 + (kLen 0)) + (nLen r574))) u588.1.2.1 u588.1.2.2 (tcat (0 + t11n) (tcat 0 (fun _ => 0) f11) tfu586) (by omega) u588.2) hmJ4_toString_0e30d q_1064 ⟨Nat.le_of_ble_eq_true rfl, Nat.le_of_ble_eq_true rfl⟩ rfl rfl ⟨by omega, by omega⟩ rfl [4, 5] [0, 1, 2, 3] rfl rfl rfl rfl (by decide) rfl rfl (Nat.le_of_ble_eq_true rfl) dL_law_443 (fun u589 => ?_)
        refine g_widen (kk1 := kk + 214) (nn1 := nn + 8260) (by omega) (by omega) ?_
        obtain ⟨⟨tau589, twu589, tfu589⟩, hfitu589, hyu589⟩ := u589
        have hxu589 : ∀ j, j < ((0 + t11n) + ((0 + (kLen 0)) + (nLen r574))) → tfu589 j = (tcat (0 + t11n) (tcat 0 (fun _ => 0) t11f) (tcat (0 + (kLen 0)) (tcat 0 (fun _ => 0) (kByt 0)) (nDig r574))) j := fun j hj => (hyu589 j hj).trans (eu588 j hj)
        have hcu589 : ascB ((0 + t11n) + ((0 + (kLen 0)) + (nLen r574))) tfu589 := ⟨by omega, asc_of hyu589 qu588⟩
        refine g_ordP (P' := [(a11, .inr (0, [.ref w11, .int 0, .int 0, .int 0])), (w11, .inl (cB, t11n, .inl f11)), (tau586, .inr (0, [.ref twu586, .int 0, .int 0, .int 0])), (twu586, .inl (cB, ((0 + (kLen 0)) + (nLen r574)), .inl tfu586)), (tau589, .inr (0, [.ref twu589, .int 0, .int 0, .int 0])), (twu589, .inl (cB, ((0 + t11n) + ((0 + (kLen 0)) + (nLen r574))), .inl tfu589))]) (X := labX cB cC cI cO L0 ua v) [0, 1, 2, 3, 6, 7] rfl rfl rfl ?_
        refine g_eq (st' := [.ref tau589]) (ws' := (List.append [(a11, .inr (0, [.ref w11, .int 0, .int 0, .int 0])), (w11, .inl (cB, t11n, .inl f11)), (tau586, .inr (0, [.ref twu586, .int 0, .int 0, .int 0])), (twu586, .inl (cB, ((0 + (kLen 0)) + (nLen r574)), .inl tfu586)), (tau589, .inr (0, [.ref twu589, .int 0, .int 0, .int 0])), (twu589, .inl (cB, ((0 + t11n) + ((0 + (kLen 0)) + (nLen r574))), .inl tfu589))] (labX cB cC cI cO L0 ua v))) rfl rfl rfl ?_
        refine g_astore C0 (lv' := [(11, .ref tau589), (8, .int (v8 + r574)), (18, .int r574), (7, .int (if v7 < v15 then v15 else v7)), (0, .ref g.2.2.1), (1, .ref L0), (2, .int v2), (3, .int v3), (4, .int v4), (5, .int v5), (6, .int v6), (9, .int v9), (10, .int v10), (12, .ref (g.1 0)), (13, .int v13), (14, .int v14), (15, .int v15), (16, .int v16)]) dL_law_446 (by decide) rfl ?_
        refine g_ordP (P := [(a11, .inr (0, [.ref w11, .int 0, .int 0, .int 0])), (w11, .inl (cB, t11n, .inl f11)), (tau586, .inr (0, [.ref twu586, .int 0, .int 0, .int 0])), (twu586, .inl (cB, ((0 + (kLen 0)) + (nLen r574)), .inl tfu586)), (tau589, .inr (0, [.ref twu589, .int 0, .int 0, .int 0])), (twu589, .inl (cB, ((0 + t11n) + ((0 + (kLen 0)) + (nLen r574))), .inl tfu589))]) (P' := [(tau589, .inr (0, [.ref twu589, .int 0, .int 0, .int 0])), (twu589, .inl (cB, ((0 + t11n) + ((0 + (kLen 0)) + (nLen r574))), .inl tfu589))]) (X := labX cB cC cI cO L0 ua v) [4, 5] rfl rfl rfl ?_
        refine g_lv [4, 5, 6, 7, 8, 9, 10, 3, 1, 11, 12, 0, 13, 14, 15, 2] (lv' := [(0, .ref g.2.2.1), (1, .ref L0), (2, .int v2), (3, .int v3), (4, .int v4), (5, .int v5), (6, .int v6), (7, .int (if v7 < v15 then v15 else v7)), (8, .int (v8 + r574)), (9, .int v9), (10, .int v10), (11, .ref tau589), (12, .ref (g.1 0)), (13, .int v13), (14, .int v14), (18, .int r574)]) rfl ?_
        exact bL_law_448_WK C0 E0 hl0 K0 hK0 KE L0 ua out rec15 rec59 hrec15 hrec59   v v2 v3 v4 v5 v6 (if v7 < v15 then v15 else v7) (v8 + r574) v9 v10 ((0 + t11n) + ((0 + (kLen 0)) + (nLen r574))) (tcat (0 + t11n) (tcat 0 (fun _ => 0) t11f) (tcat (0 + (kLen 0)) (tcat 0 (fun _ => 0) (kByt 0)) (nDig r574))) (kLen 0) (kByt 0) v13 v14 r574 tau589 twu589 tfu589 hxu589 hcu589 _ _ hf (by omega) (by omega)
      · rw [if_neg c579] at hf
        refine g_ldcS C0 (E0.2.1.2 3 (152, "+") rfl) dL_law_415 ?_
        refine g_goto C0 (tgt := 440) dL_law_417 (by decide) ?_
        obtain ⟨h590, hf⟩ := hl_ifS hf
        refine g_xVr (X := [(a11, .inr (0, [.ref w11, .int 0, .int 0, .int 0])), (w11, .inl (cB, t11n, .inl f11)), (b575, .inr (1, [.ref u578.1.1, .int 0, .int 0, .int (Int32.ofNat (0 + t11n))])), (u578.1.1, .inl (cB, u578.1.2.1, .inl u578.1.2.2))]) (pl := labX cB cC cI cO L0 ua v) (wr := [(a11, .inr (0, [.ref w11, .int 0, .int 0, .int 0])), (w11, .inl (cB, t11n, .inl f11))]) (As := [.ref (g.1 3)]) (st := []) (b := b575) C0 (jT_ok _ _ _ _) (xe_of C0 (jT_ok _ _ _ _) ⟨E0.1.2, hKt_tx E0.2.1 (by decide : 3 < 6)⟩) (xr_w C0 2 rfl rfl) (mJ4_append_15ec4 l D cB cC cI cO (g.1 3) (g.2.1 3) (kLen 3) (kByt 3) b575 u578.1.1 0 (0 + t11n) u578.1.2.1 u578.1.2.2 (tcat 0 (fun _ => 0) f11) (by omega) (by omega) (kAsc 3 (by decide)) u578.2) hmJ4_append_15ec4 q_944 ⟨Nat.le_of_ble_eq_true rfl, Nat.le_of_ble_eq_true rfl⟩ rfl rfl ⟨by omega, by omega⟩ rfl [2, 3] [0, 1] rfl rfl rfl rfl (by decide) rfl rfl (Nat.le_of_ble_eq_true rfl) dL_law_440 (fun u591 => ?_)
        refine g_widen (kk1 := kk + 206) (nn1 := nn + 4032) (by omega) (by omega) ?_
        have qu591 : asc ((0 + t11n) + (kLen 3)) (tcat (0 + t11n) (tcat 0 (fun _ => 0) f11) (kByt 3)) := asc_cat qu578 (kAsc 3 (by decide))
        have eu591 : ∀ j, j < (0 + t11n) + (kLen 3) → (tcat (0 + t11n) (tcat 0 (fun _ => 0) f11) (kByt 3)) j = (tcat (0 + t11n) (tcat 0 (fun _ => 0) t11f) (kByt 3)) j := tcat_eq eu578 (fun _ _ => rfl)
        refine g_eq (ws' := (List.append [(a11, .inr (0, [.ref w11, .int 0, .int 0, .int 0])), (w11, .inl (cB, t11n, .inl f11)), (b575, .inr (1, [.ref u591.1.1, .int 0, .int 0, .int (Int32.ofNat ((0 + t11n) + (kLen 3)))])), (u591.1.1, .inl (cB, u591.1.2.1, .inl u591.1.2.2))] (labX cB cC cI cO L0 ua v))) rfl rfl rfl ?_
        refine g_xVr (X := [(a11, .inr (0, [.ref w11, .int 0, .int 0, .int 0])), (w11, .inl (cB, t11n, .inl f11)), (b575, .inr (1, [.ref u591.1.1, .int 0, .int 0, .int (Int32.ofNat ((0 + t11n) + (kLen 3)))])), (u591.1.1, .inl (cB, u591.1.2.1, .inl u591.1.2.2))]) (pl := labX cB cC cI cO L0 ua v) (wr := [(a11, .inr (0, [.ref w11, .int 0, .int 0, .int 0])), (w11, .inl (cB, t11n, .inl f11))]) (As := []) (st := []) (b := b575) C0 jE_ok (xe_of C0 jE_ok E0.1.2) (xr_w C0 2 rfl rfl) (mJ4_toString_0e30d l D cB cC cI cO b575 u591.1.1 0 ((0 + t11n) + (kLen 3)) u591.1.2.1 u591.1.2.2 (tcat (0 + t11n) (tcat 0 (fun _ => 0) f11) (kByt 3)) (by omega) u591.2) hmJ4_toString_0e30d q_1064 ⟨Nat.le_of_ble_eq_true rfl, Nat.le_of_ble_eq_true rfl⟩ rfl rfl ⟨by omega, by omega⟩ rfl [2, 3] [0, 1] rfl rfl rfl rfl (by decide) rfl rfl (Nat.le_of_ble_eq_true rfl) dL_law_443 (fun u592 => ?_)
        refine g_widen (kk1 := kk + 208) (nn1 := nn + 4736) (by omega) (by omega) ?_
        obtain ⟨⟨tau592, twu592, tfu592⟩, hfitu592, hyu592⟩ := u592
        have hxu592 : ∀ j, j < ((0 + t11n) + (kLen 3)) → tfu592 j = (tcat (0 + t11n) (tcat 0 (fun _ => 0) t11f) (kByt 3)) j := fun j hj => (hyu592 j hj).trans (eu591 j hj)
        have hcu592 : ascB ((0 + t11n) + (kLen 3)) tfu592 := ⟨by omega, asc_of hyu592 qu591⟩
        refine g_ordP (P' := [(a11, .inr (0, [.ref w11, .int 0, .int 0, .int 0])), (w11, .inl (cB, t11n, .inl f11)), (tau592, .inr (0, [.ref twu592, .int 0, .int 0, .int 0])), (twu592, .inl (cB, ((0 + t11n) + (kLen 3)), .inl tfu592))]) (X := labX cB cC cI cO L0 ua v) [0, 1, 4, 5] rfl rfl rfl ?_
        refine g_eq (st' := [.ref tau592]) (ws' := (List.append [(a11, .inr (0, [.ref w11, .int 0, .int 0, .int 0])), (w11, .inl (cB, t11n, .inl f11)), (tau592, .inr (0, [.ref twu592, .int 0, .int 0, .int 0])), (twu592, .inl (cB, ((0 + t11n) + (kLen 3)), .inl tfu592))] (labX cB cC cI cO L0 ua v))) rfl rfl rfl ?_
        refine g_astore C0 (lv' := [(11, .ref tau592), (8, .int (v8 + r574)), (18, .int r574), (7, .int (if v7 < v15 then v15 else v7)), (0, .ref g.2.2.1), (1, .ref L0), (2, .int v2), (3, .int v3), (4, .int v4), (5, .int v5), (6, .int v6), (9, .int v9), (10, .int v10), (12, .ref (g.1 0)), (13, .int v13), (14, .int v14), (15, .int v15), (16, .int v16)]) dL_law_446 (by decide) rfl ?_
        refine g_ordP (P := [(a11, .inr (0, [.ref w11, .int 0, .int 0, .int 0])), (w11, .inl (cB, t11n, .inl f11)), (tau592, .inr (0, [.ref twu592, .int 0, .int 0, .int 0])), (twu592, .inl (cB, ((0 + t11n) + (kLen 3)), .inl tfu592))]) (P' := [(tau592, .inr (0, [.ref twu592, .int 0, .int 0, .int 0])), (twu592, .inl (cB, ((0 + t11n) + (kLen 3)), .inl tfu592))]) (X := labX cB cC cI cO L0 ua v) [2, 3] rfl rfl rfl ?_
        refine g_lv [4, 5, 6, 7, 8, 9, 10, 3, 1, 11, 12, 0, 13, 14, 15, 2] (lv' := [(0, .ref g.2.2.1), (1, .ref L0), (2, .int v2), (3, .int v3), (4, .int v4), (5, .int v5), (6, .int v6), (7, .int (if v7 < v15 then v15 else v7)), (8, .int (v8 + r574)), (9, .int v9), (10, .int v10), (11, .ref tau592), (12, .ref (g.1 0)), (13, .int v13), (14, .int v14), (18, .int r574)]) rfl ?_
        exact bL_law_448_WK C0 E0 hl0 K0 hK0 KE L0 ua out rec15 rec59 hrec15 hrec59   v v2 v3 v4 v5 v6 (if v7 < v15 then v15 else v7) (v8 + r574) v9 v10 ((0 + t11n) + (kLen 3)) (tcat (0 + t11n) (tcat 0 (fun _ => 0) t11f) (kByt 3)) (kLen 0) (kByt 0) v13 v14 r574 tau592 twu592 tfu592 hxu592 hcu592 _ _ hf (by omega) (by omega)
    · rw [if_neg c573] at hf
      refine g_new (ci := 1) (fs := [.null, .int 0, .int 0, .int 0]) C0 hinJ4 tyJ4_ok q_914 q_915 q_31 rfl (fun z hz => hl_dB z hz) (by omega) (by omega) dL_law_346 (fun b593 => ?_)
      refine g_rot ?_
      refine g_eq (ws' := (List.append [(a11, .inr (0, [.ref w11, .int 0, .int 0, .int 0])), (w11, .inl (cB, t11n, .inl f11)), (b593, .inr (1, [.null, .int 0, .int 0, .int 0]))] (labX cB cC cI cO L0 ua v))) rfl rfl rfl ?_
      refine g_dup C0 dL_law_349 rfl ?_
      refine g_xIv (ret := none) (X := [(a11, .inr (0, [.ref w11, .int 0, .int 0, .int 0])), (w11, .inl (cB, t11n, .inl f11)), (b593, .inr (1, [.null, .int 0, .int 0, .int 0]))]) (pl := labX cB cC cI cO L0 ua v) (wr := [(a11, .inr (0, [.ref w11, .int 0, .int 0, .int 0])), (w11, .inl (cB, t11n, .inl f11))]) (As := []) (st := [.ref b593]) (b := b593) C0 jE_ok (xe_of C0 jE_ok E0.1.2) (mJ4_init_da8c8 l D cB cC cI cO b593) hmJ4_init_da8c8 q_916 ⟨Nat.le_of_ble_eq_true rfl, Nat.le_of_ble_eq_true rfl⟩ rfl rfl ⟨by omega, by omega⟩ rfl [2] [0, 1] rfl rfl rfl rfl (by decide) rfl rfl (Nat.le_of_ble_eq_true rfl) dL_law_350 (fun w594 => ?_)
      refine g_eq (ws' := (List.append [(a11, .inr (0, [.ref w11, .int 0, .int 0, .int 0])), (w11, .inl (cB, t11n, .inl f11)), (b593, .inr (1, [.ref w594, .int 0, .int 0, .int (Int32.ofNat 0)])), (w594, .inl (cB, 16, .inl (fun _ => 0)))] (labX cB cC cI cO L0 ua v))) rfl rfl rfl ?_
      refine g_aload C0 dL_law_353 11 rfl ?_
      obtain ⟨h595, hf⟩ := hl_ifS hf
      refine g_xVr (X := [(a11, .inr (0, [.ref w11, .int 0, .int 0, .int 0])), (w11, .inl (cB, t11n, .inl f11)), (b593, .inr (1, [.ref w594, .int 0, .int 0, .int (Int32.ofNat 0)])), (w594, .inl (cB, 16, .inl (fun _ => 0)))]) (pl := labX cB cC cI cO L0 ua v) (wr := [(a11, .inr (0, [.ref w11, .int 0, .int 0, .int 0])), (w11, .inl (cB, t11n, .inl f11))]) (As := [.ref a11]) (st := []) (b := b593) C0 (jT_ok _ _ _ _) (xe_W (g := 0) C0 E0.1.2 0 1 rfl rfl 3 rfl [2, 3] rfl (by decide) (by decide)) (xr_w C0 2 rfl rfl) (mJ4_append_15ec4 l D cB cC cI cO a11 w11 t11n f11 b593 w594 0 0 16 (fun _ => 0) (fun _ => 0) (by omega) (by omega) hc11.2 (sbP0 w594)) hmJ4_append_15ec4 q_944 ⟨Nat.le_of_ble_eq_true rfl, Nat.le_of_ble_eq_true rfl⟩ rfl rfl ⟨by omega, by omega⟩ rfl [2, 3] [0, 1] rfl rfl rfl rfl (by decide) rfl rfl (Nat.le_of_ble_eq_true rfl) dL_law_355 (fun u596 => ?_)
      refine g_widen (kk1 := kk + 4) (nn1 := nn + 1426) (by omega) (by omega) ?_
      have qu596 : asc (0 + t11n) (tcat 0 (fun _ => 0) f11) := asc_cat (asc0 _) hc11.2
      have eu596 : ∀ j, j < 0 + t11n → (tcat 0 (fun _ => 0) f11) j = (tcat 0 (fun _ => 0) t11f) j := tcat_eq (fun _ _ => rfl) hx11
      refine g_eq (ws' := (List.append [(a11, .inr (0, [.ref w11, .int 0, .int 0, .int 0])), (w11, .inl (cB, t11n, .inl f11)), (b593, .inr (1, [.ref u596.1.1, .int 0, .int 0, .int (Int32.ofNat (0 + t11n))])), (u596.1.1, .inl (cB, u596.1.2.1, .inl u596.1.2.2))] (labX cB cC cI cO L0 ua v))) rfl rfl rfl ?_
      refine g_iload C0 dL_law_358 16 rfl ?_
      refine g_if_eq C0 (tgt := 368) dL_law_360 (by decide) (fun c597 => ?_) (fun c597 => ?_)
      · rw [if_pos c597] at hf
        refine g_ldcS C0 (E0.2.1.2 2 (143, ".") rfl) dL_law_368 ?_
        obtain ⟨h598, hf⟩ := hl_ifS hf
        refine g_xVr (X := [(a11, .inr (0, [.ref w11, .int 0, .int 0, .int 0])), (w11, .inl (cB, t11n, .inl f11)), (b593, .inr (1, [.ref u596.1.1, .int 0, .int 0, .int (Int32.ofNat (0 + t11n))])), (u596.1.1, .inl (cB, u596.1.2.1, .inl u596.1.2.2))]) (pl := labX cB cC cI cO L0 ua v) (wr := [(a11, .inr (0, [.ref w11, .int 0, .int 0, .int 0])), (w11, .inl (cB, t11n, .inl f11))]) (As := [.ref (g.1 2)]) (st := []) (b := b593) C0 (jT_ok _ _ _ _) (xe_of C0 (jT_ok _ _ _ _) ⟨E0.1.2, hKt_tx E0.2.1 (by decide : 2 < 6)⟩) (xr_w C0 2 rfl rfl) (mJ4_append_15ec4 l D cB cC cI cO (g.1 2) (g.2.1 2) (kLen 2) (kByt 2) b593 u596.1.1 0 (0 + t11n) u596.1.2.1 u596.1.2.2 (tcat 0 (fun _ => 0) f11) (by omega) (by omega) (kAsc 2 (by decide)) u596.2) hmJ4_append_15ec4 q_944 ⟨Nat.le_of_ble_eq_true rfl, Nat.le_of_ble_eq_true rfl⟩ rfl rfl ⟨by omega, by omega⟩ rfl [2, 3] [0, 1] rfl rfl rfl rfl (by decide) rfl rfl (Nat.le_of_ble_eq_true rfl) dL_law_370 (fun u599 => ?_)
        refine g_widen (kk1 := kk + 5) (nn1 := nn + 2826) (by omega) (by omega) ?_
        have qu599 : asc ((0 + t11n) + (kLen 2)) (tcat (0 + t11n) (tcat 0 (fun _ => 0) f11) (kByt 2)) := asc_cat qu596 (kAsc 2 (by decide))
        have eu599 : ∀ j, j < (0 + t11n) + (kLen 2) → (tcat (0 + t11n) (tcat 0 (fun _ => 0) f11) (kByt 2)) j = (tcat (0 + t11n) (tcat 0 (fun _ => 0) t11f) (kByt 2)) j := tcat_eq eu596 (fun _ _ => rfl)
        refine g_eq (ws' := (List.append [(a11, .inr (0, [.ref w11, .int 0, .int 0, .int 0])), (w11, .inl (cB, t11n, .inl f11)), (b593, .inr (1, [.ref u599.1.1, .int 0, .int 0, .int (Int32.ofNat ((0 + t11n) + (kLen 2)))])), (u599.1.1, .inl (cB, u599.1.2.1, .inl u599.1.2.2))] (labX cB cC cI cO L0 ua v))) rfl rfl rfl ?_
        refine g_xVr (X := [(a11, .inr (0, [.ref w11, .int 0, .int 0, .int 0])), (w11, .inl (cB, t11n, .inl f11)), (b593, .inr (1, [.ref u599.1.1, .int 0, .int 0, .int (Int32.ofNat ((0 + t11n) + (kLen 2)))])), (u599.1.1, .inl (cB, u599.1.2.1, .inl u599.1.2.2))]) (pl := labX cB cC cI cO L0 ua v) (wr := [(a11, .inr (0, [.ref w11, .int 0, .int 0, .int 0])), (w11, .inl (cB, t11n, .inl f11))]) (As := []) (st := []) (b := b593) C0 jE_ok (xe_of C0 jE_ok E0.1.2) (xr_w C0 2 rfl rfl) (mJ4_toString_0e30d l D cB cC cI cO b593 u599.1.1 0 ((0 + t11n) + (kLen 2)) u599.1.2.1 u599.1.2.2 (tcat (0 + t11n) (tcat 0 (fun _ => 0) f11) (kByt 2)) (by omega) u599.2) hmJ4_toString_0e30d q_1064 ⟨Nat.le_of_ble_eq_true rfl, Nat.le_of_ble_eq_true rfl⟩ rfl rfl ⟨by omega, by omega⟩ rfl [2, 3] [0, 1] rfl rfl rfl rfl (by decide) rfl rfl (Nat.le_of_ble_eq_true rfl) dL_law_373 (fun u600 => ?_)
        refine g_widen (kk1 := kk + 7) (nn1 := nn + 3530) (by omega) (by omega) ?_
        obtain ⟨⟨tau600, twu600, tfu600⟩, hfitu600, hyu600⟩ := u600
        have hxu600 : ∀ j, j < ((0 + t11n) + (kLen 2)) → tfu600 j = (tcat (0 + t11n) (tcat 0 (fun _ => 0) t11f) (kByt 2)) j := fun j hj => (hyu600 j hj).trans (eu599 j hj)
        have hcu600 : ascB ((0 + t11n) + (kLen 2)) tfu600 := ⟨by omega, asc_of hyu600 qu599⟩
        refine g_ordP (P' := [(a11, .inr (0, [.ref w11, .int 0, .int 0, .int 0])), (w11, .inl (cB, t11n, .inl f11)), (tau600, .inr (0, [.ref twu600, .int 0, .int 0, .int 0])), (twu600, .inl (cB, ((0 + t11n) + (kLen 2)), .inl tfu600))]) (X := labX cB cC cI cO L0 ua v) [0, 1, 4, 5] rfl rfl rfl ?_
        refine g_eq (st' := [.ref tau600]) (ws' := (List.append [(a11, .inr (0, [.ref w11, .int 0, .int 0, .int 0])), (w11, .inl (cB, t11n, .inl f11)), (tau600, .inr (0, [.ref twu600, .int 0, .int 0, .int 0])), (twu600, .inl (cB, ((0 + t11n) + (kLen 2)), .inl tfu600))] (labX cB cC cI cO L0 ua v))) rfl rfl rfl ?_
        refine g_astore C0 (lv' := [(11, .ref tau600), (7, .int (if v7 < v15 then v15 else v7)), (0, .ref g.2.2.1), (1, .ref L0), (2, .int v2), (3, .int v3), (4, .int v4), (5, .int v5), (6, .int v6), (8, .int v8), (9, .int v9), (10, .int v10), (12, .ref (g.1 0)), (13, .int v13), (14, .int v14), (15, .int v15), (16, .int v16)]) dL_law_376 (by decide) rfl ?_
        refine g_goto C0 (tgt := 546) dL_law_378 (by decide) ?_
        refine g_ordP (P := [(a11, .inr (0, [.ref w11, .int 0, .int 0, .int 0])), (w11, .inl (cB, t11n, .inl f11)), (tau600, .inr (0, [.ref twu600, .int 0, .int 0, .int 0])), (twu600, .inl (cB, ((0 + t11n) + (kLen 2)), .inl tfu600))]) (P' := [(tau600, .inr (0, [.ref twu600, .int 0, .int 0, .int 0])), (twu600, .inl (cB, ((0 + t11n) + (kLen 2)), .inl tfu600))]) (X := labX cB cC cI cO L0 ua v) [2, 3] rfl rfl rfl ?_
        refine g_lv [2, 3, 4, 5, 6, 7, 8, 1, 9, 10, 11, 0, 12, 13] (lv' := [(0, .ref g.2.2.1), (1, .ref L0), (2, .int v2), (3, .int v3), (4, .int v4), (5, .int v5), (6, .int v6), (7, .int (if v7 < v15 then v15 else v7)), (8, .int v8), (9, .int v9), (10, .int v10), (11, .ref tau600), (12, .ref (g.1 0)), (13, .int v13)]) rfl ?_
        exact bL_law_546_WK C0 E0 hl0 K0 hK0 KE L0 ua out rec15 rec59 hrec15 hrec59   v v2 v3 v4 v5 v6 (if v7 < v15 then v15 else v7) v8 v9 v10 ((0 + t11n) + (kLen 2)) (tcat (0 + t11n) (tcat 0 (fun _ => 0) t11f) (kByt 2)) (kLen 0) (kByt 0) v13 tau600 twu600 tfu600 hxu600 hcu600 _ _ hf (by omega) (by omega)
      · rw [if_neg c597] at hf
        refine g_ldcS C0 (E0.2.1.2 1 (141, "x") rfl) dL_law_363 ?_
        refine g_goto C0 (tgt := 370) dL_law_365 (by decide) ?_
        obtain ⟨h601, hf⟩ := hl_ifS hf
        refine g_xVr (X := [(a11, .inr (0, [.ref w11, .int 0, .int 0, .int 0])), (w11, .inl (cB, t11n, .inl f11)), (b593, .inr (1, [.ref u596.1.1, .int 0, .int 0, .int (Int32.ofNat (0 + t11n))])), (u596.1.1, .inl (cB, u596.1.2.1, .inl u596.1.2.2))]) (pl := labX cB cC cI cO L0 ua v) (wr := [(a11, .inr (0, [.ref w11, .int 0, .int 0, .int 0])), (w11, .inl (cB, t11n, .inl f11))]) (As := [.ref (g.1 1)]) (st := []) (b := b593) C0 (jT_ok _ _ _ _) (xe_of C0 (jT_ok _ _ _ _) ⟨E0.1.2, hKt_tx E0.2.1 (by decide : 1 < 6)⟩) (xr_w C0 2 rfl rfl) (mJ4_append_15ec4 l D cB cC cI cO (g.1 1) (g.2.1 1) (kLen 1) (kByt 1) b593 u596.1.1 0 (0 + t11n) u596.1.2.1 u596.1.2.2 (tcat 0 (fun _ => 0) f11) (by omega) (by omega) (kAsc 1 (by decide)) u596.2) hmJ4_append_15ec4 q_944 ⟨Nat.le_of_ble_eq_true rfl, Nat.le_of_ble_eq_true rfl⟩ rfl rfl ⟨by omega, by omega⟩ rfl [2, 3] [0, 1] rfl rfl rfl rfl (by decide) rfl rfl (Nat.le_of_ble_eq_true rfl) dL_law_370 (fun u602 => ?_)
        refine g_widen (kk1 := kk + 5) (nn1 := nn + 2826) (by omega) (by omega) ?_
        have qu602 : asc ((0 + t11n) + (kLen 1)) (tcat (0 + t11n) (tcat 0 (fun _ => 0) f11) (kByt 1)) := asc_cat qu596 (kAsc 1 (by decide))
        have eu602 : ∀ j, j < (0 + t11n) + (kLen 1) → (tcat (0 + t11n) (tcat 0 (fun _ => 0) f11) (kByt 1)) j = (tcat (0 + t11n) (tcat 0 (fun _ => 0) t11f) (kByt 1)) j := tcat_eq eu596 (fun _ _ => rfl)
        refine g_eq (ws' := (List.append [(a11, .inr (0, [.ref w11, .int 0, .int 0, .int 0])), (w11, .inl (cB, t11n, .inl f11)), (b593, .inr (1, [.ref u602.1.1, .int 0, .int 0, .int (Int32.ofNat ((0 + t11n) + (kLen 1)))])), (u602.1.1, .inl (cB, u602.1.2.1, .inl u602.1.2.2))] (labX cB cC cI cO L0 ua v))) rfl rfl rfl ?_
        refine g_xVr (X := [(a11, .inr (0, [.ref w11, .int 0, .int 0, .int 0])), (w11, .inl (cB, t11n, .inl f11)), (b593, .inr (1, [.ref u602.1.1, .int 0, .int 0, .int (Int32.ofNat ((0 + t11n) + (kLen 1)))])), (u602.1.1, .inl (cB, u602.1.2.1, .inl u602.1.2.2))]) (pl := labX cB cC cI cO L0 ua v) (wr := [(a11, .inr (0, [.ref w11, .int 0, .int 0, .int 0])), (w11, .inl (cB, t11n, .inl f11))]) (As := []) (st := []) (b := b593) C0 jE_ok (xe_of C0 jE_ok E0.1.2) (xr_w C0 2 rfl rfl) (mJ4_toString_0e30d l D cB cC cI cO b593 u602.1.1 0 ((0 + t11n) + (kLen 1)) u602.1.2.1 u602.1.2.2 (tcat (0 + t11n) (tcat 0 (fun _ => 0) f11) (kByt 1)) (by omega) u602.2) hmJ4_toString_0e30d q_1064 ⟨Nat.le_of_ble_eq_true rfl, Nat.le_of_ble_eq_true rfl⟩ rfl rfl ⟨by omega, by omega⟩ rfl [2, 3] [0, 1] rfl rfl rfl rfl (by decide) rfl rfl (Nat.le_of_ble_eq_true rfl) dL_law_373 (fun u603 => ?_)
        refine g_widen (kk1 := kk + 7) (nn1 := nn + 3530) (by omega) (by omega) ?_
        obtain ⟨⟨tau603, twu603, tfu603⟩, hfitu603, hyu603⟩ := u603
        have hxu603 : ∀ j, j < ((0 + t11n) + (kLen 1)) → tfu603 j = (tcat (0 + t11n) (tcat 0 (fun _ => 0) t11f) (kByt 1)) j := fun j hj => (hyu603 j hj).trans (eu602 j hj)
        have hcu603 : ascB ((0 + t11n) + (kLen 1)) tfu603 := ⟨by omega, asc_of hyu603 qu602⟩
        refine g_ordP (P' := [(a11, .inr (0, [.ref w11, .int 0, .int 0, .int 0])), (w11, .inl (cB, t11n, .inl f11)), (tau603, .inr (0, [.ref twu603, .int 0, .int 0, .int 0])), (twu603, .inl (cB, ((0 + t11n) + (kLen 1)), .inl tfu603))]) (X := labX cB cC cI cO L0 ua v) [0, 1, 4, 5] rfl rfl rfl ?_
        refine g_eq (st' := [.ref tau603]) (ws' := (List.append [(a11, .inr (0, [.ref w11, .int 0, .int 0, .int 0])), (w11, .inl (cB, t11n, .inl f11)), (tau603, .inr (0, [.ref twu603, .int 0, .int 0, .int 0])), (twu603, .inl (cB, ((0 + t11n) + (kLen 1)), .inl tfu603))] (labX cB cC cI cO L0 ua v))) rfl rfl rfl ?_
        refine g_astore C0 (lv' := [(11, .ref tau603), (7, .int (if v7 < v15 then v15 else v7)), (0, .ref g.2.2.1), (1, .ref L0), (2, .int v2), (3, .int v3), (4, .int v4), (5, .int v5), (6, .int v6), (8, .int v8), (9, .int v9), (10, .int v10), (12, .ref (g.1 0)), (13, .int v13), (14, .int v14), (15, .int v15), (16, .int v16)]) dL_law_376 (by decide) rfl ?_
        refine g_goto C0 (tgt := 546) dL_law_378 (by decide) ?_
        refine g_ordP (P := [(a11, .inr (0, [.ref w11, .int 0, .int 0, .int 0])), (w11, .inl (cB, t11n, .inl f11)), (tau603, .inr (0, [.ref twu603, .int 0, .int 0, .int 0])), (twu603, .inl (cB, ((0 + t11n) + (kLen 1)), .inl tfu603))]) (P' := [(tau603, .inr (0, [.ref twu603, .int 0, .int 0, .int 0])), (twu603, .inl (cB, ((0 + t11n) + (kLen 1)), .inl tfu603))]) (X := labX cB cC cI cO L0 ua v) [2, 3] rfl rfl rfl ?_
        refine g_lv [2, 3, 4, 5, 6, 7, 8, 1, 9, 10, 11, 0, 12, 13] (lv' := [(0, .ref g.2.2.1), (1, .ref L0), (2, .int v2), (3, .int v3), (4, .int v4), (5, .int v5), (6, .int v6), (7, .int (if v7 < v15 then v15 else v7)), (8, .int v8), (9, .int v9), (10, .int v10), (11, .ref tau603), (12, .ref (g.1 0)), (13, .int v13)]) rfl ?_
        exact bL_law_546_WK C0 E0 hl0 K0 hK0 KE L0 ua out rec15 rec59 hrec15 hrec59   v v2 v3 v4 v5 v6 (if v7 < v15 then v15 else v7) v8 v9 v10 ((0 + t11n) + (kLen 1)) (tcat (0 + t11n) (tcat 0 (fun _ => 0) t11f) (kByt 1)) (kLen 0) (kByt 0) v13 tau603 twu603 tfu603 hxu603 hcu603 _ _ hf (by omega) (by omega)
  · rw [if_neg c572] at hf
    refine g_iconst C0 (v := (0 : Int32)) dL_law_339 (by decide) ?_
    cases hf
