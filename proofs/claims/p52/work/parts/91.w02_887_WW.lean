/-! the law, walked: 3 -/
set_option maxHeartbeats 8000000 in
set_option maxRecDepth 100000 in
theorem bL_law_887_WW {p : Program} {l : Launch} {e : Env} {s : State} {m : MethodId} {args : Array Value} {below : List Frame} {meth : Method} {c : Code} {D : va_G} {cB cC cI cO : ClassId} {A : Nat → Prop} {g : LG} (C0 : gC RL cL_law 23 (some .boolean) p s m args meth c D (hTy cB cC cI cO) A) (E0 : hLw g A s) (hl0 : l.stackTraces = false) (K0 : Nat → Int32) (hK0 : fJ7_fill_53178 64 (fun _ => 0) (-1 : Int32) = some K0) {Q : State → Prop} (KE : ∀ (lv : List (Nat × Value)) (ws : va_W) (kk nn : Nat), kk ≤ room_1.cells → nn ≤ room_1.slots → gG p l e room_1 s m args below meth c D A 23 Q kk nn 1230 lv [.int 1] ws) (L0 : Nat) (ua : LA) (out : Unit) {B15a B15b : Nat} (rec15 : LV → Int32 → Option (Unit)) (hrec15 : ∀ (v : LV) (v2 : Int32)  (kk nn : Nat), rec15 v v2 = some out → kk + (B15a) ≤ room_1.cells → nn + (B15b) ≤ room_1.slots → gG p l e room_1 s m args below meth c D A 23 Q kk nn 15 [(0, .ref g.2.2.1), (1, .ref L0), (2, .int v2)] [] (List.append [] (labX cB cC cI cO L0 ua v))) : ∀ (v : LV) (v2 : Int32) (v3 : Int32) (v4 : Int32) (v8 : Int32) (t11n : Nat) (t11f : Nat → Int32) (t12n : Nat) (t12f : Nat → Int32) (k0 : Int32) (k1 : Int32) (a11 w11 : Nat) (f11 : Nat → Int32) (hx11 : ∀ j, j < t11n → f11 j = t11f j) (hc11 : ascB t11n f11) (a12 w12 : Nat) (f12 : Nat → Int32) (hx12 : ∀ j, j < t12n → f12 j = t12f j) (hc12 : ascB t12n f12) (kk nn : Nat), fL_law_887 g K0 rec15  v v2 v3 v4 v8 t11n t11f t12n t12f k0 k1 = some out → kk + (1828 + B15a) ≤ room_1.cells → nn + (25792 + B15b) ≤ room_1.slots → gG p l e room_1 s m args below meth c D A 23 Q kk nn 887 [(0, .ref g.2.2.1), (1, .ref L0), (2, .int v2), (3, .int v3), (4, .int v4), (8, .int v8), (11, .ref a11), (12, .ref a12)] [.int k0, .int k1] (List.append [(a11, .inr (0, [.ref w11, .int 0, .int 0, .int 0])), (w11, .inl (cB, t11n, .inl f11)), (a12, .inr (0, [.ref w12, .int 0, .int 0, .int 0])), (w12, .inl (cB, t12n, .inl f12))] (labX cB cC cI cO L0 ua v)) := by
  intro v v2 v3 v4 v8 t11n t11f t12n t12f k0 k1 a11 w11 f11 hx11 hc11 a12 w12 f12 hx12 hc12 kk nn hf hb1 hb2
  unfold fL_law_887 at hf
  refine g_icmp_ne C0 (tgt := 944) dL_law_887 (by decide) (fun c539 => ?_) (fun c539 => ?_)
  · rw [if_neg c539] at hf
    refine g_iconst C0 (v := (0 : Int32)) dL_law_944 (by decide) ?_
    cases hf
  · rw [if_pos c539] at hf
    refine g_aload_n C0 dL_law_890 rfl 1 rfl ?_
    obtain ⟨r540, er540, hf⟩ := hl_bd hf
    refine g_suff C0 (P := [(a11, .inr (0, [.ref w11, .int 0, .int 0, .int 0])), (w11, .inl (cB, t11n, .inl f11)), (a12, .inr (0, [.ref w12, .int 0, .int 0, .int 0])), (w12, .inl (cB, t12n, .inl f12))]) (X := labX cB cC cI cO L0 ua v) (X1 := labX cB cC cI cO L0 ua v) (As := []) (st := []) (mg_load l D cB cC cI cO L0 ua v  r540 er540) hmX6_load q_529 ⟨Nat.le_of_ble_eq_true rfl, Nat.le_of_ble_eq_true rfl⟩ ⟨by omega, by omega⟩ rfl rfl rfl rfl rfl 0 rfl rfl rfl (Nat.le_of_ble_eq_true rfl) dL_law_891 ?_
    refine g_iload C0 dL_law_894 4 rfl ?_
    refine g_i2f C0 dL_law_896 ?_
    refine g_iload_n C0 dL_law_897 rfl 3 rfl ?_
    refine g_i2f C0 dL_law_898 ?_
    obtain ⟨n541, hf⟩ := hl_ifS hf
    refine g_fdiv C0 dL_law_899 (hl_n32P n541) ?_
    refine g_fcmp C0 dL_law_900 ?_
    refine g_if_ne C0 (tgt := 944) dL_law_901 (by decide) (fun c542 => ?_) (fun c542 => ?_)
    · rw [if_neg c542] at hf
      refine g_iconst C0 (v := (0 : Int32)) dL_law_944 (by decide) ?_
      cases hf
    · rw [if_pos c542] at hf
      refine g_aload_n C0 dL_law_904 rfl 1 rfl ?_
      obtain ⟨r543, er543, hf⟩ := hl_bd hf
      refine g_sufi C0 (P := [(a11, .inr (0, [.ref w11, .int 0, .int 0, .int 0])), (w11, .inl (cB, t11n, .inl f11)), (a12, .inr (0, [.ref w12, .int 0, .int 0, .int 0])), (w12, .inl (cB, t12n, .inl f12))]) (X := labX cB cC cI cO L0 ua v) (X1 := labX cB cC cI cO L0 ua v) (As := []) (st := []) (mg_loadBits l D cB cC cI cO L0 ua v  r543 er543) hmX6_loadBits q_537 ⟨Nat.le_of_ble_eq_true rfl, Nat.le_of_ble_eq_true rfl⟩ ⟨by omega, by omega⟩ rfl rfl rfl rfl rfl 0 rfl rfl rfl (Nat.le_of_ble_eq_true rfl) dL_law_905 ?_
      refine g_aload_n C0 dL_law_908 rfl 1 rfl ?_
      obtain ⟨r544, er544, hf⟩ := hl_bd hf
      refine g_suff C0 (P := [(a11, .inr (0, [.ref w11, .int 0, .int 0, .int 0])), (w11, .inl (cB, t11n, .inl f11)), (a12, .inr (0, [.ref w12, .int 0, .int 0, .int 0])), (w12, .inl (cB, t12n, .inl f12))]) (X := labX cB cC cI cO L0 ua v) (X1 := labX cB cC cI cO L0 ua v) (As := []) (st := [.int r543]) (mg_load l D cB cC cI cO L0 ua v  r544 er544) hmX6_load q_529 ⟨Nat.le_of_ble_eq_true rfl, Nat.le_of_ble_eq_true rfl⟩ ⟨by omega, by omega⟩ rfl rfl rfl rfl rfl 0 rfl rfl rfl (Nat.le_of_ble_eq_true rfl) dL_law_909 ?_
      obtain ⟨r545, er545, hf⟩ := hl_bd hf
      refine g_l0pi C0 (mJxf58ca_floatToIntBits_5c35a l D cB cC cI cO r544 r545 er545) hmJxf58ca_floatToIntBits_5c35a q_902 ⟨Nat.le_of_ble_eq_true rfl, Nat.le_of_ble_eq_true rfl⟩ ⟨by omega, by omega⟩ rfl rfl rfl rfl (Nat.le_of_ble_eq_true rfl) dL_law_912 ?_
      refine g_icmp_ne C0 (tgt := 944) dL_law_915 (by decide) (fun c546 => ?_) (fun c546 => ?_)
      · rw [if_neg c546] at hf
        refine g_iconst C0 (v := (0 : Int32)) dL_law_944 (by decide) ?_
        cases hf
      · rw [if_pos c546] at hf
        refine g_aload_n C0 dL_law_918 rfl 1 rfl ?_
        refine g_aload_n C0 dL_law_919 rfl 1 rfl ?_
        obtain ⟨r547, er547, hf⟩ := hl_bd hf
        refine g_sufi C0 (P := [(a11, .inr (0, [.ref w11, .int 0, .int 0, .int 0])), (w11, .inl (cB, t11n, .inl f11)), (a12, .inr (0, [.ref w12, .int 0, .int 0, .int 0])), (w12, .inl (cB, t12n, .inl f12))]) (X := labX cB cC cI cO L0 ua v) (X1 := labX cB cC cI cO L0 ua r547.2) (As := []) (st := [.ref L0]) (mg_writeSlots l D cB cC cI cO L0 ua v  r547 er547) hmX6_writeSlots q_639 ⟨Nat.le_of_ble_eq_true rfl, Nat.le_of_ble_eq_true rfl⟩ ⟨by omega, by omega⟩ rfl rfl rfl rfl rfl 0 rfl rfl rfl (Nat.le_of_ble_eq_true rfl) dL_law_920 ?_
        refine g_aload C0 dL_law_923 6 rfl ?_
        obtain ⟨r548, er548, hf⟩ := hl_bd hf
        have lr548 : fL_isLine r547.2 t11n f11 r547.1 = some r548 := (line_cong hx11).trans er548
        refine g_lineS C0 (hLt_ok g _ _ _ _) (xl_W C0 E0 0 1 rfl rfl 3 rfl) (P := [(a11, .inr (0, [.ref w11, .int 0, .int 0, .int 0])), (w11, .inl (cB, t11n, .inl f11)), (a12, .inr (0, [.ref w12, .int 0, .int 0, .int 0])), (w12, .inl (cB, t12n, .inl f12))]) (X := labX cB cC cI cO L0 ua r547.2) (X1 := labX cB cC cI cO L0 ua r547.2) (As := [.ref L0, .int r547.1, .ref a11]) (st := []) (mL_isLine l hl0 D cB cC cI cO g L0 ua r547.2 a11 w11 t11n f11 r547.1 r548 (Nat.lt_of_le_of_lt hc11.1 (by decide)) hc11.2 lr548) hmL_isLine q_832 ⟨Nat.le_of_ble_eq_true rfl, Nat.le_of_ble_eq_true rfl⟩ rfl rfl ⟨by omega, by omega⟩ rfl rfl rfl rfl (Nat.le_of_ble_eq_true rfl) dL_law_925 ?_
        refine g_if_eq C0 (tgt := 944) dL_law_928 (by decide) (fun c549 => ?_) (fun c549 => ?_)
        · rw [if_pos c549] at hf
          refine g_iconst C0 (v := (0 : Int32)) dL_law_944 (by decide) ?_
          cases hf
        · rw [if_neg c549] at hf
          refine g_aload_n C0 dL_law_931 rfl 1 rfl ?_
          refine g_aload_n C0 dL_law_932 rfl 1 rfl ?_
          obtain ⟨r550, er550, hf⟩ := hl_bd hf
          refine g_sufi C0 (P := [(a11, .inr (0, [.ref w11, .int 0, .int 0, .int 0])), (w11, .inl (cB, t11n, .inl f11)), (a12, .inr (0, [.ref w12, .int 0, .int 0, .int 0])), (w12, .inl (cB, t12n, .inl f12))]) (X := labX cB cC cI cO L0 ua r547.2) (X1 := labX cB cC cI cO L0 ua r550.2) (As := []) (st := [.ref L0]) (mg_writeKeys l D cB cC cI cO L0 ua r547.2  r550 er550) hmX6_writeKeys q_655 ⟨Nat.le_of_ble_eq_true rfl, Nat.le_of_ble_eq_true rfl⟩ ⟨by omega, by omega⟩ rfl rfl rfl rfl rfl 0 rfl rfl rfl (Nat.le_of_ble_eq_true rfl) dL_law_933 ?_
          refine g_aload C0 dL_law_936 7 rfl ?_
          obtain ⟨r551, er551, hf⟩ := hl_bd hf
          have lr551 : fL_isLine r550.2 t12n f12 r550.1 = some r551 := (line_cong hx12).trans er551
          refine g_lineS C0 (hLt_ok g _ _ _ _) (xl_W C0 E0 2 3 rfl rfl 3 rfl) (P := [(a11, .inr (0, [.ref w11, .int 0, .int 0, .int 0])), (w11, .inl (cB, t11n, .inl f11)), (a12, .inr (0, [.ref w12, .int 0, .int 0, .int 0])), (w12, .inl (cB, t12n, .inl f12))]) (X := labX cB cC cI cO L0 ua r550.2) (X1 := labX cB cC cI cO L0 ua r550.2) (As := [.ref L0, .int r550.1, .ref a12]) (st := []) (mL_isLine l hl0 D cB cC cI cO g L0 ua r550.2 a12 w12 t12n f12 r550.1 r551 (Nat.lt_of_le_of_lt hc12.1 (by decide)) hc12.2 lr551) hmL_isLine q_832 ⟨Nat.le_of_ble_eq_true rfl, Nat.le_of_ble_eq_true rfl⟩ rfl rfl ⟨by omega, by omega⟩ rfl rfl rfl rfl (Nat.le_of_ble_eq_true rfl) dL_law_938 ?_
          refine g_if_ne C0 (tgt := 946) dL_law_941 (by decide) (fun c552 => ?_) (fun c552 => ?_)
          · rw [if_neg c552] at hf
            refine g_iload C0 dL_law_946 4 rfl ?_
            refine g_if_le C0 (tgt := 983) dL_law_948 (by decide) (fun c553 => ?_) (fun c553 => ?_)
            · rw [if_pos c553] at hf
              refine g_ordP (P := [(a11, .inr (0, [.ref w11, .int 0, .int 0, .int 0])), (w11, .inl (cB, t11n, .inl f11)), (a12, .inr (0, [.ref w12, .int 0, .int 0, .int 0])), (w12, .inl (cB, t12n, .inl f12))]) (P' := []) (X := labX cB cC cI cO L0 ua r550.2) [] rfl rfl rfl ?_
              refine g_lv [0, 1, 2] (lv' := [(0, .ref g.2.2.1), (1, .ref L0), (2, .int v2)]) rfl ?_
              exact bL_law_983 C0 E0 hl0 K0 hK0 KE L0 ua out rec15 hrec15   r550.2 v2  _ _ hf (by omega) (by omega)
            · rw [if_neg c553] at hf
              refine g_aload_n C0 dL_law_951 rfl 1 rfl ?_
              obtain ⟨r554, er554, hf⟩ := hl_bd hf
              obtain ⟨z555, ez555, hf⟩ := hl_inl hf
              have kr554 := mg_meanProbes l hl0 D cB cC cI cO L0 ua r550.2  r554 er554
              rw [ez555] at kr554
              refine g_sufNd C0 E0.1.1 (P := [(a11, .inr (0, [.ref w11, .int 0, .int 0, .int 0])), (w11, .inl (cB, t11n, .inl f11)), (a12, .inr (0, [.ref w12, .int 0, .int 0, .int 0])), (w12, .inl (cB, t12n, .inl f12))]) (X := labX cB cC cI cO L0 ua r550.2) (X1 := labX cB cC cI cO L0 ua r550.2) (As := []) (st := []) kr554 hmX6_meanProbes q_494 ⟨Nat.le_of_ble_eq_true rfl, Nat.le_of_ble_eq_true rfl⟩ ⟨by omega, by omega⟩ rfl rfl rfl rfl rfl 0 rfl rfl rfl (Nat.le_of_ble_eq_true rfl) dL_law_952 ?_
              refine g_iload C0 dL_law_955 5 rfl ?_
              refine g_i2d C0 dL_law_957 ?_
              refine g_iload C0 dL_law_958 4 rfl ?_
              refine g_i2d C0 dL_law_960 ?_
              obtain ⟨n556, hf⟩ := hl_ifS hf
              refine g_ddiv C0 dL_law_961 (hl_n64P n556) ?_
              refine g_dcmp C0 dL_law_962 ?_
              refine g_if_ne C0 (tgt := 981) dL_law_963 (by decide) (fun c557 => ?_) (fun c557 => ?_)
              · rw [if_neg c557] at hf
                refine g_iconst C0 (v := (0 : Int32)) dL_law_981 (by decide) ?_
                cases hf
              · rw [if_pos c557] at hf
                refine g_aload_n C0 dL_law_966 rfl 1 rfl ?_
                obtain ⟨r558, er558, hf⟩ := hl_bd hf
                obtain ⟨z559, ez559, hf⟩ := hl_inl hf
                have kr558 := mg_meanProbesBits l hl0 D cB cC cI cO L0 ua r550.2  r558 er558
                rw [ez559] at kr558
                refine g_sufNl C0 E0.1.1 (P := [(a11, .inr (0, [.ref w11, .int 0, .int 0, .int 0])), (w11, .inl (cB, t11n, .inl f11)), (a12, .inr (0, [.ref w12, .int 0, .int 0, .int 0])), (w12, .inl (cB, t12n, .inl f12))]) (X := labX cB cC cI cO L0 ua r550.2) (X1 := labX cB cC cI cO L0 ua r550.2) (As := []) (st := []) kr558 hmX6_meanProbesBits q_518 ⟨Nat.le_of_ble_eq_true rfl, Nat.le_of_ble_eq_true rfl⟩ ⟨by omega, by omega⟩ rfl rfl rfl rfl rfl 0 rfl rfl rfl (Nat.le_of_ble_eq_true rfl) dL_law_967 ?_
                refine g_aload_n C0 dL_law_970 rfl 1 rfl ?_
                obtain ⟨r560, er560, hf⟩ := hl_bd hf
                obtain ⟨z561, ez561, hf⟩ := hl_inl hf
                have kr560 := mg_meanProbes l hl0 D cB cC cI cO L0 ua r550.2  r560 er560
                rw [ez561] at kr560
                refine g_sufNd C0 E0.1.1 (P := [(a11, .inr (0, [.ref w11, .int 0, .int 0, .int 0])), (w11, .inl (cB, t11n, .inl f11)), (a12, .inr (0, [.ref w12, .int 0, .int 0, .int 0])), (w12, .inl (cB, t12n, .inl f12))]) (X := labX cB cC cI cO L0 ua r550.2) (X1 := labX cB cC cI cO L0 ua r550.2) (As := []) (st := [.long z559]) kr560 hmX6_meanProbes q_494 ⟨Nat.le_of_ble_eq_true rfl, Nat.le_of_ble_eq_true rfl⟩ ⟨by omega, by omega⟩ rfl rfl rfl rfl rfl 0 rfl rfl rfl (Nat.le_of_ble_eq_true rfl) dL_law_971 ?_
                obtain ⟨r562, er562, hf⟩ := hl_bd hf
                refine g_l0pl C0 (mJxe99ae_doubleToLongBits_ccdee l D cB cC cI cO z561 r562 er562) hmJxe99ae_doubleToLongBits_ccdee q_892 ⟨Nat.le_of_ble_eq_true rfl, Nat.le_of_ble_eq_true rfl⟩ ⟨by omega, by omega⟩ rfl rfl rfl rfl (Nat.le_of_ble_eq_true rfl) dL_law_974 ?_
                refine g_lcmp C0 dL_law_977 ?_
                refine g_if_eq C0 (tgt := 983) dL_law_978 (by decide) (fun c563 => ?_) (fun c563 => ?_)
                · rw [if_pos c563] at hf
                  refine g_ordP (P := [(a11, .inr (0, [.ref w11, .int 0, .int 0, .int 0])), (w11, .inl (cB, t11n, .inl f11)), (a12, .inr (0, [.ref w12, .int 0, .int 0, .int 0])), (w12, .inl (cB, t12n, .inl f12))]) (P' := []) (X := labX cB cC cI cO L0 ua r550.2) [] rfl rfl rfl ?_
                  refine g_lv [0, 1, 2] (lv' := [(0, .ref g.2.2.1), (1, .ref L0), (2, .int v2)]) rfl ?_
                  exact bL_law_983 C0 E0 hl0 K0 hK0 KE L0 ua out rec15 hrec15   r550.2 v2  _ _ hf (by omega) (by omega)
                · rw [if_neg c563] at hf
                  refine g_iconst C0 (v := (0 : Int32)) dL_law_981 (by decide) ?_
                  cases hf
          · rw [if_pos c552] at hf
            refine g_iconst C0 (v := (0 : Int32)) dL_law_944 (by decide) ?_
            cases hf
