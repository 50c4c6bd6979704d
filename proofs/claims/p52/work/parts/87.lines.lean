/-! the class's two lines, and the law's comparison with a text -/
theorem o_charAt {v : LV} {n i : Nat} (hv : v.1 40 = II n) (hn : n ≤ 640) (hi : i < n) (hc : hl_nar .char (v.2.1 20 i) = true) : gl_charAt v (II i) = some (.inl (v.2.1 20 i)) := by
  have hs : fX3_signAt (v.2.1 20) (II i) = some (v.2.1 20 i) := by
    unfold fX3_signAt
    rw [if_neg (n_nlt0 (by omega)), if_neg (fun e : (640 : Int32) ≤ II i => by have := (n_le (a := 640) (by decide) (by omega)).mp e; omega), if_pos (n_in (by omega) (by omega)), n_cl (by omega), if_pos hc]
  unfold gl_charAt fX6_charAt
  rw [hv, if_neg (n_nlt0 (by omega)), if_pos ((n_lt (by omega) (by omega)).mpr hi), hs, ob, if_pos hc]
theorem y_line12 {v : LV} {n : Nat} {tf : Nat → Int32} (hv : v.1 40 = II n) (hn : n ≤ 640) (h1 : ∀ i, i < n → v.2.1 20 i = tf i) (h2 : ∀ i, i < n → hl_nar .char (v.2.1 20 i) = true) : ∀ m i, i ≤ n → n - i < m → fL_isLine_12 n tf m v (II n) (II i) = some 1
  | 0, i, _, hm => by omega
  | m + 1, i, hi, hm => by
    rw [fL_isLine_12]
    by_cases e : n ≤ i
    · rw [if_pos ((n_le (by omega) (by omega)).mpr e)]
    · rw [if_neg (fun e3 => e ((n_le (by omega) (by omega)).mp e3)), o_charAt hv hn (by omega) (h2 i (by omega)), ob, o_iD, if_pos (n_in (by omega) (by omega)), n_cl (by omega), if_pos (h1 i (by omega)), show II i + (1 : Int32) = II (i + 1) from n_add i 1]
      exact y_line12 hv hn h1 h2 m (i + 1) (by omega) (by omega)
theorem y_line {v : LV} {n : Nat} {tf : Nat → Int32} (hv : v.1 40 = II n) (hn : n ≤ 640) (h1 : ∀ i, i < n → v.2.1 20 i = tf i) (h2 : ∀ i, i < n → hl_nar .char (v.2.1 20 i) = true) : fL_isLine v n tf (II n) = some 1 := by
  unfold fL_isLine
  rw [if_pos rfl]
  exact y_line12 hv hn h1 h2 702 0 (Nat.zero_le _) (by omega)
theorem y_slots9 {c kd sd lm fu tb : Nat} {K V : Nat → Int32} (hI : Inv c kd sd lm fu tb K V) : ∀ n i (lS : Nat → Int32), i ≤ c → c - i < n → (∀ t, t < i → lS t = chN c kd sd K t) → ∃ lS', fX6_writeSlots_9 n (II c) (II kd) (II sd) K (II i) lS (II i) = some (II c, II c, lS') ∧ ∀ t, t < c → lS' t = chN c kd sd K t
  | 0, i, _, _, hn, _ => by omega
  | n + 1, i, lS, hi, hn, hL => by
    have h64 := hI.cok.le
    unfold fX6_writeSlots_9
    by_cases e : c ≤ i
    · have e2 : i = c := by omega
      subst e2
      rw [if_pos ((n_le hI.cok.lt hI.cok.lt).mpr e)]
      exact ⟨lS, rfl, hL⟩
    · have ei : II i + (1 : Int32) = II (i + 1) := n_add i 1
      have hsg : ∃ x, fX6_signOf (II c) (II kd) (II sd) K (II i) = some x ∧ vp_nar .char x = chN c kd sd K i := by
        unfold fX6_signOf chN
        rw [c_content (by omega), ob]
        rcases hI.kt i (by omega) with g | g | ⟨k, hk, g⟩
        · rw [if_pos g, if_pos g, if_pos (by decide)]
          exact ⟨46, rfl, y_45.2.2.2.1⟩
        · have g2 : ¬ K i = -1 := by rw [g]; decide
          rw [if_neg g2, if_neg g2, ob, if_pos g, if_pos g, if_pos (by decide)]
          exact ⟨120, rfl, y_45.2.2.2.2.1⟩
        · have g1 : ¬ K i = -1 := by rw [g]; exact n_ne1 (by omega)
          have g2 : ¬ K i = -2 := by rw [g]; exact n_ne2 (by omega)
          have hm := muN_le (s := i) hI
          have hmu : fs c kd sd K k + 1 = muN c kd sd K i := by
            unfold muN
            rw [g, n_cl (by omega)]
          rw [if_neg g1, if_neg g1, ob, if_neg g2, if_neg g2, ob, g, c_search hI.cok hI.kd2 hI.sd9 hk hI.emp, ob, hmu]
          by_cases z : muN c kd sd K i ≤ 9
          · rw [if_pos z, if_pos (show II (muN c kd sd K i) ≤ (9 : Int32) from (n_le (b := 9) (by omega) (by decide)).mpr z), if_pos (y_nar _ (by omega)).2.1]
            exact ⟨_, rfl, (y_nar _ (by omega)).1⟩
          · rw [if_neg z, if_neg (fun e9 : II (muN c kd sd K i) ≤ (9 : Int32) => z ((n_le (b := 9) (by omega) (by decide)).mp e9)), if_pos (by decide)]
            exact ⟨43, rfl, y_45.2.2.2.2.2⟩
      obtain ⟨x, q1, q2⟩ := hsg
      rw [if_neg (fun e3 => e ((n_le hI.cok.lt (by omega)).mp e3)), q1, ob, c_add (by omega), ob, ei]
      exact y_slots9 hI n (i + 1) _ (by omega) (by omega) (fun t ht => by
        show upd lS i (vp_nar .char x) t = _
        by_cases e4 : t = i
        · rw [e4, upd_at, q2]
        · rw [upd_ne e4]
          exact hL t (by omega))
theorem o_wSlots {N c kd sd lm fu tb : Nat} {v : LV} (h : LW N v c kd sd lm fu tb) : ∃ v', gl_writeSlots v = some (II c, v') ∧ LW N v' c kd sd lm fu tb ∧ v'.2.1 0 = v.2.1 0 ∧ v'.2.1 1 = v.2.1 1 ∧ v'.1 40 = II c ∧ ∀ t, t < c → v'.2.1 20 t = chN c kd sd (v.2.1 0) t := by
  obtain ⟨⟨a1, a2, a3, a4, a5, a6⟩, hI, hH, hC⟩ := h
  have h64 := hI.cok.le
  obtain ⟨lS', q1, q2⟩ := y_slots9 hI 1000 0 (v.2.1 20) (Nat.zero_le _) (by omega) (fun t ht => absurd ht (Nat.not_lt_zero _))
  have e6 : fX6_writeSlots (v.1 3) (v.1 4) (v.1 5) (v.2.1 0) (v.1 40) (v.2.1 20) = some (II c, II c, lS') := by
    rw [a1, a2, a3]
    exact q1
  have e7 := (o_bd e6 : gl_writeSlots v = _)
  exact ⟨_, e7, ⟨⟨a1, a2, a3, a4, a5, a6⟩, hI, hH, hC⟩, rfl, rfl, rfl, q2⟩
theorem y_keys11 {c kd sd lm fu tb : Nat} {K V : Nat → Int32} (hI : Inv c kd sd lm fu tb K V) : ∀ n j (b : Int32) (lS : Nat → Int32), j ≤ fu → fu - j < n → kPrev K c j b → (∀ i, i < kyN K V c j → lS i = kyF K V c j i) → ∃ lS', fX6_writeKeys_11 n (II c) (II kd) (II sd) (II fu) K V (II (kyN K V c j)) lS b (II j) = some (II (kyN K V c fu), II (kyN K V c fu), lS') ∧ ∀ i, i < kyN K V c fu → lS' i = kyF K V c fu i
  | 0, j, _, _, _, hn, _, _ => by omega
  | n + 1, j, b, lS, hj, hn, hP, hL => by
    have h64 := hI.cok.le
    have hft := hI.ft
    have hkn := kyN_le hI j hj
    unfold fX6_writeKeys_11
    by_cases e : fu ≤ j
    · have e2 : j = fu := by omega
      subst e2
      rw [if_pos ((n_le (by omega) (by omega)).mpr e)]
      exact ⟨lS, rfl, hL⟩
    · obtain ⟨s, hs1, hs0, hrk, hka⟩ := c_nextKey hI hP (by omega)
      have es := ksN_is hI hs1 hs0 hrk
      have hs6 : s < 64 := by omega
      obtain ⟨k, hk, ek⟩ := hI.kt.pos (s := s) hs6 hs0
      have hsi := hs_of hI hs6 hk ek
      obtain ⟨v1, v2⟩ := hI.vals s hs6 hs0
      have l1 : kLen (spN j) ≤ 1 := y_spl j
      have l2 : nLen (K s) ≤ 4 := by rw [ek]; exact y_klen hk
      have l3 : nLen (V s) ≤ 4 := y_vlen v1 v2
      have l5 : kLen 5 = 1 := rfl
      have main : ∀ lS1 : Nat → Int32, (∀ i, i < kyN K V c j + kLen (spN j) → lS1 i = tcat (kyN K V c j) (kyF K V c j) (kByt (spN j)) i) → ∃ lS', fX6_writeKeys_44 (fX6_writeKeys_11 n) (II c) (II kd) (II sd) (II fu) K V (II (kyN K V c j + kLen (spN j))) lS1 (K s) (II j) = some (II (kyN K V c fu), II (kyN K V c fu), lS') ∧ ∀ i, i < kyN K V c fu → lS' i = kyF K V c fu i := fun lS1 hL1 => by
        obtain ⟨lS2, p1, p2⟩ := y_val (n := kyN K V c j + kLen (spN j)) (x := K s) lS1 (by omega) (by rw [ek]; exact Int32.le_trans (by decide) (n_0le (by omega))) (by rw [ek]; exact (n_le (b := 9999) (by omega) (by decide)).mpr hk)
        have t1 : ∀ i, i < kyN K V c j + kLen (spN j) + nLen (K s) → lS2 i = tcat (kyN K V c j + kLen (spN j)) (tcat (kyN K V c j) (kyF K V c j) (kByt (spN j))) (nDig (K s)) i := fun i hi => (p2 i hi).trans (tcat_eq hL1 (fun _ _ => rfl) i hi)
        have t2 : ∀ i, i < kyN K V c j + kLen (spN j) + nLen (K s) + (0 + 1) → upd lS2 (kyN K V c j + kLen (spN j) + nLen (K s)) (vp_nar .char 61) i = tcat (kyN K V c j + kLen (spN j) + nLen (K s)) (tcat (kyN K V c j + kLen (spN j)) (tcat (kyN K V c j) (kyF K V c j) (kByt (spN j))) (nDig (K s))) (kByt 5) i := y_step (j := 0) (fun i hi => (t1 i hi).trans (tcat_lo hi).symm) y_45.2.1
        obtain ⟨lS4, p3, p4⟩ := y_val (n := kyN K V c j + kLen (spN j) + nLen (K s) + 1) (x := V s) (upd lS2 (kyN K V c j + kLen (spN j) + nLen (K s)) (vp_nar .char 61)) (by omega) v1 (Int32.le_trans v2 (by decide))
        have t3 : ∀ i, i < kyN K V c (j + 1) → lS4 i = kyF K V c (j + 1) i := fun i hi => by
          rw [kyN, es] at hi
          rw [kyF, es]
          exact (p4 i hi).trans (tcat_eq (n := kyN K V c j + kLen (spN j) + nLen (K s) + 1) t2 (fun _ _ => rfl) i hi)
        have hkn1 : kyN K V c (j + 1) = kyN K V c j + kLen (spN j) + nLen (K s) + 1 + nLen (V s) := by
          rw [kyN, es]
          rfl
        obtain ⟨lS', q1, q2⟩ := y_keys11 hI n (j + 1) (K s) lS4 (by omega) (by omega) (Or.inr ⟨s, hs1, hs0, rfl, by rw [hrk]⟩) t3
        refine ⟨lS', ?_, q2⟩
        rw [hkn1] at q1
        unfold fX6_writeKeys_44
        rw [p1, ob, c_add (by omega), ob, ek, c_hold hI.cok hI.kd2 hI.sd9 hk hI.emp, ob, hsi, if_pos ek, c_valueOf hs6, ob, ← ek, p3, ob, show II j + (1 : Int32) = II (j + 1) from n_add j 1]
        exact q1
      rw [if_neg (fun e3 => e ((n_le (by omega) (by omega)).mp e3)), hka, ob]
      by_cases hj0 : j = 0
      · subst hj0
        rw [if_pos (show II 0 ≤ (0 : Int32) by decide)]
        exact main lS (fun i hi => (hL i hi).trans (tcat_lo hi).symm)
      · have z : ¬ II j ≤ (0 : Int32) := fun e9 => hj0 (by have := (n_le (b := 0) (by omega) (by decide)).mp e9; omega)
        have sp : spN j = 4 := if_neg hj0
        rw [if_neg z, c_add (by omega), ob]
        rw [sp] at main
        exact main _ (y_step (n := kyN K V c j) (j := 0) (fun i hi => (hL i hi).trans (tcat_lo hi).symm) y_45.2.2.1)
theorem o_wKeys {N c kd sd lm fu tb : Nat} {v : LV} (h : LW N v c kd sd lm fu tb) : ∃ v', gl_writeKeys v = some (II (kyN (v.2.1 0) (v.2.1 1) c fu), v') ∧ LW N v' c kd sd lm fu tb ∧ v'.2.1 0 = v.2.1 0 ∧ v'.2.1 1 = v.2.1 1 ∧ v'.1 40 = II (kyN (v.2.1 0) (v.2.1 1) c fu) ∧ ∀ t, t < kyN (v.2.1 0) (v.2.1 1) c fu → v'.2.1 20 t = kyF (v.2.1 0) (v.2.1 1) c fu t := by
  obtain ⟨⟨a1, a2, a3, a4, a5, a6⟩, hI, hH, hC⟩ := h
  have h64 := hI.cok.le
  have hft := hI.ft
  obtain ⟨lS', q1, q2⟩ := y_keys11 hI 1000 0 (-1) (v.2.1 20) (Nat.zero_le _) (by omega) (Or.inl ⟨rfl, rfl⟩) (fun t ht => absurd ht (Nat.not_lt_zero _))
  have e6 : fX6_writeKeys (v.1 3) (v.1 4) (v.1 5) (v.1 7) (v.2.1 0) (v.2.1 1) (v.1 40) (v.2.1 20) = some (II (kyN (v.2.1 0) (v.2.1 1) c fu), II (kyN (v.2.1 0) (v.2.1 1) c fu), lS') := by
    rw [a1, a2, a3, a5]
    exact q1
  have e7 := (o_bd e6 : gl_writeKeys v = _)
  exact ⟨_, e7, ⟨⟨a1, a2, a3, a4, a5, a6⟩, hI, hH, hC⟩, rfl, rfl, rfl, q2⟩
