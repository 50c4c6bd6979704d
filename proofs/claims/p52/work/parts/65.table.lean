/-! whole operations on a table, of both -/
theorem r_relays_50 {c kd sd lm : Nat} {OK OV : Nat → Int32} (hO : OKs c OK OV) : ∀ (n j : Nat) (st : rST) (mex mfr : Int32) (mA : Nat → Int32), j ≤ 64 → 64 - j < n → RI c kd sd lm OK OV j st → Rw 0 c kd sd lm st.1 st.2.1 st.2.2.1 st.2.2.2 mA →
    (∀ s, s < 64 → (OK s < 0 ∧ mA (2408 + 3 * s) ≠ 1) ∨ (0 ≤ OK s ∧ mA (2408 + 3 * s) = 1 ∧ mA (2409 + 3 * s) = OK s ∧ mA (2410 + 3 * s) = OV s)) →
    ∃ mex' mfr' mA', fX7_relays_50 n mex mfr mA (II j) = some (mex', mfr', mA') ∧ Rw 0 c kd sd lm (rbN c kd sd OK OV (64 - j) st j).1 (rbN c kd sd OK OV (64 - j) st j).2.1 (rbN c kd sd OK OV (64 - j) st j).2.2.1 (rbN c kd sd OK OV (64 - j) st j).2.2.2 mA' ∧ ∀ i, 200 ≤ i ∨ i = 6 ∨ i = 7 → mA' i = mA i
  | 0, j, _, _, _, _, _, hn, _, _, _ => by omega
  | n + 1, j, st, mex, mfr, mA, hj, hn, h, hR, hold => by
    unfold fX7_relays_50
    by_cases h64 : 64 ≤ j
    · have e : j = 64 := by omega
      subst e
      rw [if_pos (by decide), Nat.sub_self]
      exact ⟨mex, mfr, mA, rfl, hR, fun _ _ => rfl⟩
    · have hjl : j < 64 := by omega
      have hs := RI.step hO h hjl
      have e1 : ∀ w, ((2408 : Int32) + ((3 : Int32) * II j)) + II w = II (2408 + 3 * j + w) := fun w => by
        show (II 2408 + (II 3 * II j)) + II w = _
        rw [n_mul, n_add, n_add]
      have z0 : ((2408 : Int32) + ((3 : Int32) * II j)) + (0 : Int32) = II (2408 + 3 * j) := e1 0
      have z1 : ((2408 : Int32) + ((3 : Int32) * II j)) + (1 : Int32) = II (2409 + 3 * j) := (e1 1).trans (congrArg II (by omega))
      have z2 : ((2408 : Int32) + ((3 : Int32) * II j)) + (2 : Int32) = II (2410 + 3 * j) := (e1 2).trans (congrArg II (by omega))
      rw [if_neg (fun e : (64 : Int32) ≤ II j => h64 ((n_le (a := 64) (by decide) (by omega)).mp e)), z0, z1, z2, if_pos (n_in (by omega) (by omega)), n_cl (by omega), show 64 - j = (64 - (j + 1)) + 1 from by omega]
      unfold rbN
      rcases hold j hjl with ⟨e, g⟩ | ⟨e, g1, g2, g3⟩
      · rw [if_pos e] at hs
        rw [if_neg g, if_pos e]
        unfold fX7_relays_96
        rw [show II j + (1 : Int32) = II (j + 1) from n_add j 1]
        exact r_relays_50 hO n (j + 1) st mex mfr mA (by omega) (by omega) hs hR hold
      · obtain ⟨k, hk, e2⟩ := hO.1.pos hjl e
        obtain ⟨hnew, hroom⟩ := RI.new hO h hjl hk e2
        rw [if_neg (i_nlt.mpr e)] at hs
        rw [if_pos g1, if_neg (i_nlt.mpr e), if_pos (n_in (by omega) (by omega)), if_pos (n_in (by omega) (by omega)), n_cl (by omega), n_cl (by omega), g2, g3]
        rw [e2, n_cl (by omega)] at hs ⊢
        obtain ⟨mex1, mfr1, hl⟩ := r_lays h.1 hR hk hnew mex mfr (v := OV j)
        rw [hl, ob]
        unfold fX7_relays_96
        rw [show II j + (1 : Int32) = II (j + 1) from n_add j 1]
        have hz := zs_64 (kd := kd) (sd := sd) (k := k) (K := st.2.2.1) h.1.cok
        have far := fun (i : Nat) (hi : 200 ≤ i ∨ (i < 8 ∧ i ≠ 1 ∧ i ≠ 2)) => rput_far (mA := mA) (tb := pT c kd sd st.2.1 st.2.2.1 k) (fu := st.1 + 1) (k := k) (v := OV j) hz hi
        obtain ⟨mex', mfr', mA', a1, a2, a3⟩ := r_relays_50 hO n (j + 1) (st.1 + 1, pT c kd sd st.2.1 st.2.2.1 k, pK c kd sd st.2.2.1 k, pV c kd sd st.2.2.1 st.2.2.2 k (OV j)) mex1 mfr1 _ (by omega) (by omega) hs
          (hR.put (fu' := st.1 + 1) (tb' := pT c kd sd st.2.1 st.2.2.1 k) (v := OV j) hz hk) (fun s hs9 => by
            rw [far _ (Or.inl (by omega)), far _ (Or.inl (by omega)), far _ (Or.inl (by omega))]
            exact hold s hs9)
        exact ⟨mex', mfr', mA', a1, a2, fun i hi => by rw [a3 i hi, far i (by omega)]⟩
theorem cpy_at {f g : Nat → Int32} {s : Nat} (h : s < 64) : va_cpy f g 0 0 64 s = f s := by
  unfold va_cpy
  rw [if_pos (by omega)]
  exact congrArg f (by omega)
theorem OKs.cong {c : Nat} {K V OK OV : Nat → Int32} (h : OKs c K V) (hk : ∀ s, s < 64 → OK s = K s) (hv : ∀ s, s < 64 → OV s = V s) : OKs c OK OV := by
  refine ⟨fun s hs => by rw [hk s hs]; exact h.1 s hs, fun s t hs ht h1 h2 => ?_, ?_, fun s hs h1 => ?_⟩
  · rw [hk s hs] at h1 h2
    rw [hk t ht] at h2
    exact h.2.1 s t hs ht h1 h2
  · rw [cnt_cong (q := fun s => decide (0 ≤ K s)) (fun s hs => by rw [hk s hs])]
    exact h.2.2.1
  · rw [hv s hs]
    rw [hk s hs] at h1
    exact h.2.2.2 s hs h1
theorem Inv.oks {c c' kd sd lm fu tb : Nat} {K V : Nat → Int32} (h : Inv c kd sd lm fu tb K V) (hf : fu < c') : OKs c' K V := ⟨h.kt, h.one, by rw [h.cfu]; exact hf, h.vals⟩
/-- the tables of both behind a rebuilding -/
theorem b_rebuild {c c' kd0 kd sd0 sd lm fu tb : Nat} {K V O W : Nat → Int32} (h : Inv c kd0 sd0 lm fu tb K V) (hc' : cOK c') (hkd : kd ≤ 2) (hsd : sd ≤ 999) (hf : fu < c') (rb gr : Int32) :
    ∃ K' V', fX5_rebuildWith (II c) (II kd) (II sd) (II fu) (II tb) rb gr K V O W (II c') = some (II c', II fu, II 0, rb + 1, if c' ≤ c then gr else gr + 1, K', V', va_cpy K O 0 0 64, va_cpy V W 0 0 64) ∧ Inv c' kd sd lm fu 0 K' V' ∧
      (∀ t, t < 64 → 0 ≤ K t → ∃ s, s < 64 ∧ K' s = K t) ∧ (∀ t, t < 64 → 0 ≤ K' t → ∃ s, s < 64 ∧ K s = K' t) ∧
      ∀ (mA : Nat → Int32) (mex mfr : Int32), Rw 0 c kd sd lm fu tb K V mA → ∃ mex' mfr' mA', fX7_relays mex mfr mA (II c') = some (mex', mfr', mA') ∧ Rw 0 c' kd sd lm fu 0 K' V' mA' ∧
        mA' 6 = mA 6 + 1 ∧ mA' 7 = (if c' ≤ c then mA 7 else mA 7 + 1) ∧ ∀ i, 200 ≤ i → i < 2400 → mA' i = mA i := by
  have hO : OKs c' (va_cpy K O 0 0 64) (va_cpy V W 0 0 64) := (h.oks hf).cong (fun s hs => cpy_at hs) (fun s hs => cpy_at hs)
  have h0 := RI.zero (K := K) (V := V) (OK := va_cpy K O 0 0 64) (OV := va_cpy V W 0 0 64) hc' hkd hsd h.lm9
  have hA := RI.all hO 64 0 (0, 0, eK K, V) rfl h0
  have hcl := fun rb gr => c_rebuild_65 hO rb gr 1000 0 (0, 0, eK K, V) (by omega) (by omega) h0
  have hrf := fun mex mfr mA => r_relays_50 hO 1000 0 (0, 0, eK K, V) mex mfr mA (by omega) (by omega) h0
  rw [Nat.sub_zero] at hcl hrf
  generalize rbN c' kd sd (va_cpy K O 0 0 64) (va_cpy V W 0 0 64) 64 (0, 0, eK K, V) 0 = st at hA hcl hrf
  obtain ⟨fu1, tb1, K1, V1⟩ := st
  obtain ⟨g1, g2, g3, g4, g5⟩ := hA
  have efu : fu1 = fu := by
    show fu1 = fu
    rw [← h.cfu]
    have g3' : fu1 = cnt (fun s => decide (0 ≤ va_cpy K O 0 0 64 s)) 64 := g3
    rw [g3']
    exact cnt_cong (fun s hs => by rw [cpy_at hs])
  have etb : tb1 = 0 := g2
  subst efu
  subst etb
  have hle : (II c' ≤ II c) ↔ c' ≤ c := n_le hc'.lt h.cok.lt
  refine ⟨K1, V1, ?_, g1, fun t ht h1 => ?_, fun t ht h1 => ?_, fun mA mex mfr hR => ?_⟩
  · unfold fX5_rebuildWith fX5_rebuildWith_58
    rw [c_empty, ob]
    by_cases e : c' ≤ c
    · rw [if_pos (hle.mpr e), if_pos e]
      exact hcl (rb + 1) gr
    · rw [if_neg (fun e2 => e (hle.mp e2)), if_neg e, ob]
      exact hcl (rb + 1) (gr + 1)
  · obtain ⟨s, hs, e⟩ := g5 t ht (by rw [cpy_at ht]; exact h1)
    exact ⟨s, hs, by rw [cpy_at ht] at e; exact e⟩
  · obtain ⟨s, hs, e⟩ := g4 t ht h1
    exact ⟨s, hs, by rw [cpy_at hs] at e; exact e⟩
  · have rows : ∀ (m1 : Nat → Int32), (∀ i, 200 ≤ i → m1 i = cpR mA 0 12 i) → ∀ s, s < 64 → (va_cpy K O 0 0 64 s < 0 ∧ m1 (2408 + 3 * s) ≠ 1) ∨ (0 ≤ va_cpy K O 0 0 64 s ∧ m1 (2408 + 3 * s) = 1 ∧ m1 (2409 + 3 * s) = va_cpy K O 0 0 64 s ∧ m1 (2410 + 3 * s) = va_cpy V W 0 0 64 s) := fun m1 hm s hs => by
      rw [hm _ (by omega), hm _ (by omega), hm _ (by omega), cpy_at hs, cpy_at hs,
        show 2408 + 3 * s = 200 * 12 + (8 + 3 * s) from by omega, show 2409 + 3 * s = 200 * 12 + (9 + 3 * s) from by omega, show 2410 + 3 * s = 200 * 12 + (10 + 3 * s) from by omega,
        cpR_in (by omega), cpR_in (by omega), cpR_in (by omega), Nat.mul_zero, Nat.zero_add, Nat.zero_add, Nat.zero_add]
      rcases hR.at hs with ⟨e, g⟩ | ⟨e, g⟩ | ⟨e, g⟩
      · rw [e, g]; exact Or.inl ⟨by decide, by decide⟩
      · rw [e, g]; exact Or.inl ⟨by decide, by decide⟩
      · exact Or.inr ⟨e, g⟩
    have low : ∀ i, i < 200 → cpR mA 0 12 i = mA i := fun i hi => cpR_out (by omega)
    have fin : ∀ (k0 : Int32) (g7 : Int32), mA 7 + k0 = g7 → ∃ mex' mfr' mA', fX7_relays_41 mex mfr (upd (cpR mA 0 12) 6 ((cpR mA 0 12) 6 + 1)) (II c') k0 ((upd (cpR mA 0 12) 6 ((cpR mA 0 12) 6 + 1)) 7) (7 : Int32) = some (mex', mfr', mA') ∧ Rw 0 c' kd sd lm fu1 0 K1 V1 mA' ∧
        mA' 6 = mA 6 + 1 ∧ mA' 7 = g7 ∧ ∀ i, 200 ≤ i → i < 2400 → mA' i = mA i := fun k0 g7 hg => by
      unfold fX7_relays_41
      rw [show hl_in (7 : Int32) 2600 = true from by decide, if_pos rfl, show (7 : Int32).toNatClampNeg = 7 from by decide, upd_ne (f := cpR mA 0 12) (j := 7) (by omega), low 7 (by omega), low 6 (by omega), hg]
      obtain ⟨m1, q1, q2, q3⟩ := r_empties (mA := upd (upd (cpR mA 0 12) 6 (mA 6 + 1)) 7 g7) (c := c') (kd := kd) (sd := sd) (lm := lm) (K := K) (V := V)
        (by rw [upd_ne (by omega), upd_ne (by omega), low _ (by omega)]; exact hR.c3) (by rw [upd_ne (by omega), upd_ne (by omega), low _ (by omega)]; exact hR.c4) (by rw [upd_ne (by omega), upd_ne (by omega), low _ (by omega)]; exact hR.c5)
      rw [q1, ob]
      have hm : ∀ i, 200 ≤ i → m1 i = cpR mA 0 12 i := fun i hi => by rw [q3 i (Or.inr hi), upd_ne (by omega), upd_ne (by omega)]
      obtain ⟨mex', mfr', mA', a1, a2, a3⟩ := hrf mex mfr m1 q2 (rows m1 hm)
      refine ⟨mex', mfr', mA', a1, a2, ?_, ?_, fun i hi hi2 => ?_⟩
      · rw [a3 6 (Or.inr (Or.inl rfl)), q3 6 (Or.inl (by omega)), upd_ne (by omega)]; exact upd_at _ _ _
      · rw [a3 7 (Or.inr (Or.inr rfl)), q3 7 (Or.inl (by omega))]; exact upd_at _ _ _
      · rw [a3 i (Or.inl hi), hm i hi]; exact cpR_out (by omega)
    unfold fX7_relays
    rw [show fX7_copies mA (0 : Int32) (12 : Int32) = some (cpR mA 0 12) from r_copies (a := 0) (b := 12) mA (by omega) (by omega) (by omega), ob, upd_ne (f := cpR mA 0 12) (j := 0) (by omega), low 0 (by omega), hR.c0]
    by_cases e : c' ≤ c
    · rw [if_pos (hle.mpr e), if_pos e]
      exact fin 0 (mA 7) (Int32.add_zero _)
    · rw [if_neg (fun e2 => e (hle.mp e2)), if_neg e]
      exact fin 1 (mA 7 + 1) rfl
