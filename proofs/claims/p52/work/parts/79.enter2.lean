/-! what entering a key makes of the slots, without the values -/
def rbK (c kd sd : Nat) (K : Nat → Int32) : Nat → Int32 := (rbN c kd sd K K 64 (0, 0, eK K, K) 0).2.2.1
def eN (c kd sd lm fu tb : Nat) (K : Nat → Int32) (k : Nat) : Nat × Nat × Nat × (Nat → Int32) := if K (hs c kd sd K k) = II k then (c, fu, tb, K) else if 100 * (fu + tb + 1) ≤ lm * c then (c, fu + 1, pT c kd sd tb K k, pK c kd sd K k) else if 100 * (fu + 1) ≤ lm * nc c lm fu then (nc c lm fu, fu + 1, pT (nc c lm fu) kd sd 0 (rbK (nc c lm fu) kd sd K) k, pK (nc c lm fu) kd sd (rbK (nc c lm fu) kd sd K) k) else (c, fu, tb, K)
theorem rbN_K {c kd sd : Nat} {OK OV OK2 OV2 : Nat → Int32} (ho : ∀ i, i < 64 → OK i = OK2 i) : ∀ (n j a b : Nat) (K V V2 : Nat → Int32), j + n = 64 → (rbN c kd sd OK OV n (a, b, K, V) j).2.2.1 = (rbN c kd sd OK2 OV2 n (a, b, K, V2) j).2.2.1
  | 0, _, _, _, _, _, _, _ => rfl
  | n + 1, j, a, b, K, V, V2, h => by
    unfold rbN
    rw [ho j (by omega)]
    by_cases e : OK2 j < 0
    · rw [if_pos e, if_pos e]
      exact rbN_K ho n (j + 1) a b K V V2 (by omega)
    · rw [if_neg e, if_neg e]
      exact rbN_K ho n (j + 1) _ _ _ _ _ (by omega)
theorem e_rebuild {c c' kd0 kd sd0 sd lm fu tb : Nat} {K V O W : Nat → Int32} (h : Inv c kd0 sd0 lm fu tb K V) (hc' : cOK c') (hkd : kd ≤ 2) (hsd : sd ≤ 999) (hf : fu < c') (rb gr : Int32) :
    ∃ V', fX5_rebuildWith (II c) (II kd) (II sd) (II fu) (II tb) rb gr K V O W (II c') = some (II c', II fu, II 0, rb + 1, if c' ≤ c then gr else gr + 1, rbK c' kd sd K, V', va_cpy K O 0 0 64, va_cpy V W 0 0 64) ∧ Inv c' kd sd lm fu 0 (rbK c' kd sd K) V' ∧
      (∀ t, t < 64 → 0 ≤ rbK c' kd sd K t → ∃ s, s < 64 ∧ K s = rbK c' kd sd K t) := by
  have hO : OKs c' (va_cpy K O 0 0 64) (va_cpy V W 0 0 64) := (h.oks hf).cong (fun s hs => cpy_at hs) (fun s hs => cpy_at hs)
  have h0 := RI.zero (K := K) (V := V) (OK := va_cpy K O 0 0 64) (OV := va_cpy V W 0 0 64) hc' hkd hsd h.lm9
  have hA := RI.all hO 64 0 (0, 0, eK K, V) rfl h0
  have hcl := fun rb gr => c_rebuild_65 hO rb gr 1000 0 (0, 0, eK K, V) (by omega) (by omega) h0
  have hK := rbN_K (c := c') (kd := kd) (sd := sd) (OK := va_cpy K O 0 0 64) (OV := va_cpy V W 0 0 64) (OK2 := K) (OV2 := K) (fun i hi => cpy_at hi) 64 0 0 0 (eK K) V K rfl
  rw [Nat.sub_zero] at hcl
  generalize rbN c' kd sd (va_cpy K O 0 0 64) (va_cpy V W 0 0 64) 64 (0, 0, eK K, V) 0 = st at hA hcl hK
  obtain ⟨fu1, tb1, K1, V1⟩ := st
  have hK : K1 = rbK c' kd sd K := hK
  subst hK
  obtain ⟨g1, g2, g3, g4, g5⟩ := hA
  have efu : fu1 = fu := by
    rw [← h.cfu]
    have g3' : fu1 = cnt (fun s => decide (0 ≤ va_cpy K O 0 0 64 s)) 64 := g3
    rw [g3']
    exact cnt_cong (fun s hs => by rw [cpy_at hs])
  have etb : tb1 = 0 := g2
  subst efu
  subst etb
  have hle : (II c' ≤ II c) ↔ c' ≤ c := n_le hc'.lt h.cok.lt
  refine ⟨V1, ?_, g1, fun t ht h1 => ?_⟩
  · unfold fX5_rebuildWith fX5_rebuildWith_58
    rw [c_empty, ob]
    by_cases e : c' ≤ c
    · rw [if_pos (hle.mpr e), if_pos e]
      exact hcl (rb + 1) gr
    · rw [if_neg (fun e2 => e (hle.mp e2)), if_neg e, ob]
      exact hcl (rb + 1) (gr + 1)
  · obtain ⟨s, hs, e⟩ := g4 t ht h1
    exact ⟨s, hs, by rw [cpy_at hs] at e; exact e⟩
theorem e_enter {c kd sd lm fu tb k : Nat} {K V : Nat → Int32} {v : Int32} (h : Inv c kd sd lm fu tb K V) (hk : k ≤ 9999) (hv : (-999 : Int32) ≤ v ∧ v ≤ (999 : Int32)) (O W : Nat → Int32) (rb gr : Int32) :
    ∃ r d6 d7 V' O' W', fX5_enter (II c) (II kd) (II sd) (II lm) (II fu) (II tb) rb gr K V O W (II k) v = some (r, II (eN c kd sd lm fu tb K k).1, II (eN c kd sd lm fu tb K k).2.1, II (eN c kd sd lm fu tb K k).2.2.1, rb + d6, gr + d7, (eN c kd sd lm fu tb K k).2.2.2, V', O', W') ∧
      Inv (eN c kd sd lm fu tb K k).1 kd sd lm (eN c kd sd lm fu tb K k).2.1 (eN c kd sd lm fu tb K k).2.2.1 (eN c kd sd lm fu tb K k).2.2.2 V' ∧ ((d6 = 0 ∧ d7 = 0) ∨ (d6 = 1 ∧ (d7 = 0 ∨ d7 = 1))) ∧
      (r = 1 ∨ (r = 0 ∧ eN c kd sd lm fu tb K k = (c, fu, tb, K))) ∧ (r = 0 ↔ K (hs c kd sd K k) ≠ II k ∧ ¬ 100 * (fu + tb + 1) ≤ lm * c ∧ ¬ 100 * (fu + 1) ≤ lm * nc c lm fu) := by
  have hc := h.cok
  have h64 := hc.le
  have h8 := hc.ge
  have hl := h.lm9.2
  have hft := h.ft
  have hs9 := hs_64 (kd := kd) (sd := sd) (K := K) (k := k) hc
  unfold fX5_enter
  rw [c_hold hc h.kd2 h.sd9 hk h.emp, ob]
  by_cases e : K (hs c kd sd K k) = II k
  · have q : eN c kd sd lm fu tb K k = (c, fu, tb, K) := by
      unfold eN
      rw [if_pos e]
    rw [if_pos e, c_rows hs9, ob, if_neg i1n0, if_pos (n_in (by omega) hs9), n_cl (by omega), q]
    exact ⟨1, 0, 0, upd V (hs c kd sd K k) v, O, W, by rw [Int32.add_zero, Int32.add_zero], h.setV hv, Or.inl ⟨rfl, rfl⟩, Or.inl rfl, ⟨fun e2 => absurd e2 (by decide), fun e2 => absurd e e2.1⟩⟩
  · have habs := h.absent hk e
    rw [if_neg e, c_rowsN, ob, if_pos rfl, c_room hc hl hft, ob, c_need hc hl hft, ob]
    by_cases hA : 100 * (fu + tb + 1) ≤ lm * c
    · have q : eN c kd sd lm fu tb K k = (c, fu + 1, pT c kd sd tb K k, pK c kd sd K k) := by
        unfold eN
        rw [if_neg e, if_pos hA]
      rw [if_pos hA, if_pos hA, if_neg i1n0, if_pos rfl, c_place h hk, ob, q]
      exact ⟨1, 0, 0, pV c kd sd K V k v, O, W, by rw [Int32.add_zero, Int32.add_zero], h.place hk habs (lm_lt hl h8 hA) hv, Or.inl ⟨rfl, rfl⟩, Or.inl rfl, ⟨fun e2 => absurd e2 (by decide), fun e2 => absurd hA e2.2.1⟩⟩
    · rw [if_neg hA, if_neg hA]
      by_cases hB : 100 * (fu + 1) ≤ lm * nc c lm fu
      · have q : eN c kd sd lm fu tb K k = (nc c lm fu, fu + 1, pT (nc c lm fu) kd sd 0 (rbK (nc c lm fu) kd sd K) k, pK (nc c lm fu) kd sd (rbK (nc c lm fu) kd sd K) k) := by
          unfold eN
          rw [if_neg e, if_neg hA, if_pos hB]
        have hroom := lm_lt hl (nc_ok (lm := lm) (fu := fu) hc).ge hB
        rw [if_pos hB, if_neg i1n0, if_neg i1n0, c_next hc hl (by omega), ob, q]
        obtain ⟨V1, g1, g2, g4⟩ := e_rebuild (c' := nc c lm fu) (kd := kd) (sd := sd) (O := O) (W := W) h (nc_ok hc) h.kd2 h.sd9 (by omega) rb gr
        have habs1 : ∀ s, s < 64 → rbK (nc c lm fu) kd sd K s ≠ II k := fun s hs e2 => by
          obtain ⟨t, ht, e3⟩ := g4 s hs (by rw [e2]; exact n_0le (by omega))
          exact habs t ht (e3.trans e2)
        rw [g1, ob]
        refine ⟨1, 1, if nc c lm fu ≤ c then 0 else 1, pV (nc c lm fu) kd sd (rbK (nc c lm fu) kd sd K) V1 k v, va_cpy K O 0 0 64, va_cpy V W 0 0 64, ?_, g2.place hk habs1 (by omega) hv, Or.inr ⟨rfl, by split <;> first | exact Or.inl rfl | exact Or.inr rfl⟩, Or.inl rfl, ⟨fun e2 => absurd e2 (by decide), fun e2 => absurd hB e2.2.2⟩⟩
        show ((fX5_place (II (nc c lm fu)) (II kd) (II sd) (II fu) (II 0) (rbK (nc c lm fu) kd sd K) V1 (II k) v).bind fun r11 => _) = _
        rw [c_place g2 hk, ob]
        by_cases h5 : nc c lm fu ≤ c
        · rw [if_pos h5, if_pos h5, Int32.add_zero]
        · rw [if_neg h5, if_neg h5]
      · have q : eN c kd sd lm fu tb K k = (c, fu, tb, K) := by
          unfold eN
          rw [if_neg e, if_neg hA, if_neg hB]
        rw [if_neg hB, if_pos rfl, q]
        exact ⟨0, 0, 0, V, O, W, by rw [Int32.add_zero, Int32.add_zero], h, Or.inl ⟨rfl, rfl⟩, Or.inr ⟨rfl, rfl⟩, ⟨fun _ => ⟨e, hA, hB⟩, fun _ => rfl⟩⟩
/-! rows that agree where they count -/
def E64 (K K' : Nat → Int32) : Prop := ∀ s, s < 64 → K s = K' s
theorem a_fs {c kd sd k : Nat} {K K' : Nat → Int32} (hc : cOK c) (h : E64 K K') : fs c kd sd K k = fs c kd sd K' k := fi_cong (fun i _ _ => by
  unfold ps
  rw [h _ (sq_64 hc)])
theorem a_fz {c kd sd k : Nat} {K K' : Nat → Int32} (hc : cOK c) (h : E64 K K') : fz c kd sd K k = fz c kd sd K' k := fi_cong (fun i _ _ => by
  unfold pz
  rw [h _ (sq_64 hc)])
theorem a_zs {c kd sd k : Nat} {K K' : Nat → Int32} (hc : cOK c) (h : E64 K K') : zs c kd sd K k = zs c kd sd K' k := by
  unfold zs
  rw [a_fz hc h]
theorem a_hs {c kd sd k : Nat} {K K' : Nat → Int32} (hc : cOK c) (h : E64 K K') : hs c kd sd K k = hs c kd sd K' k := by
  unfold hs
  rw [a_fs hc h]
theorem a_pK {c kd sd k : Nat} {K K' : Nat → Int32} (hc : cOK c) (h : E64 K K') : E64 (pK c kd sd K k) (pK c kd sd K' k) := fun s hs => by
  unfold pK
  rw [a_zs hc h]
  by_cases e : s = zs c kd sd K' k
  · rw [e, upd_at, upd_at]
  · rw [upd_ne e, upd_ne e]
    exact h s hs
theorem a_pT {c kd sd tb k : Nat} {K K' : Nat → Int32} (hc : cOK c) (h : E64 K K') : pT c kd sd tb K k = pT c kd sd tb K' k := by
  unfold pT
  rw [a_zs hc h, h _ (zs_64 hc)]
theorem a_rbN {c kd sd : Nat} {OK OV OK2 OV2 : Nat → Int32} (hc : cOK c) (ho : E64 OK OK2) : ∀ (n j a b : Nat) (K K2 V V2 : Nat → Int32), j + n = 64 → E64 K K2 → E64 (rbN c kd sd OK OV n (a, b, K, V) j).2.2.1 (rbN c kd sd OK2 OV2 n (a, b, K2, V2) j).2.2.1
  | 0, _, _, _, _, _, _, _, _, h => h
  | n + 1, j, a, b, K, K2, V, V2, hj, h => by
    unfold rbN
    rw [ho j (by omega)]
    by_cases e : OK2 j < 0
    · rw [if_pos e, if_pos e]
      exact a_rbN hc ho n (j + 1) a b K K2 V V2 (by omega) h
    · rw [if_neg e, if_neg e, a_pT hc h]
      exact a_rbN hc ho n (j + 1) _ _ _ _ _ _ (by omega) (a_pK hc h)
theorem a_rbK {c kd sd : Nat} {K K' : Nat → Int32} (hc : cOK c) (h : E64 K K') : E64 (rbK c kd sd K) (rbK c kd sd K') := a_rbN hc h 64 0 0 0 (eK K) (eK K') K K' rfl (fun s hs => by rw [eK_at hs, eK_at hs])
theorem a_eN {c kd sd lm fu tb k : Nat} {K K' : Nat → Int32} (hc : cOK c) (h : E64 K K') : (eN c kd sd lm fu tb K k).1 = (eN c kd sd lm fu tb K' k).1 ∧ (eN c kd sd lm fu tb K k).2.1 = (eN c kd sd lm fu tb K' k).2.1 ∧ (eN c kd sd lm fu tb K k).2.2.1 = (eN c kd sd lm fu tb K' k).2.2.1 ∧ E64 (eN c kd sd lm fu tb K k).2.2.2 (eN c kd sd lm fu tb K' k).2.2.2 := by
  unfold eN
  rw [a_hs hc h, h _ (hs_64 hc)]
  split
  · exact ⟨rfl, rfl, rfl, h⟩
  · split
    · exact ⟨rfl, rfl, a_pT hc h, a_pK hc h⟩
    · split
      · exact ⟨rfl, rfl, a_pT (nc_ok hc) (a_rbK (nc_ok hc) h), a_pK (nc_ok hc) (a_rbK (nc_ok hc) h)⟩
      · exact ⟨rfl, rfl, rfl, h⟩
