/-! entering a key, taking one out: both -/
def nc (c lm fu : Nat) : Nat := if 100 * (2 * (fu + 1)) ≤ lm * c then c else if c = 64 then 64 else 2 * c
theorem nc_ok {c lm fu : Nat} (h : cOK c) : cOK (nc c lm fu) := by
  unfold nc
  split
  · exact h
  · rcases h with rfl | rfl | rfl | rfl
    · exact Or.inr (Or.inl rfl)
    · exact Or.inr (Or.inr (Or.inl rfl))
    · exact Or.inr (Or.inr (Or.inr rfl))
    · exact Or.inr (Or.inr (Or.inr rfl))
theorem m_exc {lm a b : Nat} (hl : lm ≤ 90) (ha : a ≤ 1000) (hb : b ≤ 64) : ((100 : Int32) * II a ≤ II lm * II b) ↔ 100 * a ≤ lm * b := by
  have h1 : lm * b ≤ 90 * 64 := Nat.mul_le_mul hl hb
  show (II 100 * II a ≤ II lm * II b) ↔ _
  rw [n_mul, n_mul, n_le (by omega) (by omega)]
theorem c_exc {lm a b : Nat} (hl : lm ≤ 90) (ha : a ≤ 1000) (hb : b ≤ 64) : fX5_exceedsLimit (II lm) (II a) (II b) = some (if 100 * a ≤ lm * b then 0 else 1) := by
  unfold fX5_exceedsLimit
  by_cases h : 100 * a ≤ lm * b
  · rw [if_pos ((m_exc hl ha hb).mpr h), if_pos h]
  · rw [if_neg (fun e => h ((m_exc hl ha hb).mp e)), if_neg h]
theorem r_exc {lm a b : Nat} {mA : Nat → Int32} (h5 : mA 5 = II lm) (hl : lm ≤ 90) (ha : a ≤ 1000) (hb : b ≤ 64) : fX7_exceeds mA (II a) (II b) = some (if 100 * a ≤ lm * b then 0 else 1) := by
  unfold fX7_exceeds
  rw [h5]
  by_cases h : 100 * a ≤ lm * b
  · rw [if_pos ((m_exc hl ha hb).mpr h), if_pos h]
  · rw [if_neg (fun e => h ((m_exc hl ha hb).mp e)), if_neg h]
theorem lm_lt {lm a c : Nat} (hl : lm ≤ 90) (hc : 8 ≤ c) (h : 100 * a ≤ lm * c) : a < c := by
  have := Nat.mul_le_mul_right c hl
  omega
theorem c_need {c lm fu tb : Nat} (hc : cOK c) (hl : lm ≤ 90) (hf : fu + tb < c) : fX5_needsRebuild (II c) (II lm) (II fu) (II tb) = some (if 100 * (fu + tb + 1) ≤ lm * c then 0 else 1) := by
  have h64 := hc.le
  unfold fX5_needsRebuild
  rw [show (II fu + II tb) + (1 : Int32) = II (fu + tb + 1) from by rw [n_add]; exact n_add _ 1, c_exc hl (by omega) h64, ob]
  by_cases h : 100 * (fu + tb + 1) ≤ lm * c
  · rw [if_pos h, if_pos r_nar0]
  · rw [if_neg h, if_pos r_nar1]
theorem c_next {c lm fu : Nat} (hc : cOK c) (hl : lm ≤ 90) (hf : fu < 64) : fX5_nextCapacity (II c) (II lm) (II fu) = some (II (nc c lm fu)) := by
  have h64 := hc.le
  unfold fX5_nextCapacity nc
  rw [show (2 : Int32) * (II fu + (1 : Int32)) = II (2 * (fu + 1)) from by rw [show II fu + (1 : Int32) = II (fu + 1) from n_add fu 1]; exact n_mul 2 _, c_exc hl (by omega) h64, ob]
  by_cases h : 100 * (2 * (fu + 1)) ≤ lm * c
  · rw [if_pos h, if_pos h, if_pos rfl]
  · rw [if_neg h, if_neg h, if_neg i1n0]
    rcases hc with rfl | rfl | rfl | rfl <;> rfl
theorem c_room {c lm fu tb : Nat} (hc : cOK c) (hl : lm ≤ 90) (hf : fu + tb < c) : fX5_hasRoom (II c) (II lm) (II fu) (II tb) = some (if 100 * (fu + tb + 1) ≤ lm * c then 1 else if 100 * (fu + 1) ≤ lm * nc c lm fu then 1 else 0) := by
  have h64 := hc.le
  unfold fX5_hasRoom
  rw [c_need hc hl hf, ob]
  by_cases h : 100 * (fu + tb + 1) ≤ lm * c
  · rw [if_pos h, if_pos h, if_pos rfl]
  · rw [if_neg h, if_neg h, if_neg i1n0, c_next hc hl (by omega), ob, show II fu + (1 : Int32) = II (fu + 1) from n_add fu 1, c_exc hl (by omega) (nc_ok hc).le, ob]
    by_cases h2 : 100 * (fu + 1) ≤ lm * nc c lm fu
    · rw [if_pos h2, if_pos h2, if_pos rfl]
    · rw [if_neg h2, if_neg h2, if_neg i1n0]
theorem Inv.setV {c kd sd lm fu tb s : Nat} {K V : Nat → Int32} {v : Int32} (h : Inv c kd sd lm fu tb K V) (hv : (-999 : Int32) ≤ v ∧ v ≤ (999 : Int32)) : Inv c kd sd lm fu tb K (upd V s v) := by
  obtain ⟨a1, a2, a3, a4, a5, a6, a7, a8, a9, a10, a11, a12⟩ := h
  refine ⟨a1, a2, a3, a4, a5, a6, a7, a8, a9, a10, a11, fun t ht h1 => ?_⟩
  by_cases e : t = s
  · rw [e, upd_at]; exact hv
  · rw [upd_ne e]; exact a12 t ht h1
theorem Rw.setV {c kd sd lm fu tb s k : Nat} {K V mA : Nat → Int32} {v : Int32} (hR : Rw 0 c kd sd lm fu tb K V mA) (hs : s < 64) (hk : k ≤ 9999) (e : K s = II k) : Rw 0 c kd sd lm fu tb K (upd V s v) (upd (upd (upd mA (8 + 3 * s) 1) (9 + 3 * s) (II k)) (10 + 3 * s) v) := by
  have far : ∀ j, j < 8 → upd (upd (upd mA (8 + 3 * s) 1) (9 + 3 * s) (II k)) (10 + 3 * s) v j = mA j := fun j hj => by
    rw [upd_ne (by omega), upd_ne (by omega), upd_ne (by omega)]
  refine ⟨by rw [far 0 (by omega)]; exact hR.c0, by rw [far (0 + 1) (by omega)]; exact hR.c1, by rw [far (0 + 2) (by omega)]; exact hR.c2, by rw [far (0 + 3) (by omega)]; exact hR.c3, by rw [far (0 + 4) (by omega)]; exact hR.c4, by rw [far (0 + 5) (by omega)]; exact hR.c5, fun t ht => ?_⟩
  rw [show 0 + 8 + 3 * t = 8 + 3 * t from by omega, show 0 + 9 + 3 * t = 9 + 3 * t from by omega, show 0 + 10 + 3 * t = 10 + 3 * t from by omega]
  by_cases e2 : t = s
  · subst e2
    refine Or.inr (Or.inr ⟨by rw [e]; exact n_0le (by omega), ?_, ?_, ?_⟩)
    · rw [upd_ne (by omega), upd_ne (by omega), upd_at]
    · rw [upd_ne (by omega), upd_at, e]
    · rw [upd_at, upd_at]
  · rw [upd_ne e2, upd_ne (by omega), upd_ne (by omega), upd_ne (by omega), upd_ne (by omega), upd_ne (by omega), upd_ne (by omega), upd_ne (by omega), upd_ne (by omega), upd_ne (by omega)]
    exact hR.at ht
/-- nothing else holds the key -/
theorem Inv.absent {c kd sd lm fu tb k : Nat} {K V : Nat → Int32} (h : Inv c kd sd lm fu tb K V) (hk : k ≤ 9999) (hn : K (hs c kd sd K k) ≠ II k) : ∀ s, s < 64 → K s ≠ II k := fun s hs e => hn (by rw [hs_of h hs hk e]; exact e)
theorem b_enterD {c kd sd lm fu tb k : Nat} {K V : Nat → Int32} {v : Int32} (h : Inv c kd sd lm fu tb K V) (hk : k ≤ 9999) (hv : (-999 : Int32) ≤ v ∧ v ≤ (999 : Int32)) (O W : Nat → Int32) (rb gr : Int32) :
    ∃ r d6 d7 c' fu' tb' K' V' O' W', fX5_enter (II c) (II kd) (II sd) (II lm) (II fu) (II tb) rb gr K V O W (II k) v = some (r, II c', II fu', II tb', rb + d6, gr + d7, K', V', O', W') ∧ Inv c' kd sd lm fu' tb' K' V' ∧ ((d6 = 0 ∧ d7 = 0) ∨ (d6 = 1 ∧ (d7 = 0 ∨ d7 = 1))) ∧
      (r = 1 ∨ (r = 0 ∧ c' = c ∧ fu' = fu ∧ tb' = tb ∧ K' = K ∧ V' = V ∧ d6 = 0 ∧ d7 = 0)) ∧ (r = 0 ↔ K (hs c kd sd K k) ≠ II k ∧ ¬ 100 * (fu + tb + 1) ≤ lm * c ∧ ¬ 100 * (fu + 1) ≤ lm * nc c lm fu) ∧
      ∀ (mA : Nat → Int32) (mre mex mfr : Int32), Rw 0 c kd sd lm fu tb K V mA → ∃ mex' mfr' mA', fX7_puts mre mex mfr mA (II k) v = some (if r = 1 then 0 else 2, if K (hs c kd sd K k) = II k then 0 else 1, mex', mfr', mA') ∧ Rw 0 c' kd sd lm fu' tb' K' V' mA' ∧
        mA' 6 = mA 6 + d6 ∧ mA' 7 = mA 7 + d7 ∧ ∀ i, 200 ≤ i → i < 2400 → mA' i = mA i := by
  have hc := h.cok
  have h64 := hc.le
  have h8 := hc.ge
  have hl := h.lm9.2
  have hft := h.ft
  have hs9 := hs_64 (kd := kd) (sd := sd) (K := K) (k := k) hc
  have isv : fX7_in v (-999 : Int32) (999 : Int32) = some 1 := r_inY hv
  have hput0 : ∀ (mA : Nat → Int32) (mre mex mfr : Int32), Rw 0 c kd sd lm fu tb K V mA → fX7_puts mre mex mfr mA (II k) v =
      if K (hs c kd sd K k) = II k then fX7_puts_38 mre (II (fs c kd sd K k + 1)) (fr c kd sd K k (fs c kd sd K k + 1)) mA (II k) v (II (hs c kd sd K k)) 0 else fX7_puts_38 mre (II (fs c kd sd K k + 1)) (fr c kd sd K k (fs c kd sd K k + 1)) mA (II k) v (-1) 1 := fun mA mre mex mfr hR => by
    unfold fX7_puts
    rw [r_isKey hk, ob, if_neg i1n0, isv, ob, if_neg i1n0, r_search hR hc h.kd2 h.sd9 hk h.kt h.emp, ob]
    by_cases e : K (hs c kd sd K k) = II k
    · rw [if_pos e, if_pos e]
      exact if_pos (n_0le (by omega))
    · rw [if_neg e, if_neg e]
      exact if_neg (show ¬ (0 : Int32) ≤ -1 by decide)
  unfold fX5_enter
  rw [c_hold hc h.kd2 h.sd9 hk h.emp, ob]
  by_cases e : K (hs c kd sd K k) = II k
  · rw [if_pos e, c_rows hs9, ob, if_neg i1n0, if_pos (n_in (by omega) hs9), n_cl (by omega)]
    refine ⟨1, 0, 0, c, fu, tb, K, upd V (hs c kd sd K k) v, O, W, by rw [Int32.add_zero, Int32.add_zero], h.setV hv, Or.inl ⟨rfl, rfl⟩, Or.inl rfl, ⟨fun e2 => absurd e2 (by decide), fun e2 => absurd e e2.1⟩, fun mA mre mex mfr hR => ?_⟩
    rw [hput0 mA mre mex mfr hR, if_pos e]
    unfold fX7_puts_38
    rw [if_neg (n_nlt0 (by omega)), r_set hs9, ob, if_pos rfl, if_pos e]
    exact ⟨_, _, _, rfl, hR.setV hs9 hk e, by rw [upd_ne (by omega), upd_ne (by omega), upd_ne (by omega), Int32.add_zero], by rw [upd_ne (by omega), upd_ne (by omega), upd_ne (by omega), Int32.add_zero], fun i hi _ => by rw [upd_ne (by omega), upd_ne (by omega), upd_ne (by omega)]⟩
  · have habs := h.absent hk e
    rw [if_neg e, c_rowsN, ob, if_pos rfl, c_room hc hl hft, ob, c_need hc hl hft, ob]
    have rA : ∀ (mA : Nat → Int32), Rw 0 c kd sd lm fu tb K V mA → fX7_exceeds mA (((mA 1) + (mA 2)) + (1 : Int32)) (mA 0) = some (if 100 * (fu + tb + 1) ≤ lm * c then 0 else 1) := fun mA hR => by
      rw [hR.c0, hR.c1, hR.c2, show (II fu + II tb) + (1 : Int32) = II (fu + tb + 1) from by rw [n_add]; exact n_add _ 1]
      exact r_exc hR.c5 hl (by omega) h64
    by_cases hA : 100 * (fu + tb + 1) ≤ lm * c
    · rw [if_pos hA, if_pos hA, if_neg i1n0, if_pos rfl, c_place h hk, ob]
      refine ⟨1, 0, 0, c, fu + 1, pT c kd sd tb K k, pK c kd sd K k, pV c kd sd K V k v, O, W, by rw [Int32.add_zero, Int32.add_zero], h.place hk habs (lm_lt hl h8 hA) hv, Or.inl ⟨rfl, rfl⟩, Or.inl rfl, ⟨fun e2 => absurd e2 (by decide), fun e2 => absurd hA e2.2.1⟩, fun mA mre mex mfr hR => ?_⟩
      rw [hput0 mA mre mex mfr hR, if_neg e]
      unfold fX7_puts_38
      rw [if_pos (by decide), rA mA hR, ob, if_pos hA, if_pos rfl, if_pos rfl, if_neg e]
      obtain ⟨mex1, mfr1, g⟩ := r_lays h hR hk habs (II (fs c kd sd K k + 1)) (fr c kd sd K k (fs c kd sd K k + 1)) (v := v)
      have hz := zs_64 (kd := kd) (sd := sd) (k := k) (K := K) hc
      rw [g, ob]
      exact ⟨mex1, mfr1, rput mA (pT c kd sd tb K k) (fu + 1) (zs c kd sd K k) k v, rfl, hR.put hz hk, by rw [rput_far hz (by omega), Int32.add_zero], by rw [rput_far hz (by omega), Int32.add_zero], fun i hi _ => rput_far hz (Or.inl hi)⟩
    · rw [if_neg hA, if_neg hA]
      have rB : ∀ (mA : Nat → Int32) (mre mex mfr : Int32), Rw 0 c kd sd lm fu tb K V mA → fX7_puts mre mex mfr mA (II k) v = fX7_puts_128 1 (II (fs c kd sd K k + 1)) (fr c kd sd K k (fs c kd sd K k + 1)) mA (II k) v (II (nc c lm fu)) := fun mA mre mex mfr hR => by
        rw [hput0 mA mre mex mfr hR, if_neg e]
        unfold fX7_puts_38
        rw [if_pos (by decide), rA mA hR, ob, if_neg hA, if_neg i1n0, hR.c1, show (2 : Int32) * (II fu + (1 : Int32)) = II (2 * (fu + 1)) from by rw [show II fu + (1 : Int32) = II (fu + 1) from n_add fu 1]; exact n_mul 2 _, hR.c0, r_exc hR.c5 hl (by omega) h64, ob]
        unfold nc
        by_cases h3 : 100 * (2 * (fu + 1)) ≤ lm * c
        · rw [if_pos h3, if_pos h3, if_pos rfl]
        · rw [if_neg h3, if_neg h3, if_neg i1n0]
          by_cases h4 : c = 64
          · rw [if_pos h4, if_pos (show II c = (64 : Int32) from by rw [h4]; rfl)]
            rfl
          · rw [if_neg h4, if_neg (fun e9 : II c = (64 : Int32) => h4 ((n_eq (b := 64) (by omega) (by decide)).mp e9)), show (2 : Int32) * II c = II (2 * c) from n_mul 2 c]
      have rC : ∀ (mA : Nat → Int32), Rw 0 c kd sd lm fu tb K V mA → fX7_exceeds mA ((mA 1) + (1 : Int32)) (II (nc c lm fu)) = some (if 100 * (fu + 1) ≤ lm * nc c lm fu then 0 else 1) := fun mA hR => by
        rw [hR.c1, show II fu + (1 : Int32) = II (fu + 1) from n_add fu 1]
        exact r_exc hR.c5 hl (by omega) (nc_ok hc).le
      by_cases hB : 100 * (fu + 1) ≤ lm * nc c lm fu
      · have hroom := lm_lt hl (nc_ok (lm := lm) (fu := fu) hc).ge hB
        rw [if_pos hB, if_neg i1n0, if_neg i1n0, c_next hc hl (by omega), ob]
        obtain ⟨K1, V1, g1, g2, g3, g4, g5⟩ := b_rebuild (c' := nc c lm fu) (kd := kd) (sd := sd) (O := O) (W := W) h (nc_ok hc) h.kd2 h.sd9 (by omega) rb gr
        have habs1 : ∀ s, s < 64 → K1 s ≠ II k := fun s hs e2 => by
          obtain ⟨t, ht, e3⟩ := g4 s hs (by rw [e2]; exact n_0le (by omega))
          exact habs t ht (e3.trans e2)
        rw [g1, ob]
        refine ⟨1, 1, if nc c lm fu ≤ c then 0 else 1, nc c lm fu, fu + 1, pT (nc c lm fu) kd sd 0 K1 k, pK (nc c lm fu) kd sd K1 k, pV (nc c lm fu) kd sd K1 V1 k v, va_cpy K O 0 0 64, va_cpy V W 0 0 64, ?_, g2.place hk habs1 (by omega) hv, Or.inr ⟨rfl, by split <;> first | exact Or.inl rfl | exact Or.inr rfl⟩, Or.inl rfl, ⟨fun e2 => absurd e2 (by decide), fun e2 => absurd hB e2.2.2⟩, fun mA mre mex mfr hR => ?_⟩
        · show ((fX5_place (II (nc c lm fu)) (II kd) (II sd) (II fu) (II 0) K1 V1 (II k) v).bind fun r11 => _) = _
          rw [c_place g2 hk, ob]
          by_cases h5 : nc c lm fu ≤ c
          · rw [if_pos h5, if_pos h5, Int32.add_zero]
          · rw [if_neg h5, if_neg h5]
        · obtain ⟨mex1, mfr1, m1, q1, q2, q3, q4, q5⟩ := g5 mA (II (fs c kd sd K k + 1)) (fr c kd sd K k (fs c kd sd K k + 1)) hR
          obtain ⟨mex2, mfr2, q6⟩ := r_lays g2 q2 hk habs1 mex1 mfr1 (v := v)
          have hz := zs_64 (kd := kd) (sd := sd) (k := k) (K := K1) (nc_ok (lm := lm) (fu := fu) hc)
          rw [rB mA mre mex mfr hR]
          unfold fX7_puts_128
          rw [rC mA hR, ob, if_pos hB, if_pos rfl, q1, ob]
          show ∃ mex' mfr' mA', (((fX7_lays mex1 mfr1 m1 (II k) v).bind fun r18 => _) = _) ∧ _
          rw [q6, ob, if_pos rfl, if_neg e]
          refine ⟨mex2, mfr2, rput m1 (pT (nc c lm fu) kd sd 0 K1 k) (fu + 1) (zs (nc c lm fu) kd sd K1 k) k v, rfl, q2.put hz hk, by rw [rput_far hz (by omega), q3], ?_, fun i hi hi2 => by rw [rput_far hz (Or.inl hi), q5 i hi hi2]⟩
          rw [rput_far hz (by omega), q4]
          by_cases h5 : nc c lm fu ≤ c
          · rw [if_pos h5, if_pos h5, Int32.add_zero]
          · rw [if_neg h5, if_neg h5]
      · rw [if_neg hB, if_pos rfl]
        refine ⟨0, 0, 0, c, fu, tb, K, V, O, W, by rw [Int32.add_zero, Int32.add_zero], h, Or.inl ⟨rfl, rfl⟩, Or.inr ⟨rfl, rfl, rfl, rfl, rfl, rfl, rfl, rfl⟩, ⟨fun _ => ⟨e, hA, hB⟩, fun _ => rfl⟩, fun mA mre mex mfr hR => ?_⟩
        rw [rB mA mre mex mfr hR]
        unfold fX7_puts_128
        rw [rC mA hR, ob, if_neg hB, if_neg i1n0, if_neg (by decide), if_neg e]
        exact ⟨_, _, mA, rfl, hR, by rw [Int32.add_zero], by rw [Int32.add_zero], fun _ _ _ => rfl⟩
/-- taking a key out -/
theorem b_enter {c kd sd lm fu tb k : Nat} {K V : Nat → Int32} {v : Int32} (h : Inv c kd sd lm fu tb K V) (hk : k ≤ 9999) (hv : (-999 : Int32) ≤ v ∧ v ≤ (999 : Int32)) (O W : Nat → Int32) (rb gr : Int32) :
    ∃ r d6 d7 c' fu' tb' K' V' O' W', fX5_enter (II c) (II kd) (II sd) (II lm) (II fu) (II tb) rb gr K V O W (II k) v = some (r, II c', II fu', II tb', rb + d6, gr + d7, K', V', O', W') ∧ Inv c' kd sd lm fu' tb' K' V' ∧
      (r = 1 ∨ (r = 0 ∧ c' = c ∧ fu' = fu ∧ tb' = tb ∧ K' = K ∧ V' = V ∧ d6 = 0 ∧ d7 = 0)) ∧ (r = 0 ↔ K (hs c kd sd K k) ≠ II k ∧ ¬ 100 * (fu + tb + 1) ≤ lm * c ∧ ¬ 100 * (fu + 1) ≤ lm * nc c lm fu) ∧
      ∀ (mA : Nat → Int32) (mre mex mfr : Int32), Rw 0 c kd sd lm fu tb K V mA → ∃ mex' mfr' mA', fX7_puts mre mex mfr mA (II k) v = some (if r = 1 then 0 else 2, if K (hs c kd sd K k) = II k then 0 else 1, mex', mfr', mA') ∧ Rw 0 c' kd sd lm fu' tb' K' V' mA' ∧
        mA' 6 = mA 6 + d6 ∧ mA' 7 = mA 7 + d7 ∧ ∀ i, 200 ≤ i → i < 2400 → mA' i = mA i := by
  obtain ⟨r, d6, d7, c', fu', tb', K', V', O', W', q1, q2, -, q3, q4, q5⟩ := b_enterD h hk hv O W rb gr
  exact ⟨r, d6, d7, c', fu', tb', K', V', O', W', q1, q2, q3, q4, q5⟩
theorem Inv.bury {c kd sd lm fu tb s : Nat} {K V : Nat → Int32} (h : Inv c kd sd lm fu tb K V) (hs : s < 64) (hp : 0 ≤ K s) : Inv c kd sd lm (fu - 1) (tb + 1) (upd K s (-2)) V := by
  have hfu := h.fupos hs hp
  have hft := h.ft
  have at2 : ∀ t, t ≠ s → upd K s (-2) t = K t := fun t ht => upd_ne ht
  have at1 : upd K s (-2) s = -2 := upd_at _ _ _
  refine ⟨h.cok, h.kd2, h.sd9, h.lm9, ?_, ?_, by omega, fun t h1 h2 => ?_, fun t ht => ?_, fun t u ht hu h1 h2 => ?_, fun t k ht hk e => ?_, fun t ht h1 => ?_⟩
  · have h1 := cnt_set (p := fun t => decide (0 ≤ upd K s (-2) t)) (q := fun t => decide (0 ≤ K t)) (s := s) (by show decide (0 ≤ upd K s (-2) s) = false; rw [at1]; decide) (decide_eq_true hp) (fun t ht => by show decide (0 ≤ upd K s (-2) t) = decide (0 ≤ K t); rw [at2 t ht]) (n := 64) hs
    rw [h.cfu] at h1
    omega
  · rw [← h.ctb]
    refine cnt_set (s := s) (decide_eq_false (fun e => ?_)) ?_ (fun t ht => ?_) hs
    · rw [e] at hp; exact absurd hp (by decide)
    · show decide (upd K s (-2) s = -2) = true
      rw [at1]; decide
    · show decide (K t = -2) = decide (upd K s (-2) t = -2)
      rw [at2 t ht]
  · by_cases e : t = s
    · have := h.high t h1 h2
      rw [e] at this
      rw [this] at hp
      exact absurd hp (by decide)
    · rw [at2 t e]; exact h.high t h1 h2
  · by_cases e : t = s
    · rw [e, at1]; exact Or.inr (Or.inl rfl)
    · rw [at2 t e]; exact h.kt t ht
  · by_cases e : t = s
    · rw [e, at1] at h1; exact absurd h1 (by decide)
    · rw [at2 t e] at h1 h2
      by_cases e2 : u = s
      · rw [e2, at1] at h2
        rw [h2] at h1
        exact absurd h1 (by decide)
      · rw [at2 u e2] at h2
        exact h.one t u ht hu h1 h2
  · by_cases e2 : t = s
    · rw [e2, at1] at e; exact absurd e.symm (n_ne2 (by omega))
    · rw [at2 t e2] at e
      obtain ⟨i, hi, h1, h2⟩ := h.found t k ht hk e
      refine ⟨i, hi, h1, fun j hj => ?_⟩
      by_cases e3 : sq c kd sd k j = s
      · rw [e3, at1]; decide
      · rw [at2 _ e3]; exact h2 j hj
  · by_cases e : t = s
    · rw [e, at1] at h1; exact absurd h1 (by decide)
    · rw [at2 t e] at h1
      exact h.vals t ht h1
theorem c_bury {c kd sd lm fu tb s : Nat} {K V : Nat → Int32} (h : Inv c kd sd lm fu tb K V) (hs : s < 64) (hp : 0 ≤ K s) : fX5_bury (II fu) (II tb) K (II s) = some (1, II (fu - 1), II (tb + 1), upd K s (-2)) := by
  unfold fX5_bury
  rw [c_rows hs, ob, if_neg i1n0, if_pos (n_in (by omega) hs), n_cl (by omega), if_pos hp, if_pos (n_in (by omega) hs), show II fu - (1 : Int32) = II (fu - 1) from n_sub (b := 1) (h.fupos hs hp), show II tb + (1 : Int32) = II (tb + 1) from n_add tb 1]
theorem c_buryN (fu tb : Int32) (K : Nat → Int32) : fX5_bury fu tb K (-1) = some (0, fu, tb, K) := by
  unfold fX5_bury
  rw [c_rowsN, ob, if_pos rfl]
/-- the reference takes a key out -/
theorem r_removes {c kd sd lm fu tb k : Nat} {K V mA : Nat → Int32} (h : Inv c kd sd lm fu tb K V) (hR : Rw 0 c kd sd lm fu tb K V mA) (hk : k ≤ 9999) (hp : K (hs c kd sd K k) = II k) (mre mex mfr : Int32) :
    ∃ mex' mfr' mA', fX7_removes mre mex mfr mA (II k) = some (0, V (hs c kd sd K k), mex', mfr', mA') ∧ Rw 0 c kd sd lm (fu - 1) (tb + 1) (upd K (hs c kd sd K k) (-2)) V mA' ∧ mA' 6 = mA 6 ∧ mA' 7 = mA 7 ∧ ∀ i, 200 ≤ i → mA' i = mA i := by
  have hc := h.cok
  have hs9 := hs_64 (kd := kd) (sd := sd) (K := K) (k := k) hc
  have hp0 : 0 ≤ K (hs c kd sd K k) := by rw [hp]; exact n_0le (by omega)
  have hfu := h.fupos hs9 hp0
  generalize hsv : hs c kd sd K k = s at hs9 hp0 hp
  have hv : mA (10 + 3 * s) = V s := by
    rcases hR.at hs9 with ⟨e, -⟩ | ⟨e, -⟩ | ⟨-, -, -, e⟩
    · rw [e] at hp0; exact absurd hp0 (by decide)
    · rw [e] at hp0; exact absurd hp0 (by decide)
    · exact e
  have far : ∀ j, j ≠ 8 + 3 * s → j ≠ 9 + 3 * s → j ≠ 10 + 3 * s → j ≠ 1 → j ≠ 2 → upd (upd (upd (upd (upd mA (8 + 3 * s) 2) (9 + 3 * s) 0) (10 + 3 * s) 0) 1 (II (fu - 1))) 2 (II (tb + 1)) j = mA j := fun j a b c d f => by
    rw [upd_ne (by omega), upd_ne (by omega), upd_ne (by omega), upd_ne (by omega), upd_ne (by omega)]
  refine ⟨II (fs c kd sd K k + 1), fr c kd sd K k (fs c kd sd K k + 1), upd (upd (upd (upd (upd mA (8 + 3 * s) 2) (9 + 3 * s) 0) (10 + 3 * s) 0) 1 (II (fu - 1))) 2 (II (tb + 1)), ?_, ⟨?_, ?_, upd_at _ _ _, ?_, ?_, ?_, fun t ht => ?_⟩, far 6 (by omega) (by omega) (by omega) (by omega) (by omega), far 7 (by omega) (by omega) (by omega) (by omega) (by omega), fun i hi => far i (by omega) (by omega) (by omega) (by omega) (by omega)⟩
  · unfold fX7_removes
    rw [r_isKey hk, ob, if_neg i1n0, r_search hR hc h.kd2 h.sd9 hk h.kt h.emp, ob, hsv, if_pos hp]
    unfold fX7_removes_16
    rw [if_pos (n_0le (by omega)), r_at2 hs9, ob, r_set hs9, ob, hv]
    rw [upd_ne (f := upd (upd mA (8 + 3 * s) 2) (9 + 3 * s) 0) (by omega), upd_ne (f := upd mA (8 + 3 * s) 2) (by omega), upd_ne (f := mA) (by omega), hR.c1,
      show II fu - (1 : Int32) = II (fu - 1) from n_sub (b := 1) hfu,
      upd_ne (f := upd (upd (upd mA (8 + 3 * s) 2) (9 + 3 * s) 0) (10 + 3 * s) 0) (j := 2) (by omega), upd_ne (f := upd (upd mA (8 + 3 * s) 2) (9 + 3 * s) 0) (by omega), upd_ne (f := upd mA (8 + 3 * s) 2) (by omega), upd_ne (f := mA) (by omega), hR.c2, show II tb + (1 : Int32) = II (tb + 1) from n_add tb 1]
  · rw [far 0 (by omega) (by omega) (by omega) (by omega) (by omega)]; exact hR.c0
  · rw [upd_ne (by omega)]; exact upd_at _ _ _
  · rw [far (0 + 3) (by omega) (by omega) (by omega) (by omega) (by omega)]; exact hR.c3
  · rw [far (0 + 4) (by omega) (by omega) (by omega) (by omega) (by omega)]; exact hR.c4
  · rw [far (0 + 5) (by omega) (by omega) (by omega) (by omega) (by omega)]; exact hR.c5
  · rw [show 0 + 8 + 3 * t = 8 + 3 * t from by omega, show 0 + 9 + 3 * t = 9 + 3 * t from by omega, show 0 + 10 + 3 * t = 10 + 3 * t from by omega]
    by_cases e : t = s
    · subst e
      refine Or.inr (Or.inl ⟨upd_at _ _ _, ?_⟩)
      rw [upd_ne (by omega), upd_ne (by omega), upd_ne (by omega), upd_ne (by omega), upd_at]
    · rw [upd_ne e, far _ (by omega) (by omega) (by omega) (by omega) (by omega), far _ (by omega) (by omega) (by omega) (by omega) (by omega), far _ (by omega) (by omega) (by omega) (by omega) (by omega)]
      exact hR.at ht
theorem r_removesN {c kd sd lm fu tb : Nat} {K V mA : Nat → Int32} {x : Int32} (h : Inv c kd sd lm fu tb K V) (hR : Rw 0 c kd sd lm fu tb K V mA) (hp : ¬ ∃ k, k ≤ 9999 ∧ x = II k ∧ K (hs c kd sd K k) = II k) (mre mex mfr : Int32) : ∃ mex' mfr', fX7_removes mre mex mfr mA x = some (2, mre, mex', mfr', mA) := by
  unfold fX7_removes
  by_cases hx : ∃ k, k ≤ 9999 ∧ x = II k
  · obtain ⟨k, hk, rfl⟩ := hx
    rw [r_isKey hk, ob, if_neg i1n0, r_search hR h.cok h.kd2 h.sd9 hk h.kt h.emp, ob, if_neg (fun e => hp ⟨k, hk, rfl, e⟩)]
    unfold fX7_removes_16
    rw [if_neg (show ¬ (0 : Int32) ≤ -1 by decide)]
    exact ⟨_, _, rfl⟩
  · rw [r_isKeyN hx, ob, if_pos rfl]
    unfold fX7_removes_16
    rw [if_neg (by decide)]
    exact ⟨_, _, rfl⟩
