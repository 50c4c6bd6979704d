/-! putting a new key -/
def pT (c kd sd tb : Nat) (K : Nat → Int32) (k : Nat) : Nat := if K (zs c kd sd K k) = -2 then tb - 1 else tb
def pK (c kd sd : Nat) (K : Nat → Int32) (k : Nat) : Nat → Int32 := upd K (zs c kd sd K k) (II k)
def pV (c kd sd : Nat) (K V : Nat → Int32) (k : Nat) (v : Int32) : Nat → Int32 := upd V (zs c kd sd K k) v
theorem KT.neg {K : Nat → Int32} (h : KT K) {s : Nat} (hs : s < 64) (hn : K s < 0) : K s = -1 ∨ K s = -2 := by
  rcases h s hs with e | e | ⟨k, hk, e⟩
  · exact Or.inl e
  · exact Or.inr e
  · rw [e] at hn; exact absurd hn (n_nlt0 (by omega))
theorem KT.pos {K : Nat → Int32} (h : KT K) {s : Nat} (hs : s < 64) (hn : 0 ≤ K s) : ∃ k, k ≤ 9999 ∧ K s = II k := by
  rcases h s hs with e | e | e
  · rw [e] at hn; exact absurd hn (by decide)
  · rw [e] at hn; exact absurd hn (by decide)
  · exact e
theorem Inv.tbpos {c kd sd lm fu tb s : Nat} {K V : Nat → Int32} (h : Inv c kd sd lm fu tb K V) (hs : s < 64) (e : K s = -2) : 1 ≤ tb := by
  rw [← h.ctb]
  exact cnt_pos hs (decide_eq_true e)
theorem Inv.fupos {c kd sd lm fu tb s : Nat} {K V : Nat → Int32} (h : Inv c kd sd lm fu tb K V) (hs : s < 64) (e : 0 ≤ K s) : 1 ≤ fu := by
  rw [← h.cfu]
  exact cnt_pos hs (decide_eq_true e)
theorem Inv.place {c kd sd lm fu tb k : Nat} {K V : Nat → Int32} {v : Int32} (h : Inv c kd sd lm fu tb K V) (hk : k ≤ 9999) (hn : ∀ s, s < 64 → K s ≠ II k) (hroom : fu + tb + 1 < c) (hv : (-999 : Int32) ≤ v ∧ v ≤ (999 : Int32)) :
    Inv c kd sd lm (fu + 1) (pT c kd sd tb K k) (pK c kd sd K k) (pV c kd sd K V k v) := by
  have hc := h.cok
  have hz := zs_64 (kd := kd) (sd := sd) (k := k) (K := K) hc
  have hzc : zs c kd sd K k < c := sq_lt hc
  have hzn := fz_at (kd := kd) (sd := sd) (k := k) hc h.emp
  have hk0 : (0 : Int32) ≤ II k := n_0le (by omega)
  have at1 : pK c kd sd K k (zs c kd sd K k) = II k := upd_at _ _ _
  have at2 : ∀ s, s ≠ zs c kd sd K k → pK c kd sd K k s = K s := fun s hs => upd_ne hs
  have htb : K (zs c kd sd K k) = -2 → 1 ≤ tb := fun e => h.tbpos hz e
  refine ⟨hc, h.kd2, h.sd9, h.lm9, ?_, ?_, ?_, ?_, ?_, ?_, ?_, ?_⟩
  · rw [← h.cfu]
    refine cnt_set (s := zs c kd sd K k) (decide_eq_false (i_nle.mpr hzn)) ?_ (fun s hs => ?_) hz
    · show decide (0 ≤ pK c kd sd K k (zs c kd sd K k)) = true
      rw [at1]; exact decide_eq_true hk0
    · show decide (0 ≤ K s) = decide (0 ≤ pK c kd sd K k s)
      rw [at2 s hs]
  · unfold pT
    by_cases e : K (zs c kd sd K k) = -2
    · rw [if_pos e]
      have h1 := cnt_set (p := fun s => decide (pK c kd sd K k s = -2)) (q := fun s => decide (K s = -2)) (s := zs c kd sd K k) (by show decide (pK c kd sd K k (zs c kd sd K k) = -2) = false; rw [at1]; exact decide_eq_false (n_ne2 (by omega))) (decide_eq_true e) (fun s hs => by show decide (pK c kd sd K k s = -2) = decide (K s = -2); rw [at2 s hs]) (n := 64) hz
      rw [h.ctb] at h1
      omega
    · rw [if_neg e, ← h.ctb]
      refine cnt_cong (fun s hs => ?_)
      by_cases e2 : s = zs c kd sd K k
      · show decide (pK c kd sd K k s = -2) = decide (K s = -2)
        rw [e2, at1, decide_eq_false (n_ne2 (by omega)), decide_eq_false e]
      · show decide (pK c kd sd K k s = -2) = decide (K s = -2)
        rw [at2 s e2]
  · unfold pT
    split <;> omega
  · intro s h1 h2
    rw [at2 s (by omega)]
    exact h.high s h1 h2
  · intro s h1
    by_cases e : s = zs c kd sd K k
    · rw [e, at1]; exact Or.inr (Or.inr ⟨k, hk, rfl⟩)
    · rw [at2 s e]; exact h.kt s h1
  · intro s t h1 h2 h3 h4
    by_cases e : s = zs c kd sd K k
    · by_cases e2 : t = zs c kd sd K k
      · rw [e, e2]
      · rw [e, at1, at2 t e2] at h4
        exact absurd h4.symm (hn t h2)
    · by_cases e2 : t = zs c kd sd K k
      · rw [e2, at1, at2 s e] at h4
        exact absurd h4 (hn s h1)
      · rw [at2 s e, at2 t e2] at h4
        rw [at2 s e] at h3
        exact h.one s t h1 h2 h3 h4
  · intro s k' h1 h2 h3
    by_cases e : s = zs c kd sd K k
    · rw [e, at1] at h3
      have e3 : k = k' := (n_eq (by omega) (by omega)).mp h3
      subst e3
      refine ⟨fz c kd sd K k, fz_lt hc h.emp, e.symm, fun j hj => ?_⟩
      have h5 := fz_before (K := K) (kd := kd) (sd := sd) (k := k) (c := c) hj
      rw [at2 _ (fun e4 => by rw [e4] at h5; exact absurd hzn (i_nlt.mpr h5))]
      intro e5
      rw [e5] at h5
      exact absurd h5 (by decide)
    · rw [at2 s e] at h3
      obtain ⟨i, hi, h5, h6⟩ := h.found s k' h1 h2 h3
      refine ⟨i, hi, h5, fun j hj => ?_⟩
      by_cases e2 : sq c kd sd k' j = zs c kd sd K k
      · rw [e2, at1]; exact n_ne1 (by omega)
      · rw [at2 _ e2]; exact h6 j hj
  · intro s h1 h2
    unfold pV
    by_cases e : s = zs c kd sd K k
    · rw [e, upd_at]; exact hv
    · rw [upd_ne e]
      rw [at2 s e] at h2
      exact h.vals s h1 h2
theorem c_place_2 {c kd sd fu tb k : Nat} {K V : Nat → Int32} {v : Int32} (hc : cOK c) (hkd : kd ≤ 2) (hsd : sd ≤ 999) (hk : k ≤ 9999) (he : ∃ s, s < c ∧ K s = -1) (ht : K (zs c kd sd K k) = -2 → 1 ≤ tb) :
    ∀ n i, i ≤ fz c kd sd K k → fz c kd sd K k - i < n → fX5_place_2 n (II c) (II kd) (II sd) (II fu) (II tb) K V (II k) v (II i) = some (II (fu + 1), II (pT c kd sd tb K k), pK c kd sd K k, pV c kd sd K V k v)
  | 0, i, _, hn => by omega
  | n + 1, i, hi, hn => by
    have h64 := hc.le
    have hf := fz_lt (kd := kd) (sd := sd) (k := k) hc he
    have hsl := sq_64 (kd := kd) (sd := sd) (k := k) (i := i) hc
    have hz := fz_at (kd := kd) (sd := sd) (k := k) hc he
    unfold fX5_place_2
    rw [if_neg (fun e => by have := (n_le hc.lt (by omega)).mp e; omega), c_slotIn hc hkd hsd hk (by omega), ob, c_rows hsl, ob, if_neg i1n0, if_pos (n_in (by omega) hsl), n_cl (by omega)]
    by_cases hfi : i = fz c kd sd K k
    · have hh : sq c kd sd k i = zs c kd sd K k := by unfold zs; rw [hfi]
      rw [hh] at hsl ⊢
      have e9 : II fu + (1 : Int32) = II (fu + 1) := n_add fu 1
      rw [if_neg (i_nle.mpr hz), if_pos (n_in (by omega) hsl)]
      unfold fX5_place_58 pT
      by_cases e : K (zs c kd sd K k) = -2
      · rw [if_pos e, if_pos e, if_pos (n_in (by omega) hsl), if_pos (n_in (by omega) hsl), n_cl (by omega), e9, show II tb - (1 : Int32) = II (tb - 1) from n_sub (b := 1) (ht e)]
        rfl
      · rw [if_neg e, if_neg e, if_pos (n_in (by omega) hsl), if_pos (n_in (by omega) hsl), n_cl (by omega), e9]
        rfl
    · have h1 := fz_before (K := K) (kd := kd) (sd := sd) (k := k) (c := c) (j := i) (by omega)
      rw [if_pos h1]
      unfold fX5_place_85
      rw [show II i + (1 : Int32) = II (i + 1) from n_add i 1]
      exact c_place_2 hc hkd hsd hk he ht n (i + 1) (by omega) (by omega)
theorem c_place {c kd sd lm fu tb k : Nat} {K V : Nat → Int32} {v : Int32} (h : Inv c kd sd lm fu tb K V) (hk : k ≤ 9999) :
    fX5_place (II c) (II kd) (II sd) (II fu) (II tb) K V (II k) v = some (II (fu + 1), II (pT c kd sd tb K k), pK c kd sd K k, pV c kd sd K V k v) := by
  have h64 := h.cok.le
  have hf := fz_lt (kd := kd) (sd := sd) (k := k) h.cok h.emp
  exact c_place_2 h.cok h.kd2 h.sd9 hk h.emp (fun e => h.tbpos (zs_64 h.cok) e) 1000 0 (Nat.zero_le _) (by omega)
/-- the reference's row behind the putting of a key into a slot -/
def rput (mA : Nat → Int32) (tb fu s k : Nat) (v : Int32) : Nat → Int32 := upd (upd (upd (upd (upd mA 2 (II tb)) (8 + 3 * s) 1) (9 + 3 * s) (II k)) (10 + 3 * s) v) 1 (II fu)
theorem rput_far {mA : Nat → Int32} {tb fu s k : Nat} {v : Int32} (hs : s < 64) {j : Nat} (hj : 200 ≤ j ∨ (j < 8 ∧ j ≠ 1 ∧ j ≠ 2)) : rput mA tb fu s k v j = mA j := by
  unfold rput
  rw [upd_ne (by omega), upd_ne (by omega), upd_ne (by omega), upd_ne (by omega), upd_ne (by omega)]
theorem Rw.put {c kd sd lm fu tb fu' tb' k s : Nat} {K V mA : Nat → Int32} {v : Int32} (hR : Rw 0 c kd sd lm fu tb K V mA) (hs : s < 64) (hk : k ≤ 9999) : Rw 0 c kd sd lm fu' tb' (upd K s (II k)) (upd V s v) (rput mA tb' fu' s k v) := by
  have far := fun (j : Nat) (hj : j < 8 ∧ j ≠ 1 ∧ j ≠ 2) => rput_far (mA := mA) (tb := tb') (fu := fu') (k := k) (v := v) hs (Or.inr hj)
  refine ⟨?_, ?_, ?_, ?_, ?_, ?_, fun t ht => ?_⟩
  · rw [far 0 (by decide)]; exact hR.c0
  · exact upd_at _ _ _
  · unfold rput
    rw [upd_ne (by omega), upd_ne (by omega), upd_ne (by omega), upd_ne (by omega)]
    exact upd_at _ _ _
  · rw [far 3 (by decide)]; exact hR.c3
  · rw [far 4 (by decide)]; exact hR.c4
  · rw [far 5 (by decide)]; exact hR.c5
  · rw [show 0 + 8 + 3 * t = 8 + 3 * t from by omega, show 0 + 9 + 3 * t = 9 + 3 * t from by omega, show 0 + 10 + 3 * t = 10 + 3 * t from by omega]
    unfold rput
    by_cases e : t = s
    · subst e
      refine Or.inr (Or.inr ⟨?_, ?_, ?_, ?_⟩)
      · rw [upd_at]; exact n_0le (by omega)
      · rw [upd_ne (by omega), upd_ne (by omega), upd_ne (by omega), upd_at]
      · rw [upd_ne (by omega), upd_ne (by omega), upd_at, upd_at]
      · rw [upd_ne (by omega), upd_at, upd_at]
    · rw [upd_ne e, upd_ne e, upd_ne (by omega), upd_ne (by omega), upd_ne (by omega), upd_ne (by omega), upd_ne (by omega), upd_ne (by omega), upd_ne (by omega), upd_ne (by omega), upd_ne (by omega), upd_ne (by omega), upd_ne (by omega), upd_ne (by omega), upd_ne (by omega), upd_ne (by omega), upd_ne (by omega)]
      exact hR.at ht
theorem r_lays_31 {mA : Nat → Int32} {fu tb tb' s k : Nat} {k0 v mex : Int32} (h1 : mA 1 = II fu) (hs : s < 64) (h0 : II tb - k0 = II tb') : fX7_lays_31 mex (II s) mA (II k) v k0 (II tb) (2 : Int32) = some (mex, II s, rput mA tb' (fu + 1) s k v) := by
  unfold fX7_lays_31
  rw [show hl_in (2 : Int32) 2600 = true from by decide, if_pos rfl, show (2 : Int32).toNatClampNeg = 2 from by decide, h0, r_set hs, ob]
  unfold rput
  rw [upd_ne (f := upd (upd (upd mA 2 (II tb')) (8 + 3 * s) 1) (9 + 3 * s) (II k)) (by omega), upd_ne (f := upd (upd mA 2 (II tb')) (8 + 3 * s) 1) (by omega), upd_ne (f := upd mA 2 (II tb')) (by omega), upd_ne (f := mA) (by omega), h1, show II fu + (1 : Int32) = II (fu + 1) from n_add fu 1]
theorem r_lays {c kd sd lm fu tb k : Nat} {K V mA : Nat → Int32} {v : Int32} (h : Inv c kd sd lm fu tb K V) (hR : Rw 0 c kd sd lm fu tb K V mA) (hk : k ≤ 9999) (hn : ∀ s, s < 64 → K s ≠ II k) (mex mfr : Int32) :
    ∃ mex' mfr', fX7_lays mex mfr mA (II k) v = some (mex', mfr', rput mA (pT c kd sd tb K k) (fu + 1) (zs c kd sd K k) k v) := by
  have hc := h.cok
  have hz := zs_64 (kd := kd) (sd := sd) (k := k) (K := K) hc
  have hzn := fz_at (kd := kd) (sd := sd) (k := k) hc h.emp
  have hle := fz_le (kd := kd) (sd := sd) (k := k) hc h.emp (hn _ (hs_64 hc))
  have hfr : fr c kd sd K k (fs c kd sd K k + 1) = II (zs c kd sd K k) := if_pos (by omega)
  refine ⟨II (fs c kd sd K k + 1), II (zs c kd sd K k), ?_⟩
  unfold fX7_lays
  rw [r_search hR hc h.kd2 h.sd9 hk h.kt h.emp, ob]
  show (fX7_at mA (fr c kd sd K k (fs c kd sd K k + 1)) 0).bind _ = _
  rw [hfr, r_at0 hz, ob, hR.c2]
  unfold pT
  rcases hR.at hz with ⟨e, g⟩ | ⟨e, g⟩ | ⟨e, -⟩
  · rw [g, if_neg (by decide), if_neg (show ¬ K (zs c kd sd K k) = -2 by rw [e]; decide)]
    exact r_lays_31 hR.c1 hz (Int32.sub_zero _)
  · rw [g, if_pos rfl, if_pos e]
    exact r_lays_31 hR.c1 hz (n_sub (b := 1) (h.tbpos hz e))
  · exact absurd hzn (i_nlt.mpr e)
