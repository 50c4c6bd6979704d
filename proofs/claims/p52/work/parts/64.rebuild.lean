/-! rebuilding -/
abbrev rST : Type := Nat × Nat × (Nat → Int32) × (Nat → Int32)
def rbN (c kd sd : Nat) (OK OV : Nat → Int32) : Nat → rST → Nat → rST
  | 0, st, _ => st
  | n + 1, st, j => rbN c kd sd OK OV n (if OK j < 0 then st else (st.1 + 1, pT c kd sd st.2.1 st.2.2.1 (OK j).toNatClampNeg, pK c kd sd st.2.2.1 (OK j).toNatClampNeg, pV c kd sd st.2.2.1 st.2.2.2 (OK j).toNatClampNeg (OV j))) (j + 1)
/-- what must hold of a table that is rebuilt -/
def OKs (c : Nat) (OK OV : Nat → Int32) : Prop := KT OK ∧ (∀ s t, s < 64 → t < 64 → 0 ≤ OK s → OK s = OK t → s = t) ∧ cnt (fun s => decide (0 ≤ OK s)) 64 < c ∧ (∀ s, s < 64 → 0 ≤ OK s → (-999 : Int32) ≤ OV s ∧ OV s ≤ (999 : Int32))
def RI (c kd sd lm : Nat) (OK OV : Nat → Int32) (j : Nat) (st : rST) : Prop :=
  Inv c kd sd lm st.1 st.2.1 st.2.2.1 st.2.2.2 ∧ st.2.1 = 0 ∧ st.1 = cnt (fun s => decide (0 ≤ OK s)) j ∧
  (∀ s, s < 64 → 0 ≤ st.2.2.1 s → ∃ t, t < j ∧ OK t = st.2.2.1 s) ∧ (∀ t, t < j → 0 ≤ OK t → ∃ s, s < 64 ∧ st.2.2.1 s = OK t)
theorem RI.new {c kd sd lm : Nat} {OK OV : Nat → Int32} {j k : Nat} {st : rST} (hO : OKs c OK OV) (h : RI c kd sd lm OK OV j st) (hj : j < 64) (hk : k ≤ 9999) (e : OK j = II k) : (∀ s, s < 64 → st.2.2.1 s ≠ II k) ∧ st.1 + st.2.1 + 1 < c := by
  obtain ⟨h1, h2, h3, h4, h5⟩ := h
  have hp : (0 : Int32) ≤ II k := n_0le (by omega)
  refine ⟨fun s hs e2 => ?_, ?_⟩
  · obtain ⟨t, ht, e3⟩ := h4 s hs (by rw [e2]; exact hp)
    have := hO.2.1 j t hj (by omega) (by rw [e]; exact hp) (by rw [e, e3, e2])
    omega
  · have e4 : cnt (fun s => decide (0 ≤ OK s)) (j + 1) = cnt (fun s => decide (0 ≤ OK s)) j + 1 := by
      show cnt (fun s => decide (0 ≤ OK s)) j + (if decide (0 ≤ OK j) = true then 1 else 0) = _
      rw [e, decide_eq_true hp, if_pos rfl]
    have h6 := cnt_mono (fun s => decide (0 ≤ OK s)) (m := j + 1) (n := 64) (by omega)
    have h7 := hO.2.2.1
    omega
theorem RI.step {c kd sd lm : Nat} {OK OV : Nat → Int32} {j : Nat} {st : rST} (hO : OKs c OK OV) (h : RI c kd sd lm OK OV j st) (hj : j < 64) :
    RI c kd sd lm OK OV (j + 1) (if OK j < 0 then st else (st.1 + 1, pT c kd sd st.2.1 st.2.2.1 (OK j).toNatClampNeg, pK c kd sd st.2.2.1 (OK j).toNatClampNeg, pV c kd sd st.2.2.1 st.2.2.2 (OK j).toNatClampNeg (OV j))) := by
  by_cases e : OK j < 0
  · rw [if_pos e]
    obtain ⟨h1, h2, h3, h4, h5⟩ := h
    refine ⟨h1, h2, ?_, fun s hs h6 => ?_, fun t ht h6 => ?_⟩
    · show st.1 = cnt (fun s => decide (0 ≤ OK s)) j + (if decide (0 ≤ OK j) = true then 1 else 0)
      rw [decide_eq_false (i_nle.mpr e), if_neg (by decide), h3]
      rfl
    · obtain ⟨t, ht, e2⟩ := h4 s hs h6
      exact ⟨t, by omega, e2⟩
    · by_cases e2 : t = j
      · subst e2; exact absurd e (i_nlt.mpr h6)
      · exact h5 t (by omega) h6
  · rw [if_neg e]
    obtain ⟨k, hk, e1⟩ := hO.1.pos hj (i_nlt.mp e)
    obtain ⟨hnew, hroom⟩ := RI.new hO h hj hk e1
    have hv := hO.2.2.2 j hj (i_nlt.mp e)
    obtain ⟨h1, h2, h3, h4, h5⟩ := h
    rw [e1, n_cl (by omega)]
    have hc := h1.cok
    have hp : (0 : Int32) ≤ II k := n_0le (by omega)
    have hz := zs_64 (kd := kd) (sd := sd) (k := k) (K := st.2.2.1) hc
    have hzn := fz_at (kd := kd) (sd := sd) (k := k) hc h1.emp
    refine ⟨h1.place hk hnew hroom hv, ?_, ?_, fun s hs h6 => ?_, fun t ht h6 => ?_⟩
    · show pT c kd sd st.2.1 st.2.2.1 k = 0
      unfold pT
      rw [h2]
      split <;> rfl
    · show st.1 + 1 = cnt (fun s => decide (0 ≤ OK s)) j + (if decide (0 ≤ OK j) = true then 1 else 0)
      rw [e1, decide_eq_true hp, if_pos rfl, h3]
    · show ∃ t, t < j + 1 ∧ OK t = pK c kd sd st.2.2.1 k s
      by_cases e2 : s = zs c kd sd st.2.2.1 k
      · exact ⟨j, by omega, by rw [e2, e1]; exact (upd_at _ _ _).symm⟩
      · have e3 : pK c kd sd st.2.2.1 k s = st.2.2.1 s := upd_ne e2
        rw [e3]
        have h7 : (0 : Int32) ≤ st.2.2.1 s := by rw [← e3]; exact h6
        obtain ⟨t, ht, e4⟩ := h4 s hs h7
        exact ⟨t, by omega, e4⟩
    · show ∃ s, s < 64 ∧ pK c kd sd st.2.2.1 k s = OK t
      by_cases e2 : t = j
      · exact ⟨zs c kd sd st.2.2.1 k, hz, by rw [e2, e1]; exact upd_at _ _ _⟩
      · obtain ⟨s, hs, e3⟩ := h5 t (by omega) h6
        refine ⟨s, hs, ?_⟩
        have e4 : s ≠ zs c kd sd st.2.2.1 k := fun e5 => by
          rw [← e5, e3] at hzn
          exact absurd hzn (i_nlt.mpr h6)
        rw [← e3]
        exact upd_ne e4
theorem RI.all {c kd sd lm : Nat} {OK OV : Nat → Int32} (hO : OKs c OK OV) : ∀ (n j : Nat) (st : rST), j + n = 64 → RI c kd sd lm OK OV j st → RI c kd sd lm OK OV 64 (rbN c kd sd OK OV n st j)
  | 0, j, st, hj, h => by
    have : j = 64 := by omega
    subst this
    exact h
  | n + 1, j, st, hj, h => by
    unfold rbN
    exact RI.all hO n (j + 1) _ (by omega) (RI.step hO h (by omega))
/-- the table without used slots -/
def eK (K : Nat → Int32) : Nat → Int32 := fun s => if s < 64 then -1 else K s
theorem eK_at {K : Nat → Int32} {s : Nat} (h : s < 64) : eK K s = -1 := if_pos h
theorem Inv.empty {c kd sd lm : Nat} {K V : Nat → Int32} (hc : cOK c) (hkd : kd ≤ 2) (hsd : sd ≤ 999) (hlm : 25 ≤ lm ∧ lm ≤ 90) : Inv c kd sd lm 0 0 (eK K) V := by
  have hge := hc.ge
  refine ⟨hc, hkd, hsd, hlm, cnt_none (fun s hs => by rw [eK_at hs]; decide), cnt_none (fun s hs => by rw [eK_at hs]; decide), by omega, fun s _ hs => eK_at hs, fun s hs => Or.inl (eK_at hs), fun s t hs _ h => ?_, fun s k hs hk h => ?_, fun s hs h => ?_⟩
  · rw [eK_at hs] at h; exact absurd h (by decide)
  · rw [eK_at hs] at h; exact absurd h.symm (n_ne1 (by omega))
  · rw [eK_at hs] at h; exact absurd h (by decide)
theorem RI.zero {c kd sd lm : Nat} {K V OK OV : Nat → Int32} (hc : cOK c) (hkd : kd ≤ 2) (hsd : sd ≤ 999) (hlm : 25 ≤ lm ∧ lm ≤ 90) : RI c kd sd lm OK OV 0 (0, 0, eK K, V) :=
  ⟨Inv.empty hc hkd hsd hlm, rfl, rfl, fun s hs h => by have h9 : (0 : Int32) ≤ eK K s := h; rw [eK_at hs] at h9; exact absurd h9 (by decide), fun t ht => absurd ht (Nat.not_lt_zero _)⟩
/-- the class fills a row -/
theorem c_fill_5 {K : Nat → Int32} : ∀ n i, i ≤ 64 → 64 - i < n → fJ7_fill_53178_5 64 n (fun s => if s < i then -1 else K s) (-1) (II i) (Int32.ofNat 64) = some (eK K)
  | 0, i, _, hn => by omega
  | n + 1, i, hi, hn => by
    unfold fJ7_fill_53178_5
    by_cases h : 64 ≤ i
    · have e : i = 64 := by omega
      subst e
      rw [if_pos (by decide)]
      rfl
    · rw [if_neg (fun e : Int32.ofNat 64 ≤ II i => h ((n_le (a := 64) (by decide) (by omega)).mp e)), if_pos (n_in (by omega) (by omega)), n_cl (by omega), show II i + (1 : Int32) = II (i + 1) from n_add i 1]
      rw [show upd (fun s => if s < i then (-1 : Int32) else K s) i (-1) = fun s => if s < i + 1 then (-1 : Int32) else K s from funext fun s => by
        unfold upd
        by_cases e : s = i
        · subst e; rw [if_pos rfl, if_pos (by omega)]
        · rw [if_neg e]
          show (if s < i then (-1 : Int32) else K s) = _
          by_cases e2 : s < i
          · rw [if_pos e2, if_pos (by omega)]
          · rw [if_neg e2, if_neg (by omega)]]
      exact c_fill_5 n (i + 1) (by omega) (by omega)
theorem c_fill (K : Nat → Int32) : fJ7_fill_53178 64 K (-1 : Int32) = some (eK K) := by
  have h := c_fill_5 (K := K) 1000 0 (by omega) (by omega)
  have e : (fun s => if s < 0 then (-1 : Int32) else K s) = K := funext fun s => if_neg (Nat.not_lt_zero _)
  rw [e] at h
  exact h
theorem c_empty (tcp tfu ttb x : Int32) (K : Nat → Int32) : fX5_empty tcp tfu ttb K x = some (x, 0, 0, eK K) := by
  unfold fX5_empty
  rw [c_fill, ob]
theorem c_rebuild_65 {c kd sd lm : Nat} {OK OV : Nat → Int32} (hO : OKs c OK OV) (rb gr : Int32) : ∀ (n j : Nat) (st : rST), j ≤ 64 → 64 - j < n → RI c kd sd lm OK OV j st →
    fX5_rebuildWith_65 n (II c) (II kd) (II sd) (II st.1) (II st.2.1) rb gr st.2.2.1 st.2.2.2 OK OV (II j) = some (II c, II (rbN c kd sd OK OV (64 - j) st j).1, II (rbN c kd sd OK OV (64 - j) st j).2.1, rb, gr, (rbN c kd sd OK OV (64 - j) st j).2.2.1, (rbN c kd sd OK OV (64 - j) st j).2.2.2, OK, OV)
  | 0, j, _, _, hn, _ => by omega
  | n + 1, j, st, hj, hn, h => by
    unfold fX5_rebuildWith_65
    by_cases h64 : 64 ≤ j
    · have e : j = 64 := by omega
      subst e
      rw [if_pos (by decide), Nat.sub_self]
      rfl
    · have hjl : j < 64 := by omega
      have hs := RI.step hO h hjl
      rw [if_neg (fun e : (64 : Int32) ≤ II j => h64 ((n_le (a := 64) (by decide) (by omega)).mp e)), if_pos (n_in (by omega) hjl), n_cl (by omega), show 64 - j = (64 - (j + 1)) + 1 from by omega]
      unfold rbN
      by_cases e : OK j < 0
      · rw [if_pos e, if_pos e]
        rw [if_pos e] at hs
        unfold fX5_rebuildWith_96
        rw [show II j + (1 : Int32) = II (j + 1) from n_add j 1]
        exact c_rebuild_65 hO rb gr n (j + 1) st (by omega) (by omega) hs
      · obtain ⟨k, hk, e1⟩ := hO.1.pos hjl (i_nlt.mp e)
        rw [if_neg e] at hs
        rw [if_neg e, if_neg e, if_pos (n_in (by omega) hjl), if_pos (n_in (by omega) hjl)]
        rw [e1, n_cl (by omega)] at hs ⊢
        rw [c_place h.1 hk, ob]
        unfold fX5_rebuildWith_96
        rw [show II j + (1 : Int32) = II (j + 1) from n_add j 1]
        exact c_rebuild_65 hO rb gr n (j + 1) (st.1 + 1, pT c kd sd st.2.1 st.2.2.1 k, pK c kd sd st.2.2.1 k, pV c kd sd st.2.2.1 st.2.2.2 k (OV j)) (by omega) (by omega) hs
/-! the reference -/
def cpR (mA : Nat → Int32) (a b : Nat) : Nat → Int32 := fun j => if 200 * b ≤ j ∧ j < 200 * b + 200 then mA (200 * a + (j - 200 * b)) else mA j
theorem r_copies_2 {mA : Nat → Int32} {a b : Nat} (ha : a ≤ 12) (hb : b ≤ 12) (hab : a ≠ b) : ∀ n i, i ≤ 200 → 200 - i < n → fX7_copies_2 n (fun j => if 200 * b ≤ j ∧ j < 200 * b + i then mA (200 * a + (j - 200 * b)) else mA j) (II a) (II b) (II i) = some (cpR mA a b)
  | 0, i, _, hn => by omega
  | n + 1, i, hi, hn => by
    unfold fX7_copies_2
    by_cases h : 200 ≤ i
    · have e : i = 200 := by omega
      subst e
      rw [if_pos (by decide)]
      rfl
    · have e1 : ∀ x, ((200 : Int32) * II x) + II i = II (200 * x + i) := fun x => by
        show (II 200 * II x) + II i = _
        rw [n_mul, n_add]
      rw [if_neg (fun e : (200 : Int32) ≤ II i => h ((n_le (a := 200) (by decide) (by omega)).mp e)), e1, e1, if_pos (n_in (by omega) (by omega)), if_pos (n_in (by omega) (by omega)), n_cl (by omega), n_cl (by omega), show II i + (1 : Int32) = II (i + 1) from n_add i 1]
      rw [show upd (fun j => if 200 * b ≤ j ∧ j < 200 * b + i then mA (200 * a + (j - 200 * b)) else mA j) (200 * b + i) (if 200 * b ≤ 200 * a + i ∧ 200 * a + i < 200 * b + i then mA (200 * a + (200 * a + i - 200 * b)) else mA (200 * a + i)) = fun j => if 200 * b ≤ j ∧ j < 200 * b + (i + 1) then mA (200 * a + (j - 200 * b)) else mA j from funext fun j => by
        unfold upd
        by_cases e : j = 200 * b + i
        · subst e
          rw [if_pos rfl, if_neg (by omega), if_pos (by omega)]
          exact congrArg mA (by omega)
        · rw [if_neg e]
          show (if 200 * b ≤ j ∧ j < 200 * b + i then mA (200 * a + (j - 200 * b)) else mA j) = _
          by_cases e2 : 200 * b ≤ j ∧ j < 200 * b + i
          · rw [if_pos e2, if_pos (by omega)]
          · rw [if_neg e2, if_neg (by omega)]]
      exact r_copies_2 ha hb hab n (i + 1) (by omega) (by omega)
theorem r_copies {a b : Nat} (mA : Nat → Int32) (ha : a ≤ 12) (hb : b ≤ 12) (hab : a ≠ b) : fX7_copies mA (II a) (II b) = some (cpR mA a b) := by
  have h := r_copies_2 (mA := mA) ha hb hab 1000 0 (by omega) (by omega)
  have e : (fun j => if 200 * b ≤ j ∧ j < 200 * b + 0 then mA (200 * a + (j - 200 * b)) else mA j) = mA := funext fun j => if_neg (by omega)
  rw [e] at h
  exact h
theorem cpR_in {mA : Nat → Int32} {a b i : Nat} (hi : i < 200) : cpR mA a b (200 * b + i) = mA (200 * a + i) := by
  unfold cpR
  rw [if_pos (by omega)]
  exact congrArg mA (by omega)
theorem cpR_out {mA : Nat → Int32} {a b j : Nat} (h : ¬ (200 * b ≤ j ∧ j < 200 * b + 200)) : cpR mA a b j = mA j := if_neg h
theorem r_empties_2 {m0 : Nat → Int32} {x : Int32} : ∀ n i (mA : Nat → Int32), i ≤ 64 → 64 - i < n → (∀ t, t < i → mA (8 + 3 * t) = 0) → (∀ j, j < 8 ∨ 200 ≤ j → mA j = m0 j) →
    ∃ m1, fX7_empties_2 n mA x (II i) = some (upd (upd (upd m1 0 x) 1 0) 2 0) ∧ (∀ t, t < 64 → m1 (8 + 3 * t) = 0) ∧ (∀ j, j < 8 ∨ 200 ≤ j → m1 j = m0 j)
  | 0, i, _, _, hn, _, _ => by omega
  | n + 1, i, mA, hi, hn, h1, h2 => by
    unfold fX7_empties_2
    by_cases h : 64 ≤ i
    · have e : i = 64 := by omega
      subst e
      rw [if_pos (by decide)]
      exact ⟨mA, rfl, h1, h2⟩
    · rw [if_neg (fun e : (64 : Int32) ≤ II i => h ((n_le (a := 64) (by decide) (by omega)).mp e)), r_set (by omega), ob, show II i + (1 : Int32) = II (i + 1) from n_add i 1]
      refine r_empties_2 n (i + 1) _ (by omega) (by omega) (fun t ht => ?_) (fun j hj => ?_)
      · rw [upd_ne (by omega), upd_ne (by omega)]
        by_cases e : t = i
        · subst e; exact upd_at _ _ _
        · rw [upd_ne (by omega)]; exact h1 t (by omega)
      · rw [upd_ne (by omega), upd_ne (by omega), upd_ne (by omega)]
        exact h2 j hj
theorem r_empties {mA : Nat → Int32} {c kd sd lm : Nat} {K V : Nat → Int32} (h3 : mA 3 = II kd) (h4 : mA 4 = II sd) (h5 : mA 5 = II lm) : ∃ m1, fX7_empties mA (II c) = some m1 ∧ Rw 0 c kd sd lm 0 0 (eK K) V m1 ∧ (∀ j, (3 ≤ j ∧ j < 8) ∨ 200 ≤ j → m1 j = mA j) := by
  obtain ⟨m1, g1, g2, g3⟩ := r_empties_2 (m0 := mA) (x := II c) 1000 0 mA (by omega) (by omega) (fun t ht => absurd ht (Nat.not_lt_zero _)) (fun _ _ => rfl)
  have far : ∀ j, 3 ≤ j → upd (upd (upd m1 0 (II c)) 1 0) 2 0 j = m1 j := fun j hj => by
    rw [upd_ne (by omega), upd_ne (by omega), upd_ne (by omega)]
  refine ⟨_, g1, ⟨?_, ?_, upd_at _ _ _, ?_, ?_, ?_, fun s hs => Or.inl ⟨eK_at hs, ?_⟩⟩, fun j hj => ?_⟩
  · rw [upd_ne (by omega), upd_ne (by omega)]; exact upd_at _ _ _
  · rw [upd_ne (by omega)]; exact upd_at _ _ _
  · rw [far (0 + 3) (by omega), g3 _ (Or.inl (by omega))]; exact h3
  · rw [far (0 + 4) (by omega), g3 _ (Or.inl (by omega))]; exact h4
  · rw [far (0 + 5) (by omega), g3 _ (Or.inl (by omega))]; exact h5
  · rw [far _ (by omega), show 0 + 8 + 3 * s = 8 + 3 * s from by omega]; exact g2 s hs
  · rw [far j (by omega)]; exact g3 j (by omega)
