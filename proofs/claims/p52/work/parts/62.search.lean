/-! searching -/
def ps (c kd sd : Nat) (K : Nat → Int32) (k : Nat) (i : Nat) : Bool := K (sq c kd sd k i) == II k || K (sq c kd sd k i) == -1
def fs (c kd sd : Nat) (K : Nat → Int32) (k : Nat) : Nat := fi (ps c kd sd K k) c 0
def pz (c kd sd : Nat) (K : Nat → Int32) (k : Nat) (i : Nat) : Bool := decide (K (sq c kd sd k i) < 0)
def fz (c kd sd : Nat) (K : Nat → Int32) (k : Nat) : Nat := fi (pz c kd sd K k) c 0
/-- the last slot that a search examines -/
def hs (c kd sd : Nat) (K : Nat → Int32) (k : Nat) : Nat := sq c kd sd k (fs c kd sd K k)
/-- the first slot of a sequence that isn't full -/
def zs (c kd sd : Nat) (K : Nat → Int32) (k : Nat) : Nat := sq c kd sd k (fz c kd sd K k)
/-- what a slot may hold -/
def KT (K : Nat → Int32) : Prop := ∀ s, s < 64 → K s = -1 ∨ K s = -2 ∨ ∃ k, k ≤ 9999 ∧ K s = II k
def Inv (c kd sd lm fu tb : Nat) (K V : Nat → Int32) : Prop :=
  cOK c ∧ kd ≤ 2 ∧ sd ≤ 999 ∧ (25 ≤ lm ∧ lm ≤ 90) ∧
  cnt (fun s => decide (0 ≤ K s)) 64 = fu ∧ cnt (fun s => decide (K s = -2)) 64 = tb ∧ fu + tb < c ∧
  (∀ s, c ≤ s → s < 64 → K s = -1) ∧ KT K ∧
  (∀ s t, s < 64 → t < 64 → 0 ≤ K s → K s = K t → s = t) ∧
  (∀ s k, s < 64 → k ≤ 9999 → K s = II k → ∃ i, i < c ∧ sq c kd sd k i = s ∧ ∀ j, j < i → K (sq c kd sd k j) ≠ -1) ∧
  (∀ s, s < 64 → 0 ≤ K s → (-999 : Int32) ≤ V s ∧ V s ≤ (999 : Int32))
theorem ps_iff {c kd sd k i : Nat} {K : Nat → Int32} : ps c kd sd K k i = true ↔ K (sq c kd sd k i) = II k ∨ K (sq c kd sd k i) = -1 := by
  unfold ps
  rw [Bool.or_eq_true, beq_iff_eq, beq_iff_eq]
theorem ps_no {c kd sd k i : Nat} {K : Nat → Int32} : ps c kd sd K k i = false ↔ K (sq c kd sd k i) ≠ II k ∧ K (sq c kd sd k i) ≠ -1 := by
  rw [← Bool.not_eq_true, ps_iff, not_or]
theorem pz_iff {c kd sd k i : Nat} {K : Nat → Int32} : pz c kd sd K k i = true ↔ K (sq c kd sd k i) < 0 := by
  unfold pz
  rw [decide_eq_true_iff]
theorem pz_no {c kd sd k i : Nat} {K : Nat → Int32} : pz c kd sd K k i = false ↔ 0 ≤ K (sq c kd sd k i) := by
  rw [← Bool.not_eq_true, pz_iff, i_nlt]
/-- there is an empty slot among the first c -/
theorem Inv.emp {c kd sd lm fu tb : Nat} {K V : Nat → Int32} (h : Inv c kd sd lm fu tb K V) : ∃ s, s < c ∧ K s = -1 := by
  obtain ⟨hc, -, -, -, h1, h2, h3, h4, h5, -⟩ := h
  have e : cnt (fun s => decide (K s ≠ -1)) 64 = fu + tb := by
    rw [← h1, ← h2]
    refine cnt_two (fun s hs => ?_)
    rcases h5 s hs with e | e | ⟨k, hk, e⟩
    · rw [e]; decide
    · rw [e]; decide
    · rw [e, decide_eq_true (n_0le (by omega)), decide_eq_true (n_ne1 (by omega)), decide_eq_false (n_ne2 (by omega))]
      decide
  have hle := cnt_mono (fun s => decide (K s ≠ -1)) hc.le
  obtain ⟨s, hs, hp⟩ := cnt_ex (p := fun s => decide (K s ≠ -1)) (n := c) (by omega)
  exact ⟨s, hs, Classical.byContradiction fun hn => by
    have : decide (K s ≠ -1) = true := decide_eq_true hn
    rw [hp] at this
    cases this⟩
theorem Inv.cok {c kd sd lm fu tb : Nat} {K V : Nat → Int32} (h : Inv c kd sd lm fu tb K V) : cOK c := h.1
theorem Inv.kd2 {c kd sd lm fu tb : Nat} {K V : Nat → Int32} (h : Inv c kd sd lm fu tb K V) : kd ≤ 2 := h.2.1
theorem Inv.sd9 {c kd sd lm fu tb : Nat} {K V : Nat → Int32} (h : Inv c kd sd lm fu tb K V) : sd ≤ 999 := h.2.2.1
theorem Inv.lm9 {c kd sd lm fu tb : Nat} {K V : Nat → Int32} (h : Inv c kd sd lm fu tb K V) : 25 ≤ lm ∧ lm ≤ 90 := h.2.2.2.1
theorem Inv.ft {c kd sd lm fu tb : Nat} {K V : Nat → Int32} (h : Inv c kd sd lm fu tb K V) : fu + tb < c := h.2.2.2.2.2.2.1
theorem Inv.kt {c kd sd lm fu tb : Nat} {K V : Nat → Int32} (h : Inv c kd sd lm fu tb K V) : KT K := h.2.2.2.2.2.2.2.2.1
theorem Inv.high {c kd sd lm fu tb : Nat} {K V : Nat → Int32} (h : Inv c kd sd lm fu tb K V) : ∀ s, c ≤ s → s < 64 → K s = -1 := h.2.2.2.2.2.2.2.1
theorem Inv.one {c kd sd lm fu tb : Nat} {K V : Nat → Int32} (h : Inv c kd sd lm fu tb K V) : ∀ s t, s < 64 → t < 64 → 0 ≤ K s → K s = K t → s = t := h.2.2.2.2.2.2.2.2.2.1
theorem Inv.found {c kd sd lm fu tb : Nat} {K V : Nat → Int32} (h : Inv c kd sd lm fu tb K V) : ∀ s k, s < 64 → k ≤ 9999 → K s = II k → ∃ i, i < c ∧ sq c kd sd k i = s ∧ ∀ j, j < i → K (sq c kd sd k j) ≠ -1 := h.2.2.2.2.2.2.2.2.2.2.1
theorem Inv.vals {c kd sd lm fu tb : Nat} {K V : Nat → Int32} (h : Inv c kd sd lm fu tb K V) : ∀ s, s < 64 → 0 ≤ K s → (-999 : Int32) ≤ V s ∧ V s ≤ (999 : Int32) := h.2.2.2.2.2.2.2.2.2.2.2
theorem Inv.cfu {c kd sd lm fu tb : Nat} {K V : Nat → Int32} (h : Inv c kd sd lm fu tb K V) : cnt (fun s => decide (0 ≤ K s)) 64 = fu := h.2.2.2.2.1
theorem Inv.ctb {c kd sd lm fu tb : Nat} {K V : Nat → Int32} (h : Inv c kd sd lm fu tb K V) : cnt (fun s => decide (K s = -2)) 64 = tb := h.2.2.2.2.2.1
theorem fs_lt {c kd sd k : Nat} {K : Nat → Int32} (hc : cOK c) (he : ∃ s, s < c ∧ K s = -1) : fs c kd sd K k < c := by
  obtain ⟨s, hs, h1⟩ := he
  obtain ⟨i, hi, h2⟩ := sq_sur (kd := kd) (sd := sd) (k := k) hc hs
  obtain ⟨a1, a2, a3, a4⟩ := fi_spec (ps c kd sd K k) c 0
  apply Classical.byContradiction
  intro hn
  have h3 := a3 i (Nat.zero_le _) (by unfold fs at hn; omega)
  exact (ps_no.mp h3).2 (by rw [h2, h1])
theorem fs_at {c kd sd k : Nat} {K : Nat → Int32} (hc : cOK c) (he : ∃ s, s < c ∧ K s = -1) : K (hs c kd sd K k) = II k ∨ K (hs c kd sd K k) = -1 := by
  have h1 := fs_lt (kd := kd) (sd := sd) (k := k) hc he
  obtain ⟨a1, a2, a3, a4⟩ := fi_spec (ps c kd sd K k) c 0
  exact ps_iff.mp (a4 (by unfold fs at h1; omega))
theorem fs_before {c kd sd k : Nat} {K : Nat → Int32} {j : Nat} (hj : j < fs c kd sd K k) : K (sq c kd sd k j) ≠ II k ∧ K (sq c kd sd k j) ≠ -1 := by
  obtain ⟨a1, a2, a3, a4⟩ := fi_spec (ps c kd sd K k) c 0
  exact ps_no.mp (a3 j (Nat.zero_le _) hj)
theorem fz_before {c kd sd k : Nat} {K : Nat → Int32} {j : Nat} (hj : j < fz c kd sd K k) : 0 ≤ K (sq c kd sd k j) := by
  obtain ⟨a1, a2, a3, a4⟩ := fi_spec (pz c kd sd K k) c 0
  exact pz_no.mp (a3 j (Nat.zero_le _) hj)
theorem fz_lt {c kd sd k : Nat} {K : Nat → Int32} (hc : cOK c) (he : ∃ s, s < c ∧ K s = -1) : fz c kd sd K k < c := by
  obtain ⟨s, hs, h1⟩ := he
  obtain ⟨i, hi, h2⟩ := sq_sur (kd := kd) (sd := sd) (k := k) hc hs
  apply Classical.byContradiction
  intro hn
  have h3 := fz_before (K := K) (kd := kd) (sd := sd) (k := k) (c := c) (j := i) (by omega)
  rw [h2, h1] at h3
  exact absurd h3 (by decide)
theorem fz_at {c kd sd k : Nat} {K : Nat → Int32} (hc : cOK c) (he : ∃ s, s < c ∧ K s = -1) : K (zs c kd sd K k) < 0 := by
  have h1 := fz_lt (kd := kd) (sd := sd) (k := k) hc he
  obtain ⟨a1, a2, a3, a4⟩ := fi_spec (pz c kd sd K k) c 0
  exact pz_iff.mp (a4 (by unfold fz at h1; omega))
/-- a search for a key that isn't there passes the first slot that isn't full -/
theorem fz_le {c kd sd k : Nat} {K : Nat → Int32} (hc : cOK c) (he : ∃ s, s < c ∧ K s = -1) (hn : K (hs c kd sd K k) ≠ II k) : fz c kd sd K k ≤ fs c kd sd K k := by
  apply Classical.byContradiction
  intro h
  have h1 := fz_before (K := K) (kd := kd) (sd := sd) (k := k) (c := c) (j := fs c kd sd K k) (by omega)
  rcases fs_at (kd := kd) (sd := sd) (k := k) hc he with h2 | h2
  · exact hn h2
  · unfold hs at h2
    rw [h2] at h1
    exact absurd h1 (by decide)
/-- a key that is there is found -/
theorem hs_of {c kd sd lm fu tb k s : Nat} {K V : Nat → Int32} (h : Inv c kd sd lm fu tb K V) (hs64 : s < 64) (hk : k ≤ 9999) (e : K s = II k) : hs c kd sd K k = s := by
  obtain ⟨i, hi, h1, h2⟩ := h.found s k hs64 hk e
  have h3 : fs c kd sd K k = i := by
    refine fi_eq (Nat.zero_le _) (by omega) (fun j _ hj => ps_no.mpr ⟨fun e2 => ?_, h2 j hj⟩) (fun _ => ps_iff.mpr (Or.inl (by rw [h1, e])))
    have h4 := h.one s (sq c kd sd k j) hs64 (sq_64 h.cok) (by rw [e]; exact n_0le (by omega)) (by rw [e, e2])
    have := sq_inj h.cok hi (by omega) (h1.trans h4)
    omega
  unfold hs
  rw [h3, h1]
/-! the class -/
theorem c_rows {s : Nat} (h : s < 64) : fX5_isInRows (II s) = some 1 := by
  unfold fX5_isInRows
  rw [if_neg (n_nlt0 (by omega)), if_neg (fun e : (64 : Int32) ≤ II s => by have := (n_le (a := 64) (by decide) (by omega)).mp e; omega)]
theorem c_rowsN : fX5_isInRows (-1) = some 0 := rfl
theorem i1n0 : ¬ (1 : Int32) = 0 := by decide
theorem c_content {K : Nat → Int32} {s : Nat} (h : s < 64) : fX5_content K (II s) = some (K s) := by
  unfold fX5_content
  rw [c_rows h, ob, if_neg i1n0, if_pos (n_in (by omega) h), n_cl (by omega)]
theorem c_valueOf {V : Nat → Int32} {s : Nat} (h : s < 64) : fX5_valueOf V (II s) = some (V s) := by
  unfold fX5_valueOf
  rw [c_rows h, ob, if_neg i1n0, if_pos (n_in (by omega) h), n_cl (by omega)]
theorem c_isUsed {K : Nat → Int32} {s : Nat} (h : s < 64) : fX5_isUsed K (II s) = some (if K s = -1 then 0 else 1) := by
  unfold fX5_isUsed
  rw [c_content h, ob]
  split <;> rfl
theorem c_isFull {K : Nat → Int32} {s : Nat} (h : s < 64) : fX5_isFullSlot K (II s) = some (if K s < 0 then 0 else 1) := by
  unfold fX5_isFullSlot
  rw [c_content h, ob]
  split <;> rfl
theorem c_search_2 {c kd sd k : Nat} {K : Nat → Int32} (hc : cOK c) (hkd : kd ≤ 2) (hsd : sd ≤ 999) (hk : k ≤ 9999) : ∀ n i, i ≤ c → c - i < n → fX5_searchLength_2 n (II c) (II kd) (II sd) K (II k) (II i) = some (if fi (ps c kd sd K k) (c - i) i < c then II (fi (ps c kd sd K k) (c - i) i + 1) else II c)
  | 0, i, _, hn => by omega
  | n + 1, i, hi, hn => by
    have h64 := hc.le
    unfold fX5_searchLength_2
    by_cases h : c ≤ i
    · have e : i = c := by omega
      subst e
      rw [if_pos ((n_le hc.lt (by omega)).mpr h), Nat.sub_self]
      unfold fi
      rw [if_neg (by omega)]
    · rw [if_neg (fun e => h ((n_le hc.lt (by omega)).mp e)), c_slotIn hc hkd hsd hk (by omega), ob, c_content (sq_64 hc), ob,
        show c - i = (c - (i + 1)) + 1 from by omega]
      have e1 : II i + (1 : Int32) = II (i + 1) := n_add i 1
      by_cases h1 : K (sq c kd sd k i) = II k
      · rw [if_pos h1, fi_here (ps_iff.mpr (Or.inl h1)), if_pos (by omega), e1]
      · rw [if_neg h1]
        by_cases h2 : K (sq c kd sd k i) = -1
        · rw [if_pos h2, fi_here (ps_iff.mpr (Or.inr h2)), if_pos (by omega), e1]
        · rw [if_neg h2, fi_step (ps_no.mpr ⟨h1, h2⟩), e1]
          exact c_search_2 hc hkd hsd hk n (i + 1) (by omega) (by omega)
theorem c_search {c kd sd k : Nat} {K : Nat → Int32} (hc : cOK c) (hkd : kd ≤ 2) (hsd : sd ≤ 999) (hk : k ≤ 9999) (he : ∃ s, s < c ∧ K s = -1) : fX5_searchLength (II c) (II kd) (II sd) K (II k) = some (II (fs c kd sd K k + 1)) := by
  have h64 := hc.le
  have h1 := fs_lt (kd := kd) (sd := sd) (k := k) hc he
  unfold fX5_searchLength
  rw [show (0 : Int32) = II 0 from rfl, c_search_2 hc hkd hsd hk 1000 0 (Nat.zero_le _) (by omega), Nat.sub_zero]
  unfold fs at h1 ⊢
  rw [if_pos h1]
theorem c_isKey {k : Nat} (h : k ≤ 9999) : fX6_isKey (II k) = some 1 := by
  unfold fX6_isKey
  rw [if_neg (n_nlt0 (by omega)), if_neg (fun e : (9999 : Int32) < II k => by have := (n_lt (a := 9999) (by decide) (by omega)).mp e; omega)]
theorem c_isKeyN {x : Int32} (h : ¬ ∃ k, k ≤ 9999 ∧ x = II k) : fX6_isKey x = some 0 := by
  unfold fX6_isKey
  by_cases h0 : x < 0
  · rw [if_pos h0]
  · rw [if_neg h0]
    by_cases h1 : (9999 : Int32) < x
    · rw [if_pos h1]
    · exact absurd (n_of2 (n := 9999) (by decide) (i_nlt.mp h0) (i_nlt.mp h1)) h
theorem c_hold {c kd sd k : Nat} {K : Nat → Int32} (hc : cOK c) (hkd : kd ≤ 2) (hsd : sd ≤ 999) (hk : k ≤ 9999) (he : ∃ s, s < c ∧ K s = -1) : fX5_slotHolding (II c) (II kd) (II sd) K (II k) = some (if K (hs c kd sd K k) = II k then II (hs c kd sd K k) else -1) := by
  have h64 := hc.le
  have h1 := fs_lt (kd := kd) (sd := sd) (k := k) hc he
  unfold fX5_slotHolding
  rw [c_isKey hk, ob, if_neg i1n0, c_search hc hkd hsd hk he, ob, show II (fs c kd sd K k + 1) - (1 : Int32) = II (fs c kd sd K k) from n_sub (b := 1) (by omega), c_slotIn hc hkd hsd hk (by omega), ob, c_content (sq_64 hc), ob]
  unfold hs
  split <;> rfl
theorem c_holdN {c kd sd : Nat} {K : Nat → Int32} {x : Int32} (h : ¬ ∃ k, k ≤ 9999 ∧ x = II k) : fX5_slotHolding (II c) (II kd) (II sd) K x = some (-1) := by
  unfold fX5_slotHolding
  rw [c_isKeyN h, ob, if_pos rfl]
/-! the reference -/
theorem r_nar0 : hl_nar .boolean 0 = true := by decide
theorem r_nar1 : hl_nar .boolean 1 = true := by decide
theorem r_isKey {k : Nat} (h : k ≤ 9999) : fX7_isKey (II k) = some 1 := by
  unfold fX7_isKey
  rw [show fX7_in (II k) (0 : Int32) (9999 : Int32) = _ from r_in (a := 0) (b := 9999) (n := k) (by omega) (by decide) (by decide), ob, if_pos (by omega : 0 ≤ k ∧ k ≤ 9999), if_pos r_nar1]
theorem r_inN {x a b : Int32} (h : ¬ (a ≤ x ∧ x ≤ b)) : fX7_in x a b = some 0 := by
  unfold fX7_in
  by_cases h0 : x < a
  · rw [if_pos h0]
  · rw [if_neg h0]
    by_cases h1 : b < x
    · rw [if_pos h1]
    · exact absurd ⟨i_nlt.mp h0, i_nlt.mp h1⟩ h
theorem r_inY {x a b : Int32} (h : a ≤ x ∧ x ≤ b) : fX7_in x a b = some 1 := by
  unfold fX7_in
  rw [if_neg (i_nlt.mpr h.1), if_neg (i_nlt.mpr h.2)]
theorem r_isKeyN {x : Int32} (h : ¬ ∃ k, k ≤ 9999 ∧ x = II k) : fX7_isKey x = some 0 := by
  unfold fX7_isKey
  rw [r_inN (a := 0) (b := 9999) (fun e => h (n_of2 (n := 9999) (by decide) e.1 e.2)), ob, if_pos r_nar0]
/-- what the reference's search lays out as free, ahead of place i -/
def fr (c kd sd : Nat) (K : Nat → Int32) (k i : Nat) : Int32 := if fz c kd sd K k < i then II (zs c kd sd K k) else -1
theorem zs_64 {c kd sd k : Nat} {K : Nat → Int32} (hc : cOK c) : zs c kd sd K k < 64 := sq_64 hc
theorem hs_64 {c kd sd k : Nat} {K : Nat → Int32} (hc : cOK c) : hs c kd sd K k < 64 := sq_64 hc
theorem fr_y {c kd sd k i : Nat} {K : Nat → Int32} (h : fz c kd sd K k < i) : fr c kd sd K k i = II (zs c kd sd K k) := if_pos h
theorem fr_n {c kd sd k i : Nat} {K : Nat → Int32} (h : ¬ fz c kd sd K k < i) : fr c kd sd K k i = -1 := if_neg h
theorem fr_step {c kd sd k i : Nat} {K : Nat → Int32} (hc : cOK c) (hi : i < c) : fr c kd sd K k (i + 1) = if 0 ≤ K (sq c kd sd k i) then fr c kd sd K k i else if 0 ≤ fr c kd sd K k i then fr c kd sd K k i else II (sq c kd sd k i) := by
  obtain ⟨a1, a2, a3, a4⟩ := fi_spec (pz c kd sd K k) c 0
  have hz := zs_64 (kd := kd) (sd := sd) (k := k) (K := K) hc
  rcases Nat.lt_trichotomy (fz c kd sd K k) i with h | h | h
  · rw [fr_y (by omega), fr_y h, if_pos (n_0le (a := zs c kd sd K k) (by omega))]
    split <;> rfl
  · have h1 : K (sq c kd sd k i) < 0 := by
      rw [← h]
      exact pz_iff.mp (a4 (by unfold fz at h; omega))
    rw [fr_y (by omega), fr_n (i := i) (by omega), if_neg (i_nle.mpr h1), if_neg (by decide)]
    unfold zs
    rw [h]
  · have h1 := fz_before (K := K) (kd := kd) (sd := sd) (k := k) (c := c) (j := i) h
    rw [fr_n (by omega), fr_n (i := i) (by omega), if_pos h1]
theorem r_search_10 {c kd sd lm fu tb k : Nat} {K V mA : Nat → Int32} (hR : Rw 0 c kd sd lm fu tb K V mA) (hc : cOK c) (hkd : kd ≤ 2) (hsd : sd ≤ 999) (hk : k ≤ 9999) (hT : KT K) (he : ∃ s, s < c ∧ K s = -1) :
    ∀ n i, i ≤ fs c kd sd K k → fs c kd sd K k - i < n → fX7_search_10 n (II i) (fr c kd sd K k i) mA (II k) = some (if K (hs c kd sd K k) = II k then II (hs c kd sd K k) else -1, II (fs c kd sd K k + 1), fr c kd sd K k (fs c kd sd K k + 1))
  | 0, i, _, hn => by omega
  | n + 1, i, hi, hn => by
    have h64 := hc.le
    have hf := fs_lt (kd := kd) (sd := sd) (k := k) hc he
    have hsl := sq_64 (kd := kd) (sd := sd) (k := k) (i := i) hc
    have e1 : II i + (1 : Int32) = II (i + 1) := n_add i 1
    have hst := fr_step (kd := kd) (sd := sd) (k := k) (K := K) hc (i := i) (by omega)
    have hrec := fun (h : i < fs c kd sd K k) => r_search_10 hR hc hkd hsd hk hT he n (i + 1) (by omega) (by omega)
    unfold fX7_search_10
    rw [hR.c0, if_neg (fun e => by have := (n_le hc.lt (by omega)).mp e; omega), r_slotAt hR.c0 hR.c3 hR.c4 hc hkd hk hsd (by omega), ob, r_at0 hsl, ob, e1]
    by_cases hfi : i = fs c kd sd K k
    · have hh : sq c kd sd k i = hs c kd sd K k := by unfold hs; rw [hfi]
      rw [hh] at hsl hst ⊢
      rcases fs_at (kd := kd) (sd := sd) (k := k) hc he with h | h
      · rw [h, if_pos (n_0le (by omega))] at hst
        rcases hR.at hsl with ⟨g, -⟩ | ⟨g, -⟩ | ⟨-, g1, g2, -⟩
        · rw [h] at g; exact absurd g (n_ne1 (by omega))
        · rw [h] at g; exact absurd g (n_ne2 (by omega))
        · rw [g1, if_pos rfl, r_at1 hsl, ob, g2, h, if_pos rfl, if_pos rfl, ← hfi, hst]
      · rw [h, if_neg (by decide)] at hst
        have hne : K (hs c kd sd K k) ≠ II k := by rw [h]; exact fun e => n_ne1 (by omega) e.symm
        rcases hR.at hsl with ⟨-, g1⟩ | ⟨g, -⟩ | ⟨g, -⟩
        · rw [g1, if_neg (by decide), if_neg hne, ← hfi, hst]
          unfold fX7_search_67 fX7_search_88
          rw [if_neg (by decide)]
          split
          · rw [if_pos rfl]
          · rw [if_pos rfl]
        · rw [h] at g; exact absurd g (by decide)
        · rw [h] at g; exact absurd g (by decide)
    · have hb := fs_before (K := K) (kd := kd) (sd := sd) (k := k) (c := c) (j := i) (by omega)
      have hrec := hrec (by omega)
      rcases hR.at hsl with ⟨g, -⟩ | ⟨g, g1⟩ | ⟨g, g1, g2, -⟩
      · exact absurd g hb.2
      · rw [g, if_neg (by decide)] at hst
        rw [g1, if_neg (by decide)]
        unfold fX7_search_67 fX7_search_88
        rw [if_neg (by decide)]
        by_cases h0 : 0 ≤ fr c kd sd K k i
        · rw [if_pos h0] at hst
          rw [if_pos h0, if_neg (by decide), ← hst, hrec]
        · rw [if_neg h0] at hst
          rw [if_neg h0, if_neg (by decide), ← hst, hrec]
      · rw [if_pos g] at hst
        rw [g1, if_pos rfl, r_at1 hsl, ob, g2, if_neg hb.1]
        unfold fX7_search_67 fX7_search_88
        rw [if_pos rfl, if_neg (by decide), ← hst, hrec]
theorem r_search {c kd sd lm fu tb k : Nat} {K V mA : Nat → Int32} (hR : Rw 0 c kd sd lm fu tb K V mA) (hc : cOK c) (hkd : kd ≤ 2) (hsd : sd ≤ 999) (hk : k ≤ 9999) (hT : KT K) (he : ∃ s, s < c ∧ K s = -1) (mex mfr : Int32) :
    fX7_search mex mfr mA (II k) = some (if K (hs c kd sd K k) = II k then II (hs c kd sd K k) else -1, II (fs c kd sd K k + 1), fr c kd sd K k (fs c kd sd K k + 1)) := by
  have h64 := hc.le
  have hf := fs_lt (kd := kd) (sd := sd) (k := k) hc he
  have h0 : fr c kd sd K k 0 = -1 := if_neg (Nat.not_lt_zero _)
  unfold fX7_search
  rw [← h0]
  exact r_search_10 hR hc hkd hsd hk hT he 1000 0 (Nat.zero_le _) (by omega)
theorem r_exam {c kd sd lm fu tb k : Nat} {K V mA : Nat → Int32} (hR : Rw 0 c kd sd lm fu tb K V mA) (hc : cOK c) (hkd : kd ≤ 2) (hsd : sd ≤ 999) (hk : k ≤ 9999) (hT : KT K) (he : ∃ s, s < c ∧ K s = -1) (mex mfr : Int32) :
    fX7_examinedFor mex mfr mA (II k) = some (II (fs c kd sd K k + 1), II (fs c kd sd K k + 1), fr c kd sd K k (fs c kd sd K k + 1)) := by
  unfold fX7_examinedFor
  rw [r_search hR hc hkd hsd hk hT he, ob]
