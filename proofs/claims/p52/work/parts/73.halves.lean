/-! calls of both: clusters clusterSize largestCluster largestClusterByHalves -/
/-! by halves -/
def w_k (K : Nat → Int32) (s : Nat) : Bool := decide (K s ≠ -1)
theorem w_uk {K : Nat → Int32} {c s : Nat} (h : s < c) : w_u K c s = w_k K s := by
  unfold w_u w_k
  rw [Nat.mod_eq_of_lt h]
theorem c_k {s : Nat} {K : Nat → Int32} (h : s < 64) : fX5_isUsed K (II s) = some (bI (w_k K s)) := by
  rw [c_isUsed h]
  unfold w_k bI
  by_cases e : K s = -1
  · rw [if_pos e, decide_eq_false (fun h => h e)]; rfl
  · rw [if_neg e, decide_eq_true e]; rfl
def w_ub (K : Nat → Int32) (lo : Nat) : Nat → Nat
  | 0 => 0
  | e + 1 => if e < lo then 0 else if w_k K e then w_ub K lo e + 1 else 0
def w_uf (K : Nat → Int32) : Nat → Nat → Nat
  | 0, _ => 0
  | n + 1, s => if w_k K s then w_uf K n (s + 1) + 1 else 0
theorem w_ub_le (K : Nat → Int32) (lo : Nat) : ∀ e, w_ub K lo e ≤ e - lo
  | 0 => Nat.zero_le _
  | e + 1 => by
    have := w_ub_le K lo e
    unfold w_ub
    by_cases h : e < lo
    · rw [if_pos h]; omega
    · rw [if_neg h]
      split <;> omega
theorem w_ub_run (K : Nat → Int32) (lo : Nat) : ∀ e j, j < w_ub K lo e → w_k K (e - 1 - j) = true
  | 0, j, hj => absurd hj (Nat.not_lt_zero _)
  | e + 1, j, hj => by
    unfold w_ub at hj
    by_cases h : e < lo
    · rw [if_pos h] at hj; omega
    · rw [if_neg h] at hj
      cases hu : w_k K e
      · rw [hu, if_neg (by decide)] at hj; omega
      · rw [hu, if_pos rfl] at hj
        cases j with
        | zero => exact hu
        | succ j =>
          rw [show e + 1 - 1 - (j + 1) = e - 1 - j from by omega]
          exact w_ub_run K lo e j (by omega)
theorem w_ub_ge (K : Nat → Int32) (lo : Nat) : ∀ e L, L ≤ e - lo → (∀ j, j < L → w_k K (e - 1 - j) = true) → L ≤ w_ub K lo e
  | 0, L, h, _ => by omega
  | e + 1, 0, _, _ => Nat.zero_le _
  | e + 1, L + 1, h, h1 => by
    have ih := w_ub_ge K lo e L (by omega) (fun j hj => by
      have := h1 (j + 1) (by omega)
      rw [show e + 1 - 1 - (j + 1) = e - 1 - j from by omega] at this
      exact this)
    have h0 := h1 0 (by omega)
    rw [show e + 1 - 1 - 0 = e from by omega] at h0
    unfold w_ub
    rw [if_neg (by omega), h0, if_pos rfl]
    omega
theorem w_uf_le (K : Nat → Int32) : ∀ n s, w_uf K n s ≤ n
  | 0, _ => Nat.le_refl _
  | n + 1, s => by
    have := w_uf_le K n (s + 1)
    unfold w_uf
    split <;> omega
theorem w_uf_run (K : Nat → Int32) : ∀ n s j, j < w_uf K n s → w_k K (s + j) = true
  | 0, _, j, hj => absurd hj (Nat.not_lt_zero _)
  | n + 1, s, j, hj => by
    unfold w_uf at hj
    cases hu : w_k K s
    · rw [hu, if_neg (by decide)] at hj; omega
    · rw [hu, if_pos rfl] at hj
      cases j with
      | zero => exact hu
      | succ j =>
        rw [show s + (j + 1) = s + 1 + j from by omega]
        exact w_uf_run K n (s + 1) j (by omega)
theorem w_uf_ge (K : Nat → Int32) : ∀ n s L, L ≤ n → (∀ j, j < L → w_k K (s + j) = true) → L ≤ w_uf K n s
  | n, s, 0, _, _ => Nat.zero_le _
  | 0, s, L + 1, h, _ => by omega
  | n + 1, s, L + 1, h, h1 => by
    have ih := w_uf_ge K n (s + 1) L (by omega) (fun j hj => by
      have := h1 (j + 1) (by omega)
      rw [show s + (j + 1) = s + 1 + j from by omega] at this
      exact this)
    have h0 := h1 0 (by omega)
    rw [Nat.add_zero] at h0
    unfold w_uf
    rw [h0, if_pos rfl]
    omega
theorem n_pred1 {e : Nat} : II (e + 1) - (1 : Int32) = II e := (n_sub (a := e + 1) (b := 1) (by omega)).trans (congrArg II (by omega))
theorem c_before_7 {K : Nat → Int32} {lo : Nat} (hlo : lo ≤ 64) : ∀ n e acc, e ≤ 64 → e < n → fX1_usedBefore_7 n K (II lo) (II acc) (II e - (1 : Int32)) = some (II (acc + w_ub K lo e))
  | 0, e, _, _, hn => by omega
  | n + 1, 0, acc, _, _ => by
    unfold fX1_usedBefore_7 w_ub
    rw [if_pos (show II 0 - (1 : Int32) < II lo from i_lt_le (y := 0) (by decide) (n_0le (by omega))), Nat.add_zero]
  | n + 1, e + 1, acc, he, hn => by
    have ih := c_before_7 (K := K) hlo n e (acc + 1) (by omega) (by omega)
    rw [n_pred1]
    unfold fX1_usedBefore_7 w_ub
    by_cases h : e < lo
    · rw [if_pos ((n_lt (by omega) (by omega)).mpr h), if_pos h, Nat.add_zero]
    · rw [if_neg (fun e2 => h ((n_lt (by omega) (by omega)).mp e2)), if_neg h, c_k (by omega), ob]
      cases hu : w_k K e
      · rw [if_pos (show bI false = 0 from rfl), if_neg (by decide), Nat.add_zero]
      · rw [if_neg (by decide), if_pos rfl, show II acc + (1 : Int32) = II (acc + 1) from n_add acc 1, show II e + (-1 : Int32) = II e - (1 : Int32) from (Int32.sub_eq_add_neg _ _).symm, ih]
        exact congrArg some (congrArg II (by omega))
theorem c_before {K : Nat → Int32} {lo e : Nat} (hlo : lo ≤ 64) (he : e ≤ 64) : fX1_usedBefore K (II e) (II lo) = some (II (w_ub K lo e)) := by
  have h := c_before_7 (K := K) hlo 1000 e 0 he (by omega)
  rw [Nat.zero_add] at h
  exact h
theorem c_from_5 {K : Nat → Int32} {hi : Nat} (hhi : hi ≤ 64) : ∀ n m s acc, s + m = hi → m < n → fX1_usedFrom_5 n K (II hi) (II acc) (II s) = some (II (acc + w_uf K m s))
  | 0, m, _, _, _, hn => by omega
  | n + 1, 0, s, acc, hs, _ => by
    have : s = hi := by omega
    subst this
    unfold fX1_usedFrom_5 w_uf
    rw [if_pos ((n_le (by omega) (by omega)).mpr (Nat.le_refl _)), Nat.add_zero]
  | n + 1, m + 1, s, acc, hs, hn => by
    have ih := c_from_5 (K := K) hhi n m (s + 1) (acc + 1) (by omega) (by omega)
    unfold fX1_usedFrom_5 w_uf
    rw [if_neg (fun e2 : II hi ≤ II s => by have := (n_le (by omega) (by omega)).mp e2; omega), c_k (by omega), ob]
    cases hu : w_k K s
    · rw [if_pos (show bI false = 0 from rfl), if_neg (by decide), Nat.add_zero]
    · rw [if_neg (by decide), if_pos rfl, show II acc + (1 : Int32) = II (acc + 1) from n_add acc 1, show II s + (1 : Int32) = II (s + 1) from n_add s 1, ih]
      exact congrArg some (congrArg II (by omega))
theorem c_from {K : Nat → Int32} {s m : Nat} (h : s + m ≤ 64) : fX1_usedFrom K (II s) (II (s + m)) = some (II (w_uf K m s)) := by
  have h := c_from_5 (K := K) (hi := s + m) h 1000 m s 0 rfl (by omega)
  rw [Nat.zero_add] at h
  exact h
def w_m (a b : Nat) : Nat := if a < b then b else a
def w_li (K : Nat → Int32) : Nat → Nat → Nat
  | 0, lo => if w_k K lo then 1 else 0
  | e + 1, lo => w_m (w_m (w_li K e lo) (w_li K e (lo + 2 ^ e))) (w_ub K lo (lo + 2 ^ e) + w_uf K (2 ^ e) (lo + 2 ^ e))
theorem n_max {a b : Nat} (ha : a < 2147483648) (hb : b < 2147483648) : (if II a < II b then II b else II a) = II (w_m a b) := by
  unfold w_m
  by_cases h : a < b
  · rw [if_pos ((n_lt ha hb).mpr h), if_pos h]
  · rw [if_neg (fun e => h ((n_lt ha hb).mp e)), if_neg h]
theorem w_m_le {a b n : Nat} (ha : a ≤ n) (hb : b ≤ n) : w_m a b ≤ n := by unfold w_m; split <;> omega
theorem w_m_ge1 (a b : Nat) : a ≤ w_m a b := by unfold w_m; split <;> omega
theorem w_m_ge2 (a b : Nat) : b ≤ w_m a b := by unfold w_m; split <;> omega
theorem w_m_or (a b : Nat) : w_m a b = a ∨ w_m a b = b := by
  unfold w_m
  split
  · exact Or.inr rfl
  · exact Or.inl rfl
theorem w_li_le (K : Nat → Int32) : ∀ e lo, w_li K e lo ≤ 2 ^ e
  | 0, lo => by
    unfold w_li
    split <;> omega
  | e + 1, lo => by
    have h1 := w_li_le K e lo
    have h2 := w_li_le K e (lo + 2 ^ e)
    have h3 := w_ub_le K lo (lo + 2 ^ e)
    have h4 := w_uf_le K (2 ^ e) (lo + 2 ^ e)
    have h5 : 2 ^ (e + 1) = 2 ^ e + 2 ^ e := by rw [Nat.pow_succ]; omega
    unfold w_li
    rw [h5]
    exact w_m_le (w_m_le (by omega) (by omega)) (by omega)
theorem c_li {K : Nat → Int32} : ∀ e n d lo, e < n → d + e ≤ 8 → lo + 2 ^ e ≤ 64 → fX1_largestIn n K (II lo) (II (lo + 2 ^ e)) (II d) = some (II (w_li K e lo))
  | _, 0, _, _, hn, _, _ => by omega
  | 0, n + 1, d, lo, _, hd, hlo => by
    have e1 : II (lo + 2 ^ 0) - II lo = (1 : Int32) := (n_sub (a := lo + 1) (b := lo) (by omega)).trans (by rw [show lo + 1 - lo = 1 from by omega]; rfl)
    unfold fX1_largestIn w_li
    rw [if_neg (fun e : II (lo + 2 ^ 0) ≤ II lo => by have := (n_le (by omega) (by omega)).mp e; omega), if_pos (show II d ≤ (8 : Int32) from (n_le (b := 8) (by omega) (by decide)).mpr (by omega)), if_pos e1, c_k (by omega), ob]
    cases w_k K lo <;> rfl
  | e + 1, n + 1, d, lo, hn, hd, hlo => by
    have h5 : 2 ^ (e + 1) = 2 ^ e + 2 ^ e := by rw [Nat.pow_succ]; omega
    have hpos : 0 < 2 ^ e := Nat.two_pow_pos e
    have emid : (II lo + II (lo + 2 ^ (e + 1))) / (2 : Int32) = II (lo + 2 ^ e) := by
      rw [n_add, n_half (by omega)]
      exact congrArg II (by omega)
    have ehi : lo + 2 ^ (e + 1) = lo + 2 ^ e + 2 ^ e := by omega
    have h1 := c_li (K := K) e n (d + 1) lo (by omega) (by omega) (by omega)
    have h2 := c_li (K := K) e n (d + 1) (lo + 2 ^ e) (by omega) (by omega) (by omega)
    have l1 := w_li_le K e lo
    have l2 := w_li_le K e (lo + 2 ^ e)
    have l3 := w_ub_le K lo (lo + 2 ^ e)
    have l4 := w_uf_le K (2 ^ e) (lo + 2 ^ e)
    have l5 := w_m_le (n := 64) (a := w_li K e lo) (b := w_li K e (lo + 2 ^ e)) (by omega) (by omega)
    have ne1 : ¬ II (lo + 2 ^ (e + 1)) - II lo = (1 : Int32) := fun h => by
      rw [n_sub (by omega)] at h
      have := (n_eq (b := 1) (by omega) (by decide)).mp h
      omega
    unfold fX1_largestIn w_li
    rw [if_neg (fun e9 : II (lo + 2 ^ (e + 1)) ≤ II lo => by have := (n_le (by omega) (by omega)).mp e9; omega), if_pos (show II d ≤ (8 : Int32) from (n_le (b := 8) (by omega) (by decide)).mpr (by omega)), if_neg ne1, emid, show II d + (1 : Int32) = II (d + 1) from n_add d 1, h1, ob, ehi, h2, ob, c_before (by omega) (by omega), ob, c_from (by omega), ob, n_max (by omega) (by omega), n_add, n_max (by omega) (by omega)]
/-- the longest run in a part of the row -/
def w_lr (K : Nat → Int32) (lo len M : Nat) : Prop := (∃ a, lo ≤ a ∧ a + M ≤ lo + len ∧ ∀ j, j < M → w_k K (a + j) = true) ∧ ∀ a L, lo ≤ a → a + L ≤ lo + len → (∀ j, j < L → w_k K (a + j) = true) → L ≤ M
theorem w_li_lr (K : Nat → Int32) : ∀ e lo, w_lr K lo (2 ^ e) (w_li K e lo)
  | 0, lo => by
    unfold w_li
    cases hu : w_k K lo
    · show w_lr K lo (2 ^ 0) 0
      refine ⟨⟨lo, Nat.le_refl _, by omega, fun j hj => by omega⟩, fun a L h1 h2 h3 => ?_⟩
      by_cases hL : L = 0
      · omega
      · have h4 := h3 0 (by omega)
        rw [show a + 0 = lo from by omega, hu] at h4
        cases h4
    · show w_lr K lo (2 ^ 0) 1
      refine ⟨⟨lo, Nat.le_refl _, by omega, fun j hj => ?_⟩, fun a L h1 h2 h3 => ?_⟩
      · rw [show lo + j = lo from by omega]
        exact hu
      · omega
  | e + 1, lo => by
    have h5 : 2 ^ (e + 1) = 2 ^ e + 2 ^ e := by rw [Nat.pow_succ]; omega
    obtain ⟨⟨a1, b1, b2, b3⟩, b4⟩ := w_li_lr K e lo
    obtain ⟨⟨a2, c1, c2, c3⟩, c4⟩ := w_li_lr K e (lo + 2 ^ e)
    have u1 := w_ub_le K lo (lo + 2 ^ e)
    have u2 := w_ub_run K lo (lo + 2 ^ e)
    have u3 := w_ub_ge K lo (lo + 2 ^ e)
    have v1 := w_uf_le K (2 ^ e) (lo + 2 ^ e)
    have v2 := w_uf_run K (2 ^ e) (lo + 2 ^ e)
    have v3 := w_uf_ge K (2 ^ e) (lo + 2 ^ e)
    unfold w_li
    refine ⟨?_, fun a L h1 h2 h3 => ?_⟩
    · rcases w_m_or (w_m (w_li K e lo) (w_li K e (lo + 2 ^ e))) (w_ub K lo (lo + 2 ^ e) + w_uf K (2 ^ e) (lo + 2 ^ e)) with g | g
      · rw [g]
        rcases w_m_or (w_li K e lo) (w_li K e (lo + 2 ^ e)) with g2 | g2
        · rw [g2]; exact ⟨a1, b1, by omega, b3⟩
        · rw [g2]; exact ⟨a2, by omega, by omega, c3⟩
      · rw [g]
        refine ⟨lo + 2 ^ e - w_ub K lo (lo + 2 ^ e), by omega, by omega, fun j hj => ?_⟩
        by_cases hj2 : j < w_ub K lo (lo + 2 ^ e)
        · have := u2 (w_ub K lo (lo + 2 ^ e) - 1 - j) (by omega)
          rw [← this]
          exact congrArg (w_k K) (by omega)
        · have := v2 (j - w_ub K lo (lo + 2 ^ e)) (by omega)
          rw [← this]
          exact congrArg (w_k K) (by omega)
    · have m1 := w_m_ge1 (w_m (w_li K e lo) (w_li K e (lo + 2 ^ e))) (w_ub K lo (lo + 2 ^ e) + w_uf K (2 ^ e) (lo + 2 ^ e))
      have m2 := w_m_ge2 (w_m (w_li K e lo) (w_li K e (lo + 2 ^ e))) (w_ub K lo (lo + 2 ^ e) + w_uf K (2 ^ e) (lo + 2 ^ e))
      have m3 := w_m_ge1 (w_li K e lo) (w_li K e (lo + 2 ^ e))
      have m4 := w_m_ge2 (w_li K e lo) (w_li K e (lo + 2 ^ e))
      by_cases p1 : a + L ≤ lo + 2 ^ e
      · have := b4 a L h1 p1 h3
        omega
      · by_cases p2 : lo + 2 ^ e ≤ a
        · have := c4 a L p2 (by omega) h3
          omega
        · have q1 := u3 (lo + 2 ^ e - a) (by omega) (fun j hj => by
            have := h3 (lo + 2 ^ e - a - 1 - j) (by omega)
            rw [← this]
            exact congrArg (w_k K) (by omega))
          have q2 := v3 (a + L - (lo + 2 ^ e)) (by omega) (fun j hj => by
            have := h3 (lo + 2 ^ e - a + j) (by omega)
            rw [← this]
            exact congrArg (w_k K) (by omega))
          omega
theorem c_halves {c : Nat} {K : Nat → Int32} (hc : cOK c) (hE : w_E K c) : ∃ r, fX1_largestOfHalves (II c) K = some (II r) ∧ w_max K c r := by
  have h64 := hc.le
  have h8 := hc.ge
  have hp : ∃ e, e ≤ 6 ∧ c = 2 ^ e := by
    rcases hc with rfl | rfl | rfl | rfl
    · exact ⟨3, by decide, rfl⟩
    · exact ⟨4, by decide, rfl⟩
    · exact ⟨5, by decide, rfl⟩
    · exact ⟨6, by decide, rfl⟩
  obtain ⟨e, he, hce⟩ := hp
  have h1 := c_li (K := K) e 12 0 0 (by omega) (by omega) (by omega)
  obtain ⟨⟨a1, b1, b2, b3⟩, b4⟩ := w_li_lr K e 0
  rw [Nat.zero_add, ← hce] at h1 b2
  have b4 : ∀ a L, 0 ≤ a → a + L ≤ c → (∀ j, j < L → w_k K (a + j) = true) → L ≤ w_li K e 0 := fun a L h1 h2 h3 => b4 a L h1 (by omega) h3
  have u1 := w_ub_le K 0 c
  have u2 := w_ub_run K 0 c
  have u3 := w_ub_ge K 0 c
  have v1 := w_uf_le K c 0
  have v2 := w_uf_run K c 0
  have v3 := w_uf_ge K c 0
  have h2 := c_before (K := K) (lo := 0) (e := c) (by omega) h64
  have h3 := c_from (K := K) (s := 0) (m := c) (by omega)
  rw [Nat.zero_add] at h3
  refine ⟨w_m (w_ub K 0 c + w_uf K c 0) (w_li K e 0), ?_, ?_, fun a L h => ?_⟩
  · unfold fX1_largestOfHalves
    rw [show fX1_usedBefore K (II c) (0 : Int32) = _ from h2, ob, show fX1_usedFrom K (0 : Int32) (II c) = _ from h3, ob, show fX1_largestIn 12 K (0 : Int32) (II c) (0 : Int32) = _ from h1, ob, n_add, n_max (by omega) (by omega)]
  · rcases w_m_or (w_ub K 0 c + w_uf K c 0) (w_li K e 0) with g | g
    · rw [g]
      refine ⟨c - w_ub K 0 c, fun j hj => ?_⟩
      by_cases hj2 : j < w_ub K 0 c
      · rw [w_uk (by omega), ← u2 (w_ub K 0 c - 1 - j) (by omega)]
        exact congrArg (w_k K) (by omega)
      · by_cases hj3 : j - w_ub K 0 c < c
        · rw [show c - w_ub K 0 c + j = j - w_ub K 0 c + c from by omega, w_per, w_uk hj3, ← v2 (j - w_ub K 0 c) (by omega)]
          exact congrArg (w_k K) (by omega)
        · omega
    · rw [g]
      refine ⟨a1, fun j hj => ?_⟩
      rw [w_uk (by omega)]
      exact b3 j hj
  · have hlt := w_short hE h
    have m1 := w_m_ge1 (w_ub K 0 c + w_uf K c 0) (w_li K e 0)
    have m2 := w_m_ge2 (w_ub K 0 c + w_uf K c 0) (w_li K e 0)
    have ham : a % c < c := Nat.mod_lt _ (by omega)
    have hk : ∀ j, j < L → ∀ s, s < c → (a % c + j = s ∨ a % c + j = s + c) → w_k K s = true := fun j hj s hs hor => by
      rw [← w_uk hs, ← h j hj]
      refine w_cong ?_
      rw [← Nat.mod_add_mod]
      rcases hor with g | g
      · rw [g]
      · rw [g, Nat.add_mod_right]
    by_cases p1 : a % c + L ≤ c
    · have := b4 (a % c) L (Nat.zero_le _) p1 (fun j hj => hk j hj _ (by omega) (Or.inl rfl))
      omega
    · have q1 := u3 (c - a % c) (by omega) (fun j hj => hk (c - a % c - 1 - j) (by omega) _ (by omega) (Or.inl (by omega)))
      have q2 := v3 (a % c + L - c) (by omega) (fun j hj => hk (c - a % c + j) (by omega) _ (by omega) (Or.inr (by omega)))
      omega
theorem Inv.wE {c kd sd lm fu tb : Nat} {K V : Nat → Int32} (h : Inv c kd sd lm fu tb K V) : w_E K c := by
  obtain ⟨s, hs, e⟩ := h.emp
  refine ⟨s, hs, ?_⟩
  unfold w_u
  rw [Nat.mod_eq_of_lt hs]
  exact decide_eq_false (fun h => h e)
set_option maxHeartbeats 2000000 in
theorem k_clusters {isv : Int32} {rpo : Int32} {rco : Int32} {tcp : Int32} {tkd : Int32} {tsd : Int32} {tlm : Int32} {tfu : Int32} {ttb : Int32} {trb : Int32} {tgr : Int32} {tK : Nat → Int32} {tV : Nat → Int32} {wcp : Int32} {wkd : Int32} {wsd : Int32} {wlm : Int32} {wfu : Int32} {wtb : Int32} {wrb : Int32} {wgr : Int32} {wK : Nat → Int32} {wV : Nat → Int32} {hnw : Int32} {hct : Int32} {hp : Nat → hTT} {pl : Int32} {pS : Nat → Int32} {ln : Int32} {lS : Nat → Int32} {mch : Int32} {msv : Int32} {mls : Int32} {mty : Int32} {mea : Int32} {mfa : Int32} {mA : Nat → Int32} {mL : Nat → Int32} {mI : Nat → Int32} {mth : Int32} (h : Rel isv rpo rco tcp tkd tsd tlm tfu ttb trb tgr tK tV wcp wkd wsd wlm wfu wtb wrb wgr wK wV hnw hct hp pl pS ln lS mch msv mls mty mea mfa mA mL mI) : ∃ out out2, fX6_clusters tcp tK = some out ∧ fX7_clusters mth mA = some out2 ∧ out = out2.1 ∧ Rel isv rpo rco tcp tkd tsd tlm tfu ttb trb tgr tK tV wcp wkd wsd wlm wfu wtb wrb wgr wK wV hnw hct hp pl pS ln lS mch msv mls mty mea mfa mA mL mI := by
  have h0 := h
  obtain ⟨c, kd, sd, lm, fu, tb, ⟨rfl, rfl, rfl, rfl, rfl, rfl⟩, hI, hR, g6, g7⟩ := h.1
  have h64 := hI.cok.le
  have h8 := hI.cok.ge
  have loop : ∀ n i (v : Int32), i ≤ c → c - i < n → ∃ r, fX1_number_4 n (II c) tK v (II i) = some r ∧ fX7_clusters_9 n 0 mA v (II i) = some (r, 0) := fun n => by
    induction n with
    | zero => intro i v _ hn; omega
    | succ n ih =>
      intro i v hi hn
      unfold fX1_number_4 fX1_number_37 fX7_clusters_9 fX7_clusters_43
      rw [hR.c0]
      by_cases e : c ≤ i
      · have : i = c := by omega
        subst this
        rw [if_pos ((n_le hI.cok.lt hI.cok.lt).mpr e), if_pos ((n_le hI.cok.lt hI.cok.lt).mpr e)]
        exact ⟨v, rfl, rfl⟩
      · have n1 : ¬ II c ≤ II i := fun e3 => e ((n_le hI.cok.lt (by omega)).mp e3)
        have u1 := c_u (m := i) (K := tK) hI.cok
        rw [Nat.mod_eq_of_lt (by omega)] at u1
        rw [if_neg n1, if_neg n1, u1, ob, r_u hR hI.cok (m := i + c) (by omega) (n_add _ _), ob, w_per, show II i + (1 : Int32) = II (i + 1) from n_add i 1]
        cases hu : w_u tK c i
        · rw [if_pos (show bI false = 0 from rfl), if_pos (show bI false = 0 from rfl), Int32.add_zero]
          exact ih (i + 1) v (by omega) (by omega)
        · rw [if_neg (show ¬ bI true = 0 by decide), if_neg (show ¬ bI true = 0 by decide), show fX5_wrap (II c) (II i - (1 : Int32)) = _ from c_wrapN (a := i) (b := 1) hI.cok (by omega), ob, c_u hI.cok, ob,
            show fX7_isUsed mA (II i - (1 : Int32)) = _ from r_u hR hI.cok (m := i + c - 1) (by omega) (n_subadd (b := 1) (by omega) (by decide)), ob]
          cases hv : w_u tK c (i + c - 1)
          · rw [if_pos (show bI false = 0 from rfl), if_pos (show bI false = 0 from rfl)]
            exact ih (i + 1) (v + 1) (by omega) (by omega)
          · rw [if_neg (show ¬ bI true = 0 by decide), if_neg (show ¬ bI true = 0 by decide), Int32.add_zero]
            exact ih (i + 1) v (by omega) (by omega)
  obtain ⟨r, q1, q2⟩ := loop 1000 0 0 (by omega) (by omega)
  have e6 : fX6_clusters (II c) tK = some r := by
    unfold fX6_clusters fX1_number
    rw [show (0 : Int32) = II 0 from rfl]
    rw [show fX1_number_4 1000 (II c) tK (II 0) (II 0) = some r from q1, ob]
  exact ⟨_, _, e6, q2, rfl, h0⟩
set_option maxHeartbeats 2000000 in
theorem k_clusterSize {isv : Int32} {rpo : Int32} {rco : Int32} {tcp : Int32} {tkd : Int32} {tsd : Int32} {tlm : Int32} {tfu : Int32} {ttb : Int32} {trb : Int32} {tgr : Int32} {tK : Nat → Int32} {tV : Nat → Int32} {wcp : Int32} {wkd : Int32} {wsd : Int32} {wlm : Int32} {wfu : Int32} {wtb : Int32} {wrb : Int32} {wgr : Int32} {wK : Nat → Int32} {wV : Nat → Int32} {hnw : Int32} {hct : Int32} {hp : Nat → hTT} {pl : Int32} {pS : Nat → Int32} {ln : Int32} {lS : Nat → Int32} {mch : Int32} {msv : Int32} {mls : Int32} {mty : Int32} {mea : Int32} {mfa : Int32} {mA : Nat → Int32} {mL : Nat → Int32} {mI : Nat → Int32} {mth : Int32} (h : Rel isv rpo rco tcp tkd tsd tlm tfu ttb trb tgr tK tV wcp wkd wsd wlm wfu wtb wrb wgr wK wV hnw hct hp pl pS ln lS mch msv mls mty mea mfa mA mL mI) (x0 : Int32) : ∃ out out2, fX6_clusterSize tcp tK x0 = some out ∧ fX7_clusterSize mth mA x0 = some out2 ∧ (∀ k1, out = .inr k1 → k1 = 4) ∧ out2.2 = hkd [4] out ∧ (∀ v, out = .inl v → v = out2.1) ∧ Rel isv rpo rco tcp tkd tsd tlm tfu ttb trb tgr tK tV wcp wkd wsd wlm wfu wtb wrb wgr wK wV hnw hct hp pl pS ln lS mch msv mls mty mea mfa mA mL mI := by
  have h0 := h
  obtain ⟨c, kd, sd, lm, fu, tb, ⟨rfl, rfl, rfl, rfl, rfl, rfl⟩, hI, hR, g6, g7⟩ := h.1
  rcases b_slot hI.cok hR.c0 x0 with ⟨i, hi, hi6, rfl, p1, p2, p3⟩ | ⟨p1, p2, p3⟩
  · have e6 : fX6_clusterSize (II c) tK (II i) = some (Sum.inl (II (w_ar tK c i))) := by
      unfold fX6_clusterSize
      rw [p1, ob, if_neg i1n0, c_sizeAt hI.cok hI.wE hi, ob]
    have e7 : fX7_clusterSize mth mA (II i) = some (II (w_ar tK c i), 0) := by
      unfold fX7_clusterSize
      rw [p3, ob, fine1, ob]
      refine (if_neg (show ¬ (1 : Int32) = 0 by decide)).trans ?_
      rw [r_around hR hI.cok hI.wE hi, ob]
    exact ⟨_, _, e6, e7, fun k1 e => (no_lr e).elim, rfl, fun v e => eq_l e, h0⟩
  · have e6 : fX6_clusterSize (II c) tK x0 = some (Sum.inr 4) := by
      unfold fX6_clusterSize
      rw [p1, ob, if_pos rfl]
    have e7 : fX7_clusterSize mth mA x0 = some (0, 1) := by
      unfold fX7_clusterSize
      rw [p3, ob, fine0, ob]
      exact if_pos rfl
    exact ⟨_, _, e6, e7, fun k1 e => eq_r e, rfl, fun v e => (no_rl e).elim, h0⟩
set_option maxHeartbeats 2000000 in
theorem k_largestCluster {isv : Int32} {rpo : Int32} {rco : Int32} {tcp : Int32} {tkd : Int32} {tsd : Int32} {tlm : Int32} {tfu : Int32} {ttb : Int32} {trb : Int32} {tgr : Int32} {tK : Nat → Int32} {tV : Nat → Int32} {wcp : Int32} {wkd : Int32} {wsd : Int32} {wlm : Int32} {wfu : Int32} {wtb : Int32} {wrb : Int32} {wgr : Int32} {wK : Nat → Int32} {wV : Nat → Int32} {hnw : Int32} {hct : Int32} {hp : Nat → hTT} {pl : Int32} {pS : Nat → Int32} {ln : Int32} {lS : Nat → Int32} {mch : Int32} {msv : Int32} {mls : Int32} {mty : Int32} {mea : Int32} {mfa : Int32} {mA : Nat → Int32} {mL : Nat → Int32} {mI : Nat → Int32} {mth : Int32} (h : Rel isv rpo rco tcp tkd tsd tlm tfu ttb trb tgr tK tV wcp wkd wsd wlm wfu wtb wrb wgr wK wV hnw hct hp pl pS ln lS mch msv mls mty mea mfa mA mL mI) : ∃ out out2, fX6_largestCluster tcp tK = some out ∧ fX7_largestCluster mth mA = some out2 ∧ out = out2.1 ∧ Rel isv rpo rco tcp tkd tsd tlm tfu ttb trb tgr tK tV wcp wkd wsd wlm wfu wtb wrb wgr wK wV hnw hct hp pl pS ln lS mch msv mls mty mea mfa mA mL mI := by
  have h0 := h
  obtain ⟨c, kd, sd, lm, fu, tb, ⟨rfl, rfl, rfl, rfl, rfl, rfl⟩, hI, hR, g6, g7⟩ := h.1
  obtain ⟨r, q1, q2⟩ := c_around (K := tK) hI.cok hI.wE
  obtain ⟨r', q3, q4⟩ := r_largest hR hI.cok hI.wE mth
  cases w_max1 q2 q4
  have e6 : fX6_largestCluster (II c) tK = some (II r) := by
    unfold fX6_largestCluster
    rw [q1, ob]
  exact ⟨_, _, e6, q3, rfl, h0⟩
set_option maxHeartbeats 2000000 in
theorem k_largestClusterByHalves {isv : Int32} {rpo : Int32} {rco : Int32} {tcp : Int32} {tkd : Int32} {tsd : Int32} {tlm : Int32} {tfu : Int32} {ttb : Int32} {trb : Int32} {tgr : Int32} {tK : Nat → Int32} {tV : Nat → Int32} {wcp : Int32} {wkd : Int32} {wsd : Int32} {wlm : Int32} {wfu : Int32} {wtb : Int32} {wrb : Int32} {wgr : Int32} {wK : Nat → Int32} {wV : Nat → Int32} {hnw : Int32} {hct : Int32} {hp : Nat → hTT} {pl : Int32} {pS : Nat → Int32} {ln : Int32} {lS : Nat → Int32} {mch : Int32} {msv : Int32} {mls : Int32} {mty : Int32} {mea : Int32} {mfa : Int32} {mA : Nat → Int32} {mL : Nat → Int32} {mI : Nat → Int32} {mth : Int32} (h : Rel isv rpo rco tcp tkd tsd tlm tfu ttb trb tgr tK tV wcp wkd wsd wlm wfu wtb wrb wgr wK wV hnw hct hp pl pS ln lS mch msv mls mty mea mfa mA mL mI) : ∃ out out2, fX6_largestClusterByHalves tcp tK = some out ∧ fX7_largestClusterByHalves mth mA = some out2 ∧ out = out2.1 ∧ Rel isv rpo rco tcp tkd tsd tlm tfu ttb trb tgr tK tV wcp wkd wsd wlm wfu wtb wrb wgr wK wV hnw hct hp pl pS ln lS mch msv mls mty mea mfa mA mL mI := by
  have h0 := h
  obtain ⟨c, kd, sd, lm, fu, tb, ⟨rfl, rfl, rfl, rfl, rfl, rfl⟩, hI, hR, g6, g7⟩ := h.1
  obtain ⟨r, q1, q2⟩ := c_halves (K := tK) hI.cok hI.wE
  obtain ⟨r', q3, q4⟩ := r_largest hR hI.cok hI.wE mth
  cases w_max1 q2 q4
  have e6 : fX6_largestClusterByHalves (II c) tK = some (II r) := by
    unfold fX6_largestClusterByHalves
    rw [q1, ob]
  have e7 : fX7_largestClusterByHalves mth mA = some (II r, 0) := by
    unfold fX7_largestClusterByHalves
    rw [q3, ob]
  exact ⟨_, _, e6, e7, rfl, h0⟩
