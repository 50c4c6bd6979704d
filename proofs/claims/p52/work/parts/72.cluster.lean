/-! calls of both:  -/
/-! clusters -/
def w_u (K : Nat → Int32) (c m : Nat) : Bool := decide (K (m % c) ≠ -1)
theorem w_per {K : Nat → Int32} {c m : Nat} : w_u K c (m + c) = w_u K c m := by
  unfold w_u
  rw [Nat.add_mod_right]
theorem w_mod {K : Nat → Int32} {c m : Nat} : w_u K c (m % c) = w_u K c m := by
  unfold w_u
  rw [Nat.mod_mod]
theorem w_cong {K : Nat → Int32} {c m n : Nat} (h : m % c = n % c) : w_u K c m = w_u K c n := by
  unfold w_u
  rw [h]
theorem n_subadd {a b c : Nat} (hb : b ≤ a + c) (hb2 : b ≤ 4294967296) : II a - II b + II c = II (a + c - b) := by
  rw [n_neg hb2, n_add, ← n_mod, ← n_mod (a + c - b)]
  exact congrArg II (by omega)
def bI (b : Bool) : Int32 := if b then 1 else 0
theorem bI0 {b : Bool} : bI b = 0 ↔ b = false := by cases b <;> decide
theorem c_u {c m : Nat} {K : Nat → Int32} (hc : cOK c) : fX5_isUsed K (II (m % c)) = some (bI (w_u K c m)) := by
  have h64 := hc.le
  have hm : m % c < c := Nat.mod_lt _ (by have := hc.ge; omega)
  rw [c_isUsed (by omega)]
  unfold w_u bI
  by_cases e : K (m % c) = -1
  · rw [if_pos e, decide_eq_false (fun h => h e)]; rfl
  · rw [if_neg e, decide_eq_true e]; rfl
theorem r_u {c kd sd lm fu tb m : Nat} {K V mA : Nat → Int32} {x : Int32} (hR : Rw 0 c kd sd lm fu tb K V mA) (hc : cOK c) (hm : m < 2147483648) (e : x + II c = II m) : fX7_isUsed mA x = some (bI (w_u K c m)) := by
  have h64 := hc.le
  have hmc : m % c < c := Nat.mod_lt _ (by have := hc.ge; omega)
  unfold fX7_isUsed
  rw [hR.c0, if_neg (c_ne0 hc), e, n_rem hm hc.lt, r_at0 (by omega), ob]
  unfold w_u bI
  rcases hR.at (s := m % c) (by omega) with ⟨g, g1⟩ | ⟨g, g1⟩ | ⟨g, g1, -⟩
  · rw [g1, if_pos rfl, decide_eq_false (fun h => h g)]; rfl
  · rw [g1, if_neg (by decide), decide_eq_true (show K (m % c) ≠ -1 from fun h => by rw [g] at h; exact absurd h (by decide))]; rfl
  · rw [g1, if_neg (by decide), decide_eq_true (show K (m % c) ≠ -1 from fun h => by rw [h] at g; exact absurd g (by decide))]; rfl
/-- how far the used slots go on behind s, and ahead of it -/
def w_F (K : Nat → Int32) (c s : Nat) : Nat := fi (fun j => !w_u K c (s + j)) (c - 1) 1
def w_G (K : Nat → Int32) (c s : Nat) : Nat := fi (fun j => !w_u K c (s + c - j)) (c - 1) 1
theorem w_F1 {K : Nat → Int32} {c s : Nat} : 1 ≤ w_F K c s := (fi_spec _ _ _).1
theorem w_G1 {K : Nat → Int32} {c s : Nat} : 1 ≤ w_G K c s := (fi_spec _ _ _).1
theorem w_Fb {K : Nat → Int32} {c s j : Nat} (h1 : 1 ≤ j) (h : j < w_F K c s) : w_u K c (s + j) = true := by
  have h2 := (fi_spec (fun j => !w_u K c (s + j)) (c - 1) 1).2.2.1 j h1 h
  cases h3 : w_u K c (s + j)
  · rw [h3] at h2; cases h2
  · rfl
theorem w_Gb {K : Nat → Int32} {c s j : Nat} (h1 : 1 ≤ j) (h : j < w_G K c s) : w_u K c (s + c - j) = true := by
  have h2 := (fi_spec (fun j => !w_u K c (s + c - j)) (c - 1) 1).2.2.1 j h1 h
  cases h3 : w_u K c (s + c - j)
  · rw [h3] at h2; cases h2
  · rfl
theorem w_Fle {K : Nat → Int32} {c s j : Nat} (h1 : 1 ≤ j) (h : w_u K c (s + j) = false) : w_F K c s ≤ j := by
  apply Classical.byContradiction
  intro hn
  have := w_Fb (K := K) (c := c) (s := s) h1 (by omega)
  rw [h] at this
  cases this
theorem w_Gle {K : Nat → Int32} {c s j : Nat} (h1 : 1 ≤ j) (h : w_u K c (s + c - j) = false) : w_G K c s ≤ j := by
  apply Classical.byContradiction
  intro hn
  have := w_Gb (K := K) (c := c) (s := s) h1 (by omega)
  rw [h] at this
  cases this
theorem w_Fat {K : Nat → Int32} {c s : Nat} (hc : 1 ≤ c) (h : w_F K c s < c) : w_u K c (s + w_F K c s) = false := by
  have h2 := (fi_spec (fun j => !w_u K c (s + j)) (c - 1) 1).2.2.2 (by show w_F K c s < 1 + (c - 1); omega)
  have h3 : (!w_u K c (s + w_F K c s)) = true := h2
  cases h4 : w_u K c (s + w_F K c s)
  · rfl
  · rw [h4] at h3; cases h3
theorem w_Gat {K : Nat → Int32} {c s : Nat} (hc : 1 ≤ c) (h : w_G K c s < c) : w_u K c (s + c - w_G K c s) = false := by
  have h2 := (fi_spec (fun j => !w_u K c (s + c - j)) (c - 1) 1).2.2.2 (by show w_G K c s < 1 + (c - 1); omega)
  have h3 : (!w_u K c (s + c - w_G K c s)) = true := h2
  cases h4 : w_u K c (s + c - w_G K c s)
  · rfl
  · rw [h4] at h3; cases h3
/-- an empty slot -/
def w_E (K : Nat → Int32) (c : Nat) : Prop := ∃ e, e < c ∧ w_u K c e = false
theorem w_Fc {K : Nat → Int32} {c s : Nat} (hc : cOK c) (hE : w_E K c) (hs : s < c) (hu : w_u K c s = true) : w_F K c s < c := by
  obtain ⟨e, he, h⟩ := hE
  have hne : e ≠ s := fun h2 => by rw [h2, hu] at h; cases h
  have h8 := hc.ge
  by_cases hlt : s < e
  · have := w_Fle (K := K) (c := c) (s := s) (j := e - s) (by omega) (by rw [show s + (e - s) = e from by omega]; exact h)
    omega
  · have := w_Fle (K := K) (c := c) (s := s) (j := e + c - s) (by omega) (by rw [show s + (e + c - s) = e + c from by omega, w_per]; exact h)
    omega
theorem w_FG {K : Nat → Int32} {c s : Nat} (hc : cOK c) (hE : w_E K c) (hs : s < c) (hu : w_u K c s = true) : w_F K c s + w_G K c s ≤ c := by
  have h1 := w_Fc hc hE hs hu
  have h2 := w_Fat (by have := hc.ge; omega) h1
  have := w_Gle (K := K) (c := c) (s := s) (j := c - w_F K c s) (by omega) (by rw [show s + c - (c - w_F K c s) = s + w_F K c s from by omega]; exact h2)
  omega
/-- the cluster of a slot -/
def w_ar (K : Nat → Int32) (c s : Nat) : Nat := if w_u K c s then w_F K c s + w_G K c s - 1 else 0
theorem c_size_59 {c s : Nat} {K : Nat → Int32} (hc : cOK c) (hE : w_E K c) (hs : s < c) (hu : w_u K c s = true) : ∀ n j, 1 ≤ j → j ≤ w_G K c s → w_G K c s - j < n → fX1_sizeAt_59 n (II c) K (II (w_F K c s + j - 1)) (II ((s + c - j) % c)) = some (II (w_F K c s + w_G K c s - 1))
  | 0, j, _, _, hn => by omega
  | n + 1, j, h1, hj, hn => by
    have h64 := hc.le
    have hFG := w_FG hc hE hs hu
    have hF1 := w_F1 (K := K) (c := c) (s := s)
    unfold fX1_sizeAt_59
    rw [if_neg (fun e : II c ≤ II (w_F K c s + j - 1) => by have := (n_le hc.lt (by omega)).mp e; omega), c_u hc, ob]
    by_cases e : j = w_G K c s
    · have hg := w_Gat (K := K) (c := c) (s := s) (by have := hc.ge; omega) (by omega)
      rw [e, hg, if_pos (show bI false = 0 from rfl)]
    · have hg := w_Gb (K := K) (c := c) (s := s) h1 (by omega)
      have hr : (s + c - j) % c = (s + c - j) % c := rfl
      have hw : fX5_wrap (II c) (II ((s + c - j) % c) - (1 : Int32)) = some (II ((s + c - (j + 1)) % c)) := by
        rw [show fX5_wrap (II c) (II ((s + c - j) % c) - (1 : Int32)) = _ from c_wrapN (a := (s + c - j) % c) (b := 1) hc (by omega)]
        refine congrArg some (congrArg II ?_)
        rcases hc with rfl | rfl | rfl | rfl <;> omega
      rw [hg, if_neg (by decide), hw, ob, show II (w_F K c s + j - 1) + (1 : Int32) = II (w_F K c s + (j + 1) - 1) from (n_add _ 1).trans (congrArg II (by omega))]
      exact c_size_59 hc hE hs hu n (j + 1) (by omega) (by omega) (by omega)
theorem c_size_20 {c s : Nat} {K : Nat → Int32} (hc : cOK c) (hE : w_E K c) (hs : s < c) (hu : w_u K c s = true) : ∀ n j, 1 ≤ j → j ≤ w_F K c s → w_F K c s - j < n → fX1_sizeAt_20 n (II c) K (II s) (II j) (II ((s + j) % c)) = some (II (w_F K c s + w_G K c s - 1))
  | 0, j, _, _, hn => by omega
  | n + 1, j, h1, hj, hn => by
    have h64 := hc.le
    have hF := w_Fc hc hE hs hu
    have hFG := w_FG hc hE hs hu
    unfold fX1_sizeAt_20
    rw [if_neg (fun e : II c ≤ II j => by have := (n_le hc.lt (by omega)).mp e; omega), c_u hc, ob]
    by_cases e : j = w_F K c s
    · have hg := w_Fat (K := K) (c := c) (s := s) (by have := hc.ge; omega) (by omega)
      have h59 := c_size_59 hc hE hs hu 1000 1 (by omega) w_G1 (by omega)
      rw [e, hg, if_pos (show bI false = 0 from rfl)]
      unfold fX1_sizeAt_50
      rw [show fX5_wrap (II c) (II s - (1 : Int32)) = _ from c_wrapN (a := s) (b := 1) hc (by omega), ob]
      exact h59
    · have hg := w_Fb (K := K) (c := c) (s := s) h1 (by omega)
      have hw : fX5_wrap (II c) (II ((s + j) % c) + (1 : Int32)) = some (II ((s + (j + 1)) % c)) := by
        rw [show II ((s + j) % c) + (1 : Int32) = II ((s + j) % c + 1) from n_add _ 1, c_wrap hc, Nat.mod_add_mod]
        rfl
      rw [hg, if_neg (by decide), hw, ob, show II j + (1 : Int32) = II (j + 1) from n_add j 1]
      exact c_size_20 hc hE hs hu n (j + 1) (by omega) (by omega) (by omega)
theorem c_sizeAt {c s : Nat} {K : Nat → Int32} (hc : cOK c) (hE : w_E K c) (hs : s < c) : fX1_sizeAt (II c) K (II s) = some (II (w_ar K c s)) := by
  have h64 := hc.le
  have h0 := c_u (m := s) (K := K) hc
  rw [Nat.mod_eq_of_lt hs] at h0
  unfold fX1_sizeAt w_ar
  rw [h0, ob]
  cases hu : w_u K c s
  · rfl
  · have hF := w_Fc hc hE hs hu
    rw [if_neg (by decide), if_pos rfl, show II s + (1 : Int32) = II (s + 1) from n_add s 1, c_wrap hc, ob]
    exact c_size_20 hc hE hs hu 1000 1 (by omega) w_F1 (by omega)
theorem r_around_45 {c kd sd lm fu tb s : Nat} {K V mA : Nat → Int32} (hR : Rw 0 c kd sd lm fu tb K V mA) (hc : cOK c) (hE : w_E K c) (hs : s < c) (hu : w_u K c s = true) : ∀ n j, 1 ≤ j → j ≤ w_G K c s → w_G K c s - j < n → fX7_around_45 n mA (II s) (II (w_F K c s + j - 1)) (II j) = some (II (w_F K c s + w_G K c s - 1))
  | 0, j, _, _, hn => by omega
  | n + 1, j, h1, hj, hn => by
    have h64 := hc.le
    have hFG := w_FG hc hE hs hu
    have hF1 := w_F1 (K := K) (c := c) (s := s)
    unfold fX7_around_45
    rw [hR.c0, if_neg (fun e : II c ≤ II j => by have := (n_le hc.lt (by omega)).mp e; omega), r_u hR hc (m := s + c - j) (by omega) (n_subadd (by omega) (by omega)), ob]
    by_cases e : j = w_G K c s
    · have hg := w_Gat (K := K) (c := c) (s := s) (by have := hc.ge; omega) (by omega)
      rw [e, hg, if_pos (show bI false = 0 from rfl)]
    · have hg := w_Gb (K := K) (c := c) (s := s) h1 (by omega)
      rw [hg, if_neg (by decide), show II (w_F K c s + j - 1) + (1 : Int32) = II (w_F K c s + (j + 1) - 1) from (n_add _ 1).trans (congrArg II (by omega)), show II j + (1 : Int32) = II (j + 1) from n_add j 1]
      exact r_around_45 hR hc hE hs hu n (j + 1) (by omega) (by omega) (by omega)
theorem r_around_14 {c kd sd lm fu tb s : Nat} {K V mA : Nat → Int32} (hR : Rw 0 c kd sd lm fu tb K V mA) (hc : cOK c) (hE : w_E K c) (hs : s < c) (hu : w_u K c s = true) : ∀ n j, 1 ≤ j → j ≤ w_F K c s → w_F K c s - j < n → fX7_around_14 n mA (II s) (II j) (II j) = some (II (w_F K c s + w_G K c s - 1))
  | 0, j, _, _, hn => by omega
  | n + 1, j, h1, hj, hn => by
    have h64 := hc.le
    have hF := w_Fc hc hE hs hu
    have hFG := w_FG hc hE hs hu
    unfold fX7_around_14
    rw [hR.c0, if_neg (fun e : II c ≤ II j => by have := (n_le hc.lt (by omega)).mp e; omega), r_u hR hc (m := s + j + c) (by omega) (by rw [n_add, n_add]), ob, w_per]
    by_cases e : j = w_F K c s
    · have hg := w_Fat (K := K) (c := c) (s := s) (by have := hc.ge; omega) (by omega)
      rw [e, hg, if_pos (show bI false = 0 from rfl)]
      exact r_around_45 hR hc hE hs hu 1000 1 (by omega) w_G1 (by omega)
    · have hg := w_Fb (K := K) (c := c) (s := s) h1 (by omega)
      rw [hg, if_neg (by decide), show II j + (1 : Int32) = II (j + 1) from n_add j 1]
      exact r_around_14 hR hc hE hs hu n (j + 1) (by omega) (by omega) (by omega)
theorem r_around {c kd sd lm fu tb s : Nat} {K V mA : Nat → Int32} (hR : Rw 0 c kd sd lm fu tb K V mA) (hc : cOK c) (hE : w_E K c) (hs : s < c) : fX7_around mA (II s) = some (II (w_ar K c s)) := by
  have h64 := hc.le
  unfold fX7_around w_ar
  rw [r_u hR hc (m := s + c) (by omega) (n_add _ _), ob, w_per]
  cases hu : w_u K c s
  · rfl
  · have hF := w_Fc hc hE hs hu
    rw [if_neg (by decide), if_pos rfl]
    exact r_around_14 hR hc hE hs hu 1000 1 (by omega) w_F1 (by omega)
/-! the largest -/
def w_run (K : Nat → Int32) (c a L : Nat) : Prop := ∀ j, j < L → w_u K c (a + j) = true
def w_max (K : Nat → Int32) (c M : Nat) : Prop := (∃ a, w_run K c a M) ∧ ∀ a L, w_run K c a L → L ≤ M
theorem w_max1 {K : Nat → Int32} {c M N : Nat} (h : w_max K c M) (g : w_max K c N) : M = N := by
  obtain ⟨⟨a, ha⟩, h2⟩ := h
  obtain ⟨⟨b, hb⟩, g2⟩ := g
  exact Nat.le_antisymm (g2 a M ha) (h2 b N hb)
/-- no run is as long as the table -/
theorem w_short {K : Nat → Int32} {c a L : Nat} (hE : w_E K c) (h : w_run K c a L) : L < c := by
  obtain ⟨e, he, h1⟩ := hE
  apply Classical.byContradiction
  intro hn
  have h0 : 0 < c := by omega
  have hm := Nat.mod_lt a h0
  have h2 := h ((e + c - a % c) % c) (by have := Nat.mod_lt (e + c - a % c) h0; omega)
  rw [w_cong (n := e) (by
    rw [Nat.add_mod_mod, ← Nat.mod_add_mod, show a % c + (e + c - a % c) = e + c from by omega, Nat.add_mod_right]), h1] at h2
  cases h2
theorem w_ar_run {K : Nat → Int32} {c s : Nat} (hc : cOK c) (hE : w_E K c) (hs : s < c) : ∃ a, w_run K c a (w_ar K c s) := by
  unfold w_ar
  cases hu : w_u K c s
  · exact ⟨0, fun j hj => absurd hj (Nat.not_lt_zero _)⟩
  · rw [if_pos rfl]
    have hFG := w_FG hc hE hs hu
    have hF1 := w_F1 (K := K) (c := c) (s := s)
    have hG1 := w_G1 (K := K) (c := c) (s := s)
    refine ⟨s + c - (w_G K c s - 1), fun j hj => ?_⟩
    by_cases h1 : j < w_G K c s - 1
    · have := w_Gb (K := K) (c := c) (s := s) (j := w_G K c s - 1 - j) (by omega) (by omega)
      rw [← this]
      exact congrArg (w_u K c) (by omega)
    · by_cases h2 : j = w_G K c s - 1
      · rw [h2, show s + c - (w_G K c s - 1) + (w_G K c s - 1) = s + c from by omega, w_per]
        exact hu
      · have := w_Fb (K := K) (c := c) (s := s) (j := j - (w_G K c s - 1)) (by omega) (by omega)
        rw [show s + c - (w_G K c s - 1) + j = s + (j - (w_G K c s - 1)) + c from by omega, w_per]
        exact this
theorem w_ar_ge {K : Nat → Int32} {c a L : Nat} (hc : cOK c) (hE : w_E K c) (h : w_run K c a L) (hL : 1 ≤ L) : L ≤ w_ar K c (a % c) := by
  have hlt := w_short hE h
  have hm : a % c < c := Nat.mod_lt _ (by omega)
  have hu : w_u K c (a % c) = true := by rw [w_mod]; exact h 0 hL
  unfold w_ar
  rw [hu, if_pos rfl]
  have hG1 := w_G1 (K := K) (c := c) (s := a % c)
  have hF : L ≤ w_F K c (a % c) := by
    apply Classical.byContradiction
    intro hn
    have hF1 := w_F1 (K := K) (c := c) (s := a % c)
    have h2 := w_Fat (K := K) (c := c) (s := a % c) (by omega) (by omega)
    have h3 := h (w_F K c (a % c)) (by omega)
    rw [w_cong (m := a + w_F K c (a % c)) (n := a % c + w_F K c (a % c)) (by rw [Nat.mod_add_mod]), h2] at h3
    cases h3
  omega
theorem r_largest_9 {c kd sd lm fu tb : Nat} {K V mA : Nat → Int32} (hR : Rw 0 c kd sd lm fu tb K V mA) (hc : cOK c) (hE : w_E K c) (mth : Int32) : ∀ n i r, i ≤ c → c - i < n → r ≤ 64 → (∃ a, w_run K c a r) → (∀ t, t < i → w_ar K c t ≤ r) → ∃ r', fX7_largestCluster_9 n mth mA (II r) (II i) = some (II r', mth) ∧ (∃ a, w_run K c a r') ∧ ∀ t, t < c → w_ar K c t ≤ r'
  | 0, i, _, _, hn, _, _, _ => by omega
  | n + 1, i, r, hi, hn, hr, h1, h2 => by
    have h64 := hc.le
    unfold fX7_largestCluster_9 fX7_largestCluster_37
    rw [hR.c0]
    by_cases e : c ≤ i
    · have : i = c := by omega
      subst this
      rw [if_pos ((n_le hc.lt hc.lt).mpr e)]
      exact ⟨r, rfl, h1, h2⟩
    · obtain ⟨a, ha⟩ := w_ar_run hc hE (s := i) (by omega)
      have hlt := w_short hE ha
      rw [if_neg (fun e3 => e ((n_le hc.lt (by omega)).mp e3)), r_around hR hc hE (by omega), ob, ob, show II i + (1 : Int32) = II (i + 1) from n_add i 1]
      by_cases e2 : w_ar K c i ≤ r
      · rw [if_pos ((n_le (by omega) (by omega)).mpr e2)]
        exact r_largest_9 hR hc hE mth n (i + 1) r (by omega) (by omega) hr h1 (fun t ht => by
          by_cases e4 : t = i
          · rw [e4]; exact e2
          · exact h2 t (by omega))
      · rw [if_neg (fun e3 => e2 ((n_le (by omega) (by omega)).mp e3))]
        exact r_largest_9 hR hc hE mth n (i + 1) (w_ar K c i) (by omega) (by omega) (by omega) ⟨a, ha⟩ (fun t ht => by
          by_cases e4 : t = i
          · rw [e4]; exact Nat.le_refl _
          · have := h2 t (by omega); omega)
theorem r_largest {c kd sd lm fu tb : Nat} {K V mA : Nat → Int32} (hR : Rw 0 c kd sd lm fu tb K V mA) (hc : cOK c) (hE : w_E K c) (mth : Int32) : ∃ r, fX7_largestCluster mth mA = some (II r, 0) ∧ w_max K c r := by
  have h64 := hc.le
  obtain ⟨r, g1, g2, g3⟩ := r_largest_9 hR hc hE 0 1000 0 0 (by omega) (by omega) (by omega) ⟨0, fun j hj => absurd hj (Nat.not_lt_zero _)⟩ (fun t ht => absurd ht (Nat.not_lt_zero _))
  refine ⟨r, g1, g2, fun a L h => ?_⟩
  by_cases hL : L = 0
  · omega
  · have h1 := w_ar_ge hc hE h (by omega)
    have h2 := g3 (a % c) (Nat.mod_lt _ (by have := hc.ge; omega))
    omega
/-! around the table once -/
def w_sz (K : Nat → Int32) (c s0 : Nat) : Nat → Nat
  | 0 => 0
  | p + 1 => if w_u K c (s0 + (p + 1)) then w_sz K c s0 p + 1 else 0
def w_mx (K : Nat → Int32) (c s0 : Nat) : Nat → Nat
  | 0 => 0
  | p + 1 => if w_mx K c s0 p < w_sz K c s0 (p + 1) then w_sz K c s0 (p + 1) else w_mx K c s0 p
theorem w_sz_le (K : Nat → Int32) (c s0 : Nat) : ∀ p, w_sz K c s0 p ≤ p
  | 0 => Nat.le_refl _
  | p + 1 => by
    have := w_sz_le K c s0 p
    unfold w_sz
    split <;> omega
theorem w_sz_run (K : Nat → Int32) (c s0 : Nat) : ∀ p, ∀ j, j < w_sz K c s0 p → w_u K c (s0 + (p - j)) = true
  | 0, j, hj => absurd hj (Nat.not_lt_zero _)
  | p + 1, j, hj => by
    unfold w_sz at hj
    cases hu : w_u K c (s0 + (p + 1))
    · rw [hu, if_neg (by decide)] at hj
      omega
    · rw [hu, if_pos rfl] at hj
      cases j with
      | zero => exact hu
      | succ j =>
        rw [show p + 1 - (j + 1) = p - j from by omega]
        exact w_sz_run K c s0 p j (by omega)
theorem w_sz_ge (K : Nat → Int32) (c s0 : Nat) {p : Nat} : ∀ L, (∀ j, j < L → w_u K c (s0 + (p + 1 + j)) = true) → L ≤ w_sz K c s0 (p + L)
  | 0, _ => Nat.zero_le _
  | L + 1, h => by
    have ih := w_sz_ge K c s0 L (fun j hj => h j (by omega))
    have h1 := h L (by omega)
    rw [show p + (L + 1) = (p + L) + 1 from by omega]
    unfold w_sz
    rw [show s0 + (p + L + 1) = s0 + (p + 1 + L) from by omega, h1, if_pos rfl]
    omega
theorem w_mx_ge (K : Nat → Int32) (c s0 : Nat) : ∀ p q, q ≤ p → w_sz K c s0 q ≤ w_mx K c s0 p
  | 0, q, h => by
    cases Nat.le_zero.mp h
    exact Nat.le_refl _
  | p + 1, q, h => by
    unfold w_mx
    by_cases e : q = p + 1
    · subst e
      split <;> omega
    · have := w_mx_ge K c s0 p q (by omega)
      split <;> omega
theorem w_mx_is (K : Nat → Int32) (c s0 : Nat) : ∀ p, ∃ q, q ≤ p ∧ w_mx K c s0 p = w_sz K c s0 q
  | 0 => ⟨0, Nat.le_refl _, rfl⟩
  | p + 1 => by
    unfold w_mx
    by_cases e : w_mx K c s0 p < w_sz K c s0 (p + 1)
    · rw [if_pos e]; exact ⟨p + 1, Nat.le_refl _, rfl⟩
    · rw [if_neg e]
      obtain ⟨q, hq, h⟩ := w_mx_is K c s0 p
      exact ⟨q, by omega, h⟩
theorem c_around_31 {c s0 : Nat} {K : Nat → Int32} (hc : cOK c) (hs0 : s0 < c) : ∀ n p, p ≤ c → c - p < n → fX1_largestAround_31 n (II c) K (II s0) (II (w_mx K c s0 p)) (II (w_sz K c s0 p)) (II (p + 1)) = some (II (w_mx K c s0 c))
  | 0, p, _, hn => by omega
  | n + 1, p, hp, hn => by
    have h64 := hc.le
    unfold fX1_largestAround_31 fX1_largestAround_62
    by_cases e : c < p + 1
    · have : p = c := by omega
      subst this
      rw [if_pos ((n_lt hc.lt (by omega)).mpr e)]
    · have h1 := w_sz_le K c s0 (p + 1)
      obtain ⟨q, hq, h2⟩ := w_mx_is K c s0 p
      have h3 := w_sz_le K c s0 q
      have ih := c_around_31 (K := K) hc hs0 n (p + 1) (by omega) (by omega)
      rw [if_neg (fun e3 => e ((n_lt hc.lt (by omega)).mp e3)), n_add, c_wrap hc, ob, c_u hc, ob, show II (p + 1) + (1 : Int32) = II (p + 1 + 1) from n_add _ 1]
      have key : ∀ z, w_sz K c s0 (p + 1) = z → z ≤ p + 1 → fX1_largestAround_31 n (II c) K (II s0) (if II (w_mx K c s0 p) < II z then II z else II (w_mx K c s0 p)) (II z) (II (p + 1 + 1)) = some (II (w_mx K c s0 c)) := fun z hz hz2 => by
        rw [← ih]
        rw [hz, show w_mx K c s0 (p + 1) = if w_mx K c s0 p < w_sz K c s0 (p + 1) then w_sz K c s0 (p + 1) else w_mx K c s0 p from rfl, hz]
        by_cases e5 : w_mx K c s0 p < z
        · rw [if_pos e5, if_pos ((n_lt (by omega) (by omega)).mpr e5)]
        · rw [if_neg e5, if_neg (fun e6 => e5 ((n_lt (by omega) (by omega)).mp e6))]
      cases hu : w_u K c (s0 + (p + 1))
      · rw [if_pos (show bI false = 0 from rfl)]
        exact key 0 (by unfold w_sz; rw [hu]; rfl) (by omega)
      · rw [if_neg (by decide), show II (w_sz K c s0 p) + (1 : Int32) = II (w_sz K c s0 p + 1) from n_add _ 1]
        exact key (w_sz K c s0 p + 1) (by rw [show w_sz K c s0 (p + 1) = if w_u K c (s0 + (p + 1)) then w_sz K c s0 p + 1 else 0 from rfl, hu, if_pos rfl]) (by have := w_sz_le K c s0 p; omega)
theorem c_around {c : Nat} {K : Nat → Int32} (hc : cOK c) (hE : w_E K c) : ∃ r, fX1_largestAround (II c) K = some (II r) ∧ w_max K c r := by
  have h64 := hc.le
  have h8 := hc.ge
  obtain ⟨e0, he0, hu0⟩ := hE
  have hE : w_E K c := ⟨e0, he0, hu0⟩
  have loop : ∀ n i, i ≤ e0 → e0 - i < n → (∀ t, t < i → w_u K c t = true) → ∃ s0, s0 < c ∧ w_u K c s0 = false ∧ fX1_largestAround_2 n (II c) K (II i) = fX1_largestAround_24 (II c) K (II s0) := fun n => by
    induction n with
    | zero => intro i _ hn; omega
    | succ n ih =>
      intro i hi hn hb
      have h0 := c_u (m := i) (K := K) hc
      rw [Nat.mod_eq_of_lt (by omega)] at h0
      unfold fX1_largestAround_2
      rw [if_neg (fun e3 : II c ≤ II i => by have := (n_le hc.lt (by omega)).mp e3; omega), h0, ob]
      cases hu : w_u K c i
      · exact ⟨i, by omega, hu, if_pos rfl⟩
      · have hne : i ≠ e0 := fun e => by rw [e, hu0] at hu; cases hu
        rw [if_neg (by decide), show II i + (1 : Int32) = II (i + 1) from n_add i 1]
        exact ih (i + 1) (by omega) (by omega) (fun t ht => by
          by_cases e : t = i
          · rw [e]; exact hu
          · exact hb t (by omega))
  obtain ⟨s0, hs0, hus, h1⟩ := loop 1000 0 (by omega) (by omega) (fun t ht => absurd ht (Nat.not_lt_zero _))
  refine ⟨w_mx K c s0 c, ?_, ?_, fun a L h => ?_⟩
  · unfold fX1_largestAround
    rw [show (0 : Int32) = II 0 from rfl, h1]
    exact c_around_31 hc hs0 1000 0 (by omega) (by omega)
  · obtain ⟨q, hq, h2⟩ := w_mx_is K c s0 c
    rw [h2]
    have h3 := w_sz_le K c s0 q
    refine ⟨s0 + (q + 1 - w_sz K c s0 q), fun j hj => ?_⟩
    have h4 := w_sz_run K c s0 q (w_sz K c s0 q - 1 - j) (by omega)
    rw [← h4]
    exact congrArg (w_u K c) (by omega)
  · by_cases hL : L = 0
    · omega
    · have hlt := w_short hE h
      have ham : a % c < c := Nat.mod_lt _ (by omega)
      have hne : a % c ≠ s0 := fun e => by
        have h5 := h 0 (by omega)
        rw [Nat.add_zero, ← w_mod, e, hus] at h5
        cases h5
      -- p: how far the run begins behind s0
      have hp : ∃ p, p + 1 < c ∧ (s0 + (p + 1)) % c = a % c := by
        by_cases e : s0 < a % c
        · exact ⟨a % c - s0 - 1, by omega, by rw [show s0 + (a % c - s0 - 1 + 1) = a % c from by omega, Nat.mod_mod]⟩
        · exact ⟨a % c + c - s0 - 1, by omega, by rw [show s0 + (a % c + c - s0 - 1 + 1) = a % c + c from by omega, Nat.add_mod_right, Nat.mod_mod]⟩
      obtain ⟨p, hp1, hp2⟩ := hp
      have hrun : ∀ j, j < L → w_u K c (s0 + (p + 1 + j)) = true := fun j hj => by
        rw [← h j hj]
        refine w_cong ?_
        rw [show s0 + (p + 1 + j) = s0 + (p + 1) + j from by omega, ← Nat.mod_add_mod, hp2, Nat.mod_add_mod]
      have hpl : p + L < c := by
        apply Classical.byContradiction
        intro hn
        have h6 := hrun (c - (p + 1)) (by omega)
        rw [show s0 + (p + 1 + (c - (p + 1))) = s0 + c from by omega, w_per, hus] at h6
        cases h6
      have h7 := w_sz_ge K c s0 L hrun
      have h8 := w_mx_ge K c s0 c (p + L) (by omega)
      omega
