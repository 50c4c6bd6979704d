/-! calls of both:  -/
/-! the parsers -/
def p_cs (n : Nat) (pS : Nat → Int32) (q : Nat) : Int32 := if q < n then pS q else 0
def p_rs (n : Nat) (pS : Nat → Int32) (q : Nat) : Int32 := if q < n then pS q else -1
def PT (n : Nat) (pS mI : Nat → Int32) : Prop := n ≤ 60 ∧ ∀ i, i < n → mI i = pS i ∧ hl_nar .char (pS i) = true
theorem c_sign {n q : Nat} {pS mI : Nat → Int32} (h : PT n pS mI) (hq : q ≤ 1000) : fX4_signAt (II n) pS (II q) = some (p_cs n pS q) := by
  have h60 := h.1
  unfold fX4_signAt p_cs
  rw [if_neg (n_nlt0 (by omega))]
  by_cases e : q < n
  · rw [if_neg (fun e2 : II n ≤ II q => by have := (n_le (by omega) (by omega)).mp e2; omega), if_neg (fun e2 : (60 : Int32) ≤ II q => by have := (n_le (a := 60) (by decide) (by omega)).mp e2; omega), if_pos (n_in (by omega) (by omega)), n_cl (by omega), if_pos (h.2 q e).2, if_pos e]
  · rw [if_pos ((n_le (by omega) (by omega)).mpr (by omega)), if_neg e]
theorem r_sign {n q : Nat} {pS mI : Nat → Int32} (h : PT n pS mI) (hq : q ≤ 1000) : fX7_sign (II n) (II q) mI = some (p_rs n pS q) := by
  have h60 := h.1
  unfold fX7_sign p_rs
  by_cases e : q < n
  · rw [if_neg (fun e2 : II n ≤ II q => by have := (n_le (by omega) (by omega)).mp e2; omega), if_pos (n_in (by omega) (by omega)), n_cl (by omega), (h.2 q e).1, if_pos e]
  · rw [if_pos ((n_le (by omega) (by omega)).mpr (by omega)), if_neg e]
theorem p_same {n q : Nat} {pS : Nat → Int32} {L : Int32} (h0 : L ≠ 0) (h1 : L ≠ -1) : p_rs n pS q = L ↔ p_cs n pS q = L := by
  unfold p_rs p_cs
  by_cases e : q < n
  · rw [if_pos e, if_pos e]
  · rw [if_neg e, if_neg e]
    exact ⟨fun h => absurd h.symm h1, fun h => absurd h.symm h0⟩
/-! the reference's way: where it stands, and whether all is well -/
def p_E (s : Nat × Bool) : Int32 := if s.2 then -1 else II s.1
def p_nd (n : Nat) (pS : Nat → Int32) (L : Int32) (s : Nat × Bool) : Nat × Bool := if s.2 then (if p_rs n pS s.1 = L then (s.1 + 1, true) else (s.1, false)) else s
theorem p_nd_le {n : Nat} {pS : Nat → Int32} {L : Int32} {s : Nat × Bool} : (p_nd n pS L s).1 ≤ s.1 + 1 := by
  unfold p_nd
  split
  · split
    · exact Nat.le_refl _
    · exact Nat.le_succ _
  · exact Nat.le_succ _
theorem p_Et (q : Nat) : p_E (q, true) = -1 := rfl
theorem p_Ef (q : Nat) : p_E (q, false) = II q := rfl
theorem r_need {n : Nat} {pS mI : Nat → Int32} (h : PT n pS mI) (L : Int32) {s : Nat × Bool} (hs : s.1 ≤ 1000) : fX7_needs (II n) (II s.1) (p_E s) mI L = some (II (p_nd n pS L s).1, p_E (p_nd n pS L s)) := by
  obtain ⟨q, b⟩ := s
  have hq : q ≤ 1000 := hs
  unfold fX7_needs p_nd
  cases b
  · show (if II q < 0 then _ else _) = _
    rw [if_neg (n_nlt0 (by omega))]
    rfl
  · show (if (-1 : Int32) < 0 then ((fX7_sign (II n) (II q) mI).bind _) else _) = _
    rw [if_pos (by decide), r_sign h hq, ob]
    show (if p_rs n pS q = L then some (II q + 1, p_E (q, true)) else some (II q, II q)) = some (II (if p_rs n pS q = L then (q + 1, true) else (q, false)).1, p_E (if p_rs n pS q = L then (q + 1, true) else (q, false)))
    by_cases e : p_rs n pS q = L
    · rw [if_pos e, if_pos e, show II q + (1 : Int32) = II (q + 1) from n_add q 1]
      rfl
    · rw [if_neg e, if_neg e]
      rfl
theorem r_letters {n : Nat} {pS mI : Nat → Int32} (h : PT n pS mI) (a b c : Int32) {s : Nat × Bool} (hs : s.1 ≤ 990) : fX7_letters (II n) (II s.1) (p_E s) mI a b c = some (II (p_nd n pS c (p_nd n pS b (p_nd n pS a s))).1, p_E (p_nd n pS c (p_nd n pS b (p_nd n pS a s)))) := by
  have h1 := p_nd_le (n := n) (pS := pS) (L := a) (s := s)
  have h2 := p_nd_le (n := n) (pS := pS) (L := b) (s := p_nd n pS a s)
  unfold fX7_letters
  rw [r_need h a (by omega), ob, r_need h b (by omega), ob, r_need h c (by omega), ob]
/-! the words -/
def wL (i : Nat) : Nat := hVL.getD i 0
theorem wL_le : ∀ i, i < 7 → wL i ≤ 7 := by decide
theorem w_let : ∀ i, i < 7 → ∀ m, m < 7 → m < wL i → hchr i m ≠ 0 ∧ hchr i m ≠ -1 := by decide +kernel
/-- how much of a word stands in the text from p on -/
def lit (n : Nat) (pS : Nat → Int32) (i p : Nat) : Nat := fi (fun m => !(p_cs n pS (p + m) == hchr i m)) (wL i) 0
theorem lit_le {n i p : Nat} {pS : Nat → Int32} : lit n pS i p ≤ wL i := by
  have := (fi_spec (fun m => !(p_cs n pS (p + m) == hchr i m)) (wL i) 0).2.1
  unfold lit
  omega
theorem lit_eq {n i p m : Nat} {pS : Nat → Int32} (h1 : ∀ k, k < m → p_cs n pS (p + k) = hchr i k) (h2 : m ≤ wL i) (h3 : m < wL i → p_cs n pS (p + m) ≠ hchr i m) : lit n pS i p = m := by
  refine fi_eq (Nat.zero_le _) (by omega) (fun k _ hk => ?_) (fun hk => ?_)
  · rw [h1 k hk]
    show (!(hchr i k == hchr i k)) = false
    rw [beq_self_eq_true]; rfl
  · show (!(p_cs n pS (p + m) == hchr i m)) = true
    rw [Bool.not_eq_true', beq_eq_false_iff_ne]
    exact h3 (by omega)
theorem lit_b {n i p k : Nat} {pS : Nat → Int32} (h : k < lit n pS i p) : p_cs n pS (p + k) = hchr i k := by
  have h1 := (fi_spec (fun m => !(p_cs n pS (p + m) == hchr i m)) (wL i) 0).2.2.1 k (Nat.zero_le _) h
  have h2 : (!(p_cs n pS (p + k) == hchr i k)) = false := h1
  rw [Bool.not_eq_false', beq_iff_eq] at h2
  exact h2
theorem lit_at {n i p : Nat} {pS : Nat → Int32} (h : lit n pS i p < wL i) : p_cs n pS (p + lit n pS i p) ≠ hchr i (lit n pS i p) := by
  have h1 := (fi_spec (fun m => !(p_cs n pS (p + m) == hchr i m)) (wL i) 0).2.2.2 (by unfold lit at h; omega)
  have h2 : (!(p_cs n pS (p + lit n pS i p) == hchr i (lit n pS i p))) = true := h1
  rw [Bool.not_eq_true', beq_eq_false_iff_ne] at h2
  exact h2
theorem lit_ge {n i p m : Nat} {pS : Nat → Int32} (h1 : ∀ k, k < m → p_cs n pS (p + k) = hchr i k) (h2 : m ≤ wL i) : m ≤ lit n pS i p := by
  apply Classical.byContradiction
  intro hn
  exact lit_at (n := n) (pS := pS) (i := i) (p := p) (by omega) (h1 _ (by omega))
theorem c_length {i : Nat} (hi : i < 7) : fJ0_length i = some (II (wL i)) := if_pos hi
theorem c_charAt {i k : Nat} (hi : i < 7) (hk : k < wL i) : fJ0_charAt i (II k) = some (hchr i k) := by
  have := wL_le i hi
  show (if i < 7 then (if hl_in (II k) (wL i) = true then some (hchr i (II k).toNatClampNeg) else none) else none) = _
  rw [if_pos hi, if_pos (n_in (by omega) hk), n_cl (by omega)]
theorem c_shared_2 {n i p : Nat} {pS mI : Nat → Int32} (h : PT n pS mI) (hi : i < 7) (hp : p ≤ 100) : ∀ f m, m ≤ lit n pS i p → lit n pS i p - m < f → fX4_sharedLength_2 f (II n) (II p) pS i (II m) = some (II (lit n pS i p))
  | 0, m, _, hn => by omega
  | f + 1, m, hm, hn => by
    have h7 := wL_le i hi
    have hl := lit_le (n := n) (pS := pS) (i := i) (p := p)
    unfold fX4_sharedLength_2
    rw [c_length hi, ob]
    by_cases e : wL i ≤ m
    · rw [if_pos ((n_le (by omega) (by omega)).mpr e), show m = lit n pS i p from by omega]
    · rw [if_neg (fun e2 => e ((n_le (by omega) (by omega)).mp e2)), n_add, c_sign h (by omega), ob, c_charAt hi (by omega), ob]
      by_cases e3 : m = lit n pS i p
      · rw [if_neg (by rw [e3]; exact lit_at (by omega)), e3]
      · rw [if_pos (lit_b (by omega)), show II m + (1 : Int32) = II (m + 1) from n_add m 1]
        exact c_shared_2 h hi hp f (m + 1) (by omega) (by omega)
theorem c_shared {n i p : Nat} {pS mI : Nat → Int32} (h : PT n pS mI) (hi : i < 7) (hp : p ≤ 100) : fX4_sharedLength (II n) (II p) pS i = some (II (lit n pS i p)) :=
  c_shared_2 h hi hp 1000 0 (Nat.zero_le _) (by have := wL_le i hi; have := lit_le (n := n) (pS := pS) (i := i) (p := p); omega)
theorem c_word : ∀ v, v < 7 → fX4_wordOf (II v) = some v := by decide +kernel
def vr (n : Nat) (pS : Nat → Int32) (p : Nat) : Nat → Nat → Nat → Int32 × Int32
  | 0, _, f => (-1, II (p + f))
  | k + 1, v, f => if lit n pS v p = wL v then (II v, II (p + lit n pS v p)) else vr n pS p k (v + 1) (w_m f (lit n pS v p))
theorem c_verb_4 {n p : Nat} {pS mI : Nat → Int32} (h : PT n pS mI) (hp : p ≤ 100) : ∀ g k v f, v + k = 7 → k < g → f ≤ 7 → fX4_readVerb_4 g (II n) (II p) pS (II f) (II v) = some (vr n pS p k v f)
  | 0, k, _, _, _, hg, _ => by omega
  | g + 1, 0, v, f, hv, hg, hf => by
    have : v = 7 := by omega
    subst this
    unfold fX4_readVerb_4 vr
    rw [if_pos (by decide), n_add]
  | g + 1, k + 1, v, f, hv, hg, hf => by
    have h7 := wL_le v (by omega)
    have hl := lit_le (n := n) (pS := pS) (i := v) (p := p)
    unfold fX4_readVerb_4 vr
    rw [if_neg (fun e : (7 : Int32) ≤ II v => by have := (n_le (a := 7) (by decide) (by omega)).mp e; omega), c_word v (by omega), ob, c_shared h (by omega) hp, ob, c_length (by omega), ob]
    by_cases e : lit n pS v p = wL v
    · rw [if_pos ((n_eq (by omega) (by omega)).mpr e), if_pos e, n_add]
    · rw [if_neg (fun e2 => e ((n_eq (by omega) (by omega)).mp e2)), if_neg e, n_max (by omega) (by omega), show II v + (1 : Int32) = II (v + 1) from n_add v 1]
      exact c_verb_4 h hp g k (v + 1) _ (by omega) (by omega) (w_m_le hf (by omega))
theorem c_verb {n p : Nat} {pS mI : Nat → Int32} (h : PT n pS mI) (hp : p ≤ 100) : fX4_readVerb (II n) (II p) pS = some (vr n pS p 7 0 0) := c_verb_4 h hp 1000 7 0 0 rfl (by omega) (by omega)
/-- the reference reads a word's rest -/
def p_fw (n : Nat) (pS : Nat → Int32) (i : Nat) : Nat → Nat → Nat × Bool → Nat × Bool
  | 0, _, s => s
  | k + 1, m, s => p_fw n pS i k (m + 1) (p_nd n pS (hchr i m) s)
theorem p_fwF {n i : Nat} {pS : Nat → Int32} : ∀ k m q, p_fw n pS i k m (q, false) = (q, false)
  | 0, _, _ => rfl
  | k + 1, m, q => p_fwF k (m + 1) q
theorem p_fw_is {n i p : Nat} {pS : Nat → Int32} (hi : i < 7) : ∀ k m, m + k = wL i → m ≤ lit n pS i p → p_fw n pS i k m (p + m, true) = (p + lit n pS i p, decide (lit n pS i p = wL i))
  | 0, m, hk, hm => by
    have hl := lit_le (n := n) (pS := pS) (i := i) (p := p)
    have e : lit n pS i p = m := by omega
    rw [e, decide_eq_true (by omega)]
    rfl
  | k + 1, m, hk, hm => by
    have h7 := wL_le i hi
    have hlet := w_let i hi m (by omega) (by omega)
    unfold p_fw p_nd
    rw [if_pos rfl]
    by_cases e : m = lit n pS i p
    · have h1 := lit_at (n := n) (pS := pS) (i := i) (p := p) (by omega)
      rw [← e] at h1
      rw [if_neg (fun h2 => h1 ((p_same hlet.1 hlet.2).mp h2)), p_fwF, ← e, decide_eq_false (by omega)]
    · rw [if_pos ((p_same hlet.1 hlet.2).mpr (lit_b (by omega)))]
      exact p_fw_is hi k (m + 1) (by omega) (by omega)
/-! numbers -/
def p_dg (n : Nat) (pS : Nat → Int32) (q : Nat) : Prop := (48 : Int32) ≤ p_rs n pS q ∧ p_rs n pS q ≤ (57 : Int32)
theorem c_digit {n q : Nat} {pS : Nat → Int32} : (p_dg n pS q → fX4_isDigit (p_cs n pS q) = some 1 ∧ ∃ x, 48 ≤ x ∧ x ≤ 57 ∧ p_cs n pS q = II x ∧ p_rs n pS q = II x) ∧ (¬ p_dg n pS q → fX4_isDigit (p_cs n pS q) = some 0) := by
  unfold p_dg p_rs p_cs fX4_isDigit
  by_cases e : q < n
  · rw [if_pos e, if_pos e]
    refine ⟨fun h => ⟨by rw [if_neg (i_nlt.mpr h.1), if_neg (i_nlt.mpr h.2)], ?_⟩, fun h => ?_⟩
    · have h0 : (0 : Int32) ≤ pS q := by
        have h1 := h.1
        rw [fa_le, show (48 : Int32).toInt = 48 from by decide] at h1
        rw [fa_le, show (0 : Int32).toInt = 0 from by decide]
        omega
      obtain ⟨x, hx, e2⟩ := n_of2 (n := 57) (by decide) h0 h.2
      exact ⟨x, by
        have h1 := h.1
        rw [e2] at h1
        exact (n_le (a := 48) (by decide) (by omega)).mp h1, hx, e2, e2⟩
    · by_cases h1 : pS q < (48 : Int32)
      · rw [if_pos h1]
      · rw [if_neg h1]
        by_cases h2 : (57 : Int32) < pS q
        · rw [if_pos h2]
        · exact absurd ⟨i_nlt.mp h1, i_nlt.mp h2⟩ h
  · rw [if_neg e, if_neg e]
    exact ⟨fun h => absurd h (by decide), fun _ => by decide⟩
theorem b_digits {n mx : Nat} {pS mI : Nat → Int32} (h : PT n pS mI) (hmx : mx ≤ 4) : ∀ f p v d, p ≤ 500 + d → d ≤ mx → v < 10 ^ d → mx - d < f → ∃ p' v' d', d ≤ d' ∧ d' ≤ mx ∧ v' < 10 ^ d' ∧ p' = p + (d' - d) ∧ (d < mx → p_dg n pS p → d < d') ∧
    fX4_readNumber_4 f (II n) (II p) pS (II mx) (II v) (II d) = some (if d' = 0 then -1 else II v', II p') ∧ fX7_number_37 f (II n) (II p) (-1) mI (II mx) (II v) (II d) = some (II v', II p', -1)
  | 0, p, v, d, _, _, _, hf => by omega
  | f + 1, p, v, d, hp, hd, hv, hf => by
    unfold fX4_readNumber_4 fX7_number_37
    have hend : (if II d ≤ 0 then (some ((-1 : Int32), II p)) else (some (II v, II p))) = some (if d = 0 then -1 else II v, II p) := by
      by_cases e : d = 0
      · rw [if_pos (show II d ≤ (0 : Int32) from (n_le (b := 0) (by omega) (by decide)).mpr (by omega)), if_pos e]
      · rw [if_neg (fun e2 : II d ≤ (0 : Int32) => e (by have := (n_le (b := 0) (by omega) (by decide)).mp e2; omega)), if_neg e]
    by_cases e : mx ≤ d
    · have z : II mx ≤ II d := (n_le (by omega) (by omega)).mpr e
      rw [if_pos z, if_pos z, hend]
      exact ⟨p, v, d, Nat.le_refl _, hd, hv, by omega, fun h9 => by omega, rfl, rfl⟩
    · have z : ¬ II mx ≤ II d := fun e2 => e ((n_le (by omega) (by omega)).mp e2)
      rw [if_neg z, if_neg z, c_sign h (by omega), ob, r_sign h (by omega), ob]
      by_cases hg : p_dg n pS p
      · obtain ⟨h1, x, hx1, hx2, hx3, hx4⟩ := c_digit.1 hg
        have hr : fX7_in (p_rs n pS p) (48 : Int32) (57 : Int32) = some 1 := r_inY hg
        have hpow : 10 ^ (d + 1) = 10 ^ d * 10 := Nat.pow_succ ..
        have hlim : 10 ^ d ≤ 10000 := by
          have : d = 0 ∨ d = 1 ∨ d = 2 ∨ d = 3 ∨ d = 4 := by omega
          rcases this with rfl | rfl | rfl | rfl | rfl <;> decide
        have ev : ((((10 : Int32) * II v) + II x) - (48 : Int32)) = II (10 * v + x - 48) := by
          rw [show (10 : Int32) * II v = II (10 * v) from n_mul 10 v, n_add]
          exact n_sub (b := 48) (by omega)
        rw [h1, ob, if_neg i1n0, ob, hr, ob, if_neg i1n0, ob, hx3, hx4, ev, show II p + (1 : Int32) = II (p + 1) from n_add p 1, show II d + (1 : Int32) = II (d + 1) from n_add d 1]
        obtain ⟨p', v', d', q1, q2, q3, q4, -, q5, q6⟩ := b_digits h hmx f (p + 1) (10 * v + x - 48) (d + 1) (by omega) (by omega) (by rw [hpow]; omega) (by omega)
        exact ⟨p', v', d', by omega, q2, q3, by omega, fun _ _ => by omega, q5, q6⟩
      · have hr : fX7_in (p_rs n pS p) (48 : Int32) (57 : Int32) = some 0 := r_inN hg
        rw [c_digit.2 hg, ob, if_pos rfl, hend, ob, hr, ob, if_pos rfl]
        exact ⟨p, v, d, Nat.le_refl _, hd, hv, by omega, fun _ h9 => absurd h9 hg, rfl, rfl⟩
/-- a number, read by both -/
theorem b_number {n mx p : Nat} {pS mI : Nat → Int32} (h : PT n pS mI) (h1 : 1 ≤ mx) (hmx : mx ≤ 4) (hp : p ≤ 500) :
    (fX4_readNumber (II n) (II p) pS (II mx) = some (-1, II p) ∧ fX7_number (II n) (II p) (-1) mI (II mx) = some (0, II p, II p)) ∨
    (∃ p' v, p < p' ∧ p' ≤ p + 4 ∧ v < 10 ^ mx ∧ fX4_readNumber (II n) (II p) pS (II mx) = some (II v, II p') ∧ fX7_number (II n) (II p) (-1) mI (II mx) = some (II v, II p', -1)) := by
  obtain ⟨p', v, d, q1, q2, q3, q4, q5, q6, q7⟩ := b_digits h hmx 1000 p 0 0 hp (Nat.zero_le _) (by decide) (by omega)
  unfold fX7_number
  rw [if_pos (show (-1 : Int32) < 0 by decide), r_sign h (by omega), ob]
  have e6 : fX4_readNumber (II n) (II p) pS (II mx) = some (if d = 0 then -1 else II v, II p') := q6
  by_cases hg : p_dg n pS p
  · have hd := q5 (by omega) hg
    rw [if_neg (by omega)] at e6
    rw [show fX7_in (p_rs n pS p) (48 : Int32) (57 : Int32) = some 1 from r_inY hg, ob, if_neg i1n0]
    exact Or.inr ⟨p', v, by omega, by omega, Nat.lt_of_lt_of_le q3 (Nat.pow_le_pow_right (by decide) q2), e6, q7⟩
  · have hd : d = 0 := by
      apply Classical.byContradiction
      intro hd
      -- the first sign is no digit: the class stops at once
      have h9 : fX4_readNumber (II n) (II p) pS (II mx) = some (-1, II p) := by
        show fX4_readNumber_4 1000 (II n) (II p) pS (II mx) (II 0) (II 0) = _
        unfold fX4_readNumber_4
        rw [if_neg (fun e : II mx ≤ II 0 => by have := (n_le (by omega) (by decide)).mp e; omega), c_sign h (by omega), ob, c_digit.2 hg, ob, if_pos rfl, if_pos (by decide)]
      rw [e6, if_neg hd] at h9
      have h10 : II v = -1 := congrArg Prod.fst (Option.some.inj h9)
      exact n_ne1 (by
        have : 10 ^ d ≤ 10000 := by
          have : d = 0 ∨ d = 1 ∨ d = 2 ∨ d = 3 ∨ d = 4 := by omega
          rcases this with rfl | rfl | rfl | rfl | rfl <;> decide
        omega) h10
    rw [if_pos hd, show p' = p from by omega] at e6
    rw [show fX7_in (p_rs n pS p) (48 : Int32) (57 : Int32) = some 0 from r_inN hg, ob, if_pos rfl]
    exact Or.inl ⟨e6, rfl⟩
/-- behind an error the reference's number changes nothing -/
theorem r_numberE {n q : Nat} {mI : Nat → Int32} (hq : q ≤ 1000) (mx : Int32) : fX7_number (II n) (II q) (II q) mI mx = some (0, II q, II q) := by
  unfold fX7_number
  rw [if_neg (n_nlt0 (by omega))]
theorem r_signedE {n q : Nat} {mI : Nat → Int32} (hq : q ≤ 1000) : fX7_signed (II n) (II q) (II q) mI = some (0, II q, II q) := by
  unfold fX7_signed fX7_signed_36
  rw [if_pos (n_0le (by omega)), if_pos rfl, r_numberE hq, ob, if_pos rfl]
theorem r_kindE {n q : Nat} {mI : Nat → Int32} (hq : q ≤ 1000) : fX7_kindSign (II n) (II q) (II q) mI = some (0, II q, II q) := by
  unfold fX7_kindSign
  rw [if_neg (n_nlt0 (by omega))]
theorem c_readSign {n q : Nat} {pS mI : Nat → Int32} (h : PT n pS mI) (hq : q ≤ 1000) (L : Int32) : fX4_readSign (II n) (II q) pS L = some (if p_cs n pS q = L then 1 else 0, II (if p_cs n pS q = L then q + 1 else q)) := by
  unfold fX4_readSign
  rw [c_sign h hq, ob]
  by_cases e : p_cs n pS q = L
  · rw [if_pos e, if_pos e, if_pos e, show II q + (1 : Int32) = II (q + 1) from n_add q 1]
  · rw [if_neg e, if_neg e, if_neg e]
/-- a value with its sign, read by both -/
theorem b_value {n p : Nat} {pS mI pW : Nat → Int32} {j : Nat} (h : PT n pS mI) (hp : p ≤ 400) (hj : j < 60) :
    ∃ p' b v, p ≤ p' ∧ p' ≤ p + 5 ∧ fX4_readValue (II n) (II p) (II j) pS pW = some (if b then 1 else 0, II p', if b then upd pW j v else pW) ∧ fX7_signed (II n) (II p) (-1) mI = some (if b then v else 0, II p', p_E (p', b)) ∧ ((-999 : Int32) ≤ v ∧ v ≤ (999 : Int32)) := by
  have core : ∀ (q : Nat) (m1 : Int32), q ≤ 401 → (m1 = 0 ∨ m1 = 1) → ∃ p' b v, q ≤ p' ∧ p' ≤ q + 4 ∧ ((fX4_readNumber (II n) (II q) pS (3 : Int32)).bind fun r2 => (if r2.1 = (-1 : Int32) then (some ((0 : Int32), r2.2, pW)) else (if II j < 0 then (some ((0 : Int32), r2.2, pW)) else (if II j < (60 : Int32) then (if m1 = 0 then (if hl_in (II j) 60 = true then (some ((1 : Int32), r2.2, upd pW ((II j).toNatClampNeg) r2.1)) else none) else (if hl_in (II j) 60 = true then (some ((1 : Int32), r2.2, upd pW ((II j).toNatClampNeg) (-r2.1))) else none)) else (some ((0 : Int32), r2.2, pW)))))) = some (if b then 1 else 0, II p', if b then upd pW j v else pW) ∧
      fX7_signed_36 (II n) (II q) (-1) mI m1 = some (if b then v else 0, II p', p_E (p', b)) ∧ ((-999 : Int32) ≤ v ∧ v ≤ (999 : Int32)) := fun q m1 hq hm1 => by
    unfold fX7_signed_36
    rcases b_number (mx := 3) h (by decide) (by decide) (p := q) (by omega) with ⟨g1, g2⟩ | ⟨p', v, l1, l2, l3, g1, g2⟩
    · rw [show fX4_readNumber (II n) (II q) pS (3 : Int32) = _ from g1, ob, if_pos rfl, show fX7_number (II n) (II q) (-1) mI (3 : Int32) = _ from g2, ob]
      refine ⟨q, false, 0, Nat.le_refl _, by omega, rfl, ?_, by decide⟩
      rcases hm1 with rfl | rfl
      · rw [if_pos rfl]; rfl
      · rw [if_neg i1n0]
        show some (-(0 : Int32), II q, II q) = some (0, II q, II q)
        rw [Int32.neg_zero]
    · have l4 : v < 1000 := l3
      have n1 : ¬ II v = (-1 : Int32) := n_ne1 (by omega)
      have jj : ¬ II j < (0 : Int32) := n_nlt0 (by omega)
      have j6 : II j < (60 : Int32) := (n_lt (b := 60) (by omega) (by decide)).mpr hj
      rw [show fX4_readNumber (II n) (II q) pS (3 : Int32) = _ from g1, ob, if_neg n1, if_neg jj, if_pos j6, if_pos (n_in (by omega) hj), if_pos (n_in (by omega) hj), n_cl (by omega), show fX7_number (II n) (II q) (-1) mI (3 : Int32) = _ from g2, ob]
      rcases hm1 with rfl | rfl
      · rw [if_pos rfl, if_pos rfl]
        refine ⟨p', true, II v, by omega, l2, rfl, rfl, ?_, (n_le (b := 999) (by omega) (by decide)).mpr (by omega)⟩
        have := n_0le (a := v) (by omega)
        rw [fa_le, show (0 : Int32).toInt = 0 from by decide] at this
        rw [fa_le, show (-999 : Int32).toInt = -999 from by decide]
        omega
      · rw [if_neg i1n0, if_neg i1n0]
        have hi : (-(II v)).toInt = -(v : Int) := by
          rw [show -(II v) = Int32.ofInt (-(v : Int)) from Int32.neg_ofNat]
          exact Int32.toInt_ofInt_of_le (by omega) (by omega)
        refine ⟨p', true, -(II v), by omega, l2, rfl, rfl, ?_, ?_⟩
        · rw [fa_le, hi, show (-999 : Int32).toInt = -999 from by decide]; omega
        · rw [fa_le, hi, show (999 : Int32).toInt = 999 from by decide]; omega
  unfold fX4_readValue fX7_signed
  rw [if_neg (by decide), r_sign h (by omega), ob, c_readSign h (by omega), ob]
  by_cases e : p_cs n pS p = (45 : Int32)
  · have e2 : p_rs n pS p = (45 : Int32) := (p_same (by decide) (by decide)).mpr e
    rw [if_pos e2, if_neg i1n0, if_pos e, if_pos e, show II p + (1 : Int32) = II (p + 1) from n_add p 1]
    obtain ⟨p', b, v, q1, q2, q3, q4, q5⟩ := core (p + 1) 1 (by omega) (Or.inr rfl)
    exact ⟨p', b, v, by omega, by omega, q3, q4, q5⟩
  · have e2 : ¬ p_rs n pS p = (45 : Int32) := fun e3 => e ((p_same (by decide) (by decide)).mp e3)
    rw [if_neg e2, if_pos rfl, if_neg e, if_neg e]
    obtain ⟨p', b, v, q1, q2, q3, q4, q5⟩ := core p 0 (by omega) (Or.inl rfl)
    exact ⟨p', b, v, by omega, by omega, q3, q4, q5⟩
