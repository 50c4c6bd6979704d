/-! the class's and the reference's probe sequences -/
theorem n_half {a : Nat} (ha : a < 2147483648) : II a / (2 : Int32) = II (a / 2) := n_div (b := 2) ha (by decide)
theorem m_wrap {c : Nat} (hc : cOK c) (a : Nat) : II a &&& (II c - (1 : Int32)) = II (a % c) := by
  rcases hc with rfl | rfl | rfl | rfl
  · rw [show II 8 - (1 : Int32) = II 7 from by decide, n_and, show 7 = 2 ^ 3 - 1 from rfl, Nat.and_two_pow_sub_one_eq_mod]
  · rw [show II 16 - (1 : Int32) = II 15 from by decide, n_and, show 15 = 2 ^ 4 - 1 from rfl, Nat.and_two_pow_sub_one_eq_mod]
  · rw [show II 32 - (1 : Int32) = II 31 from by decide, n_and, show 31 = 2 ^ 5 - 1 from rfl, Nat.and_two_pow_sub_one_eq_mod]
  · rw [show II 64 - (1 : Int32) = II 63 from by decide, n_and, show 63 = 2 ^ 6 - 1 from rfl, Nat.and_two_pow_sub_one_eq_mod]
theorem m_wrapN {c a b : Nat} (hc : cOK c) (hb : b ≤ c) : (II a - II b) &&& (II c - (1 : Int32)) = II ((a + c - b) % c) := by
  have h64 := hc.le
  rw [n_neg (by omega), m_wrap hc]
  refine congrArg II ?_
  rcases hc with rfl | rfl | rfl | rfl <;> omega
theorem c_wrap {c : Nat} (hc : cOK c) (a : Nat) : fX5_wrap (II c) (II a) = some (II (a % c)) := congrArg some (m_wrap hc a)
theorem c_wrapN {c a b : Nat} (hc : cOK c) (hb : b ≤ c) : fX5_wrap (II c) (II a - II b) = some (II ((a + c - b) % c)) := congrArg some (m_wrapN hc hb)
theorem m_hash {k sd : Nat} (hk : k ≤ 9999) (hs : sd ≤ 999) : hl_rem (((40503 : Int32) * II k) + ((9973 : Int32) * II sd)) (65536 : Int32) = II (hN k sd) := by
  show hl_rem ((II 40503 * II k) + (II 9973 * II sd)) (II 65536) = _
  rw [n_mul, n_mul, n_add, n_rem (by omega) (by decide)]
  rfl
theorem c_hash {k sd : Nat} (hk : k ≤ 9999) (hs : sd ≤ 999) : fX5_hashOf (II sd) (II k) = some (II (hN k sd)) := congrArg some (m_hash hk hs)
theorem m_stride {c h : Nat} (hc : cOK c) (hh : h < 65536) : ((2 : Int32) * (hl_rem (II h / II c) (II c / (2 : Int32)))) + (1 : Int32) = II (2 * (h / c % (c / 2)) + 1) := by
  have h1 := hc.lt
  have h2 : h / c < 65536 := Nat.lt_of_le_of_lt (Nat.div_le_self _ _) hh
  have h3 : c / 2 < 65536 := by have := hc.le; omega
  rw [n_half h1, n_div (by omega) h1, n_rem (by omega) (by omega)]
  show II 2 * II _ + II 1 = _
  rw [n_mul, n_add]
theorem c_half0 {c : Nat} (hc : cOK c) : ¬ II c / (2 : Int32) = 0 := by
  rcases hc with rfl | rfl | rfl | rfl <;> decide
theorem c_ne0 {c : Nat} (hc : cOK c) : ¬ II c = 0 := by
  rcases hc with rfl | rfl | rfl | rfl <;> decide
theorem c_stride {c kd h : Nat} (hc : cOK c) (hkd : kd ≤ 2) (hh : h < 65536) : fX5_strideOf (II c) (II kd) (II h) = some (II (stN c kd h)) := by
  unfold fX5_strideOf stN
  by_cases h2 : kd = 2
  · subst h2
    rw [if_pos rfl, if_pos (show II 2 = (2 : Int32) from rfl), if_pos (show (2 : Int32) ≤ II c from (n_le (a := 2) (by decide) hc.lt).mpr (by have := hc.ge; omega)), if_neg (c_ne0 hc), if_neg (c_half0 hc), m_stride hc hh]
  · rw [if_neg h2, if_neg (fun e : II kd = (2 : Int32) => h2 ((n_eq (b := 2) (by omega) (by decide)).mp e))]
    rfl
theorem m_tri {i : Nat} (hi : i ≤ 64) : (II i * (II i + (1 : Int32))) / (2 : Int32) = II (i * (i + 1) / 2) := by
  show (II i * (II i + II 1)) / (2 : Int32) = _
  have : i * (i + 1) ≤ 64 * 65 := Nat.mul_le_mul hi (by omega)
  rw [n_add, n_mul, n_half (by omega)]
theorem ofN_lt {kd i st : Nat} (hi : i ≤ 64) (hs : st < 64) : ofN kd i st ≤ 4160 := by
  unfold ofN
  have h1 : i * (i + 1) ≤ 64 * 65 := Nat.mul_le_mul hi (by omega)
  have h2 : i * st ≤ 64 * 64 := Nat.mul_le_mul hi (by omega)
  split <;> omega
theorem c_offset {kd i st : Nat} (hkd : kd ≤ 2) (hi : i ≤ 64) : fX5_offsetAt (II kd) (II i) (II st) = some (II (ofN kd i st)) := by
  unfold fX5_offsetAt ofN
  by_cases h1 : kd = 1
  · subst h1
    rw [if_pos rfl, if_pos (show II 1 = (1 : Int32) from rfl), m_tri hi]
  · rw [if_neg h1, if_neg (fun e : II kd = (1 : Int32) => h1 ((n_eq (b := 1) (by omega) (by decide)).mp e)), n_mul]
theorem c_slotIn {c kd sd k i : Nat} (hc : cOK c) (hkd : kd ≤ 2) (hs : sd ≤ 999) (hk : k ≤ 9999) (hi : i ≤ 64) : fX5_slotInSequence (II c) (II kd) (II sd) (II k) (II i) = some (II (sq c kd sd k i)) := by
  unfold fX5_slotInSequence sq
  rw [c_hash hk hs, ob, c_wrap hc, ob, c_stride hc hkd (hN_lt k sd), ob, c_offset hkd hi, ob, n_add, c_wrap hc, ob, Nat.mod_add_mod]
/-! the reference -/
def Rw (o c kd sd lm fu tb : Nat) (K V : Nat → Int32) (mA : Nat → Int32) : Prop :=
  mA o = II c ∧ mA (o + 1) = II fu ∧ mA (o + 2) = II tb ∧ mA (o + 3) = II kd ∧ mA (o + 4) = II sd ∧ mA (o + 5) = II lm ∧
  ∀ s, s < 64 → (K s = -1 ∧ mA (o + 8 + 3 * s) = 0) ∨ (K s = -2 ∧ mA (o + 8 + 3 * s) = 2) ∨ (0 ≤ K s ∧ mA (o + 8 + 3 * s) = 1 ∧ mA (o + 9 + 3 * s) = K s ∧ mA (o + 10 + 3 * s) = V s)
/-- how it stands with a slot -/
theorem Rw.at {c kd sd lm fu tb : Nat} {K V mA : Nat → Int32} (h : Rw 0 c kd sd lm fu tb K V mA) {s : Nat} (hs : s < 64) : (K s = -1 ∧ mA (8 + 3 * s) = 0) ∨ (K s = -2 ∧ mA (8 + 3 * s) = 2) ∨ (0 ≤ K s ∧ mA (8 + 3 * s) = 1 ∧ mA (9 + 3 * s) = K s ∧ mA (10 + 3 * s) = V s) := by
  have h1 := h.2.2.2.2.2.2 s hs
  rw [show 0 + 8 + 3 * s = 8 + 3 * s from by omega, show 0 + 9 + 3 * s = 9 + 3 * s from by omega, show 0 + 10 + 3 * s = 10 + 3 * s from by omega] at h1
  exact h1
theorem Rw.c0 {c kd sd lm fu tb : Nat} {K V mA : Nat → Int32} (h : Rw 0 c kd sd lm fu tb K V mA) : mA 0 = II c := h.1
theorem Rw.c1 {c kd sd lm fu tb : Nat} {K V mA : Nat → Int32} (h : Rw 0 c kd sd lm fu tb K V mA) : mA 1 = II fu := h.2.1
theorem Rw.c2 {c kd sd lm fu tb : Nat} {K V mA : Nat → Int32} (h : Rw 0 c kd sd lm fu tb K V mA) : mA 2 = II tb := h.2.2.1
theorem Rw.c3 {c kd sd lm fu tb : Nat} {K V mA : Nat → Int32} (h : Rw 0 c kd sd lm fu tb K V mA) : mA 3 = II kd := h.2.2.2.1
theorem Rw.c4 {c kd sd lm fu tb : Nat} {K V mA : Nat → Int32} (h : Rw 0 c kd sd lm fu tb K V mA) : mA 4 = II sd := h.2.2.2.2.1
theorem Rw.c5 {c kd sd lm fu tb : Nat} {K V mA : Nat → Int32} (h : Rw 0 c kd sd lm fu tb K V mA) : mA 5 = II lm := h.2.2.2.2.2.1
theorem r_in {a b n : Nat} (hn : n < 2147483648) (ha : a < 2147483648) (hb : b < 2147483648) : fX7_in (II n) (II a) (II b) = some (if a ≤ n ∧ n ≤ b then 1 else 0) := by
  unfold fX7_in
  by_cases h1 : n < a
  · rw [if_pos ((n_lt hn ha).mpr h1), if_neg (by omega)]
  · rw [if_neg (fun e => h1 ((n_lt hn ha).mp e))]
    by_cases h2 : b < n
    · rw [if_pos ((n_lt hb hn).mpr h2), if_neg (by omega)]
    · rw [if_neg (fun e => h2 ((n_lt hb hn).mp e)), if_pos (by omega)]
theorem r_at {mA : Nat → Int32} {s w : Nat} (hs : s < 64) (hw : w ≤ 2) : fX7_at mA (II s) (II w) = some (mA (8 + 3 * s + w)) := by
  unfold fX7_at
  have h1 : ((8 : Int32) + ((3 : Int32) * II s)) + II w = II (8 + 3 * s + w) := by
    show (II 8 + (II 3 * II s)) + II w = _
    rw [n_mul, n_add, n_add]
  rw [h1, if_pos (n_in (by omega) (by omega)), n_cl (by omega)]
theorem r_at0 {mA : Nat → Int32} {s : Nat} (hs : s < 64) : fX7_at mA (II s) (0 : Int32) = some (mA (8 + 3 * s)) := r_at (w := 0) hs (by decide)
theorem r_at1 {mA : Nat → Int32} {s : Nat} (hs : s < 64) : fX7_at mA (II s) (1 : Int32) = some (mA (9 + 3 * s)) := by
  rw [show 9 + 3 * s = 8 + 3 * s + 1 from by omega]
  exact r_at (w := 1) hs (by decide)
theorem r_at2 {mA : Nat → Int32} {s : Nat} (hs : s < 64) : fX7_at mA (II s) (2 : Int32) = some (mA (10 + 3 * s)) := by
  rw [show 10 + 3 * s = 8 + 3 * s + 2 from by omega]
  exact r_at (w := 2) hs (by decide)
theorem r_set {mA : Nat → Int32} {s : Nat} (hs : s < 64) (x y z : Int32) : fX7_set mA (II s) x y z = some (upd (upd (upd mA (8 + 3 * s) x) (9 + 3 * s) y) (10 + 3 * s) z) := by
  unfold fX7_set
  have h1 : ∀ w, ((8 : Int32) + ((3 : Int32) * II s)) + II w = II (8 + 3 * s + w) := fun w => by
    show (II 8 + (II 3 * II s)) + II w = _
    rw [n_mul, n_add, n_add]
  have e0 := h1 0
  have e1 := h1 1
  have e2 := h1 2
  rw [show ((8 : Int32) + ((3 : Int32) * II s)) + (0 : Int32) = II (8 + 3 * s + 0) from e0, show ((8 : Int32) + ((3 : Int32) * II s)) + (1 : Int32) = II (8 + 3 * s + 1) from e1, show ((8 : Int32) + ((3 : Int32) * II s)) + (2 : Int32) = II (8 + 3 * s + 2) from e2,
    if_pos (n_in (by omega) (by omega)), if_pos (n_in (by omega) (by omega)), if_pos (n_in (by omega) (by omega)), n_cl (by omega), n_cl (by omega), n_cl (by omega),
    show 8 + 3 * s + 0 = 8 + 3 * s from rfl, show 8 + 3 * s + 1 = 9 + 3 * s from by omega, show 8 + 3 * s + 2 = 10 + 3 * s from by omega]
theorem r_hash {mA : Nat → Int32} {k sd : Nat} (h4 : mA 4 = II sd) (hk : k ≤ 9999) (hs : sd ≤ 999) : fX7_hash mA (II k) = some (II (hN k sd)) := by
  unfold fX7_hash
  rw [h4, m_hash hk hs]
theorem r_step {mA : Nat → Int32} {c kd k sd : Nat} (h0 : mA 0 = II c) (h3 : mA 3 = II kd) (h4 : mA 4 = II sd) (hc : cOK c) (hkd : kd ≤ 2) (hk : k ≤ 9999) (hs : sd ≤ 999) : fX7_stepOf mA (II k) = some (II (stN c kd (hN k sd))) := by
  unfold fX7_stepOf stN
  rw [h0, h3, r_hash h4 hk hs, ob]
  by_cases h2 : kd = 2
  · subst h2
    rw [if_pos rfl, if_pos (show II 2 = (2 : Int32) from rfl), if_neg (c_ne0 hc), if_neg (c_half0 hc), m_stride hc (hN_lt k sd)]
  · rw [if_neg h2, if_neg (fun e : II kd = (2 : Int32) => h2 ((n_eq (b := 2) (by omega) (by decide)).mp e))]
    rfl
theorem r_slotAt {mA : Nat → Int32} {c kd k sd i : Nat} (h0 : mA 0 = II c) (h3 : mA 3 = II kd) (h4 : mA 4 = II sd) (hc : cOK c) (hkd : kd ≤ 2) (hk : k ≤ 9999) (hs : sd ≤ 999) (hi : i ≤ 64) : fX7_slotAt mA (II k) (II i) = some (II (sq c kd sd k i)) := by
  have h1 : ∀ x, x ≤ 4160 → fX7_slotAt_27 mA (II k) (II x) = some (II ((hN k sd + x) % c)) := fun x hx => by
    unfold fX7_slotAt_27
    have := hN_lt k sd
    rw [r_hash h4 hk hs, ob, h0, if_neg (c_ne0 hc), n_add, n_rem (by omega) hc.lt]
  have h64 := hc.le
  have hlt := ofN_lt (kd := kd) (st := stN c kd (hN k sd)) hi (Nat.lt_of_lt_of_le (stN_lt hc) h64)
  unfold fX7_slotAt sq
  rw [h3]
  by_cases hk1 : kd = 1
  · subst hk1
    rw [if_pos (show II 1 = (1 : Int32) from rfl), m_tri hi, h1 _ (by unfold ofN at hlt; rw [if_pos rfl] at hlt; exact hlt)]
    unfold ofN
    rw [if_pos rfl]
  · rw [if_neg (fun e : II kd = (1 : Int32) => hk1 ((n_eq (b := 1) (by omega) (by decide)).mp e)), r_step h0 h3 h4 hc hkd hk hs, ob, n_mul, h1 _ (by unfold ofN at hlt; rw [if_neg hk1] at hlt; exact hlt)]
    unfold ofN
    rw [if_neg hk1]
