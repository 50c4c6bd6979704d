/-! calls of both:  -/
/-! means and loads: their bits -/
abbrev fB : FP.Core.Fmt := FP.Core.b64
theorem fB_t : FP.Core.Fmt.tails fB = 4503599627370496 := by decide +kernel
theorem fB_e : FP.Core.Fmt.exps fB = 2048 := by decide +kernel
theorem fB_q : FP.Core.Fmt.qmin fB = -1074 := by decide +kernel
theorem fB_m : FP.Core.Fmt.qmax fB = 971 := by decide +kernel
theorem fB_p : (2 : Nat) ^ fB.p = 9007199254740992 := by decide +kernel
theorem fB_p1 : ((fB.p : Nat) : Int) - 1 = 52 := by decide +kernel
/-- a number with all its digits -/
def fN (c : Nat) (q : Int) : Prop := 4503599627370496 ≤ c ∧ c < 9007199254740992 ∧ -1074 ≤ q ∧ q ≤ 971
def fn (c : Nat) (q : Int) : Nat := (q + 1075).toNat * 4503599627370496 + (c - 4503599627370496)
def fe (c : Nat) (q : Int) : UInt64 := UInt64.ofNat (fn c q)
theorem fn_lt {c : Nat} {q : Int} (h : fN c q) : fn c q < 9223372036854775808 := by
  obtain ⟨h1, h2, h3, h4⟩ := h
  unfold fn
  have : (q + 1075).toNat ≤ 2046 := by omega
  have := Nat.mul_le_mul_right 4503599627370496 this
  omega
theorem fn_enc {c : Nat} {q : Int} (h : fN c q) : FP.Core.encode fB (.fin false c q) = fn c q := by
  obtain ⟨h1, h2, h3, h4⟩ := h
  show (if c < FP.Core.Fmt.tails fB then FP.Core.assemble fB false 0 c else FP.Core.assemble fB false ((q - FP.Core.Fmt.qmin fB).toNat + 1) (c - FP.Core.Fmt.tails fB)) = _
  unfold FP.Core.assemble fn
  rw [fB_t, fB_q, fB_e, if_neg (by omega), show (q - -1074).toNat + 1 = (q + 1075).toNat from by omega]
  show (0 * 2048 + (q + 1075).toNat) * 4503599627370496 + _ = _
  rw [Nat.zero_mul, Nat.zero_add]
theorem fn_dec {c : Nat} {q : Int} (h : fN c q) : FP.Core.decode fB (fe c q).toNat = .fin false c q := by
  have hlt := fn_lt h
  obtain ⟨h1, h2, h3, h4⟩ := h
  have hn : (fe c q).toNat = fn c q := by
    unfold fe
    rw [UInt64.toNat_ofNat']
    omega
  have a1 : fn c q / 4503599627370496 = (q + 1075).toNat := by unfold fn; omega
  have a2 : fn c q % 4503599627370496 = c - 4503599627370496 := by unfold fn; omega
  unfold FP.Core.decode FP.Core.fieldE FP.Core.fieldT FP.Core.fieldS
  rw [hn, fB_t, fB_e, fB_q, a1, a2]
  have a3 : (q + 1075).toNat % 2048 = (q + 1075).toNat := by omega
  have a4 : (q + 1075).toNat / 2048 = 0 := by omega
  rw [a3, a4, if_neg (by omega), if_neg (by omega)]
  show FP.Core.Datum.fin false (4503599627370496 + (c - 4503599627370496)) (-1074 + (((q + 1075).toNat : Int) - 1)) = _
  rw [show 4503599627370496 + (c - 4503599627370496) = c from by omega, show -1074 + (((q + 1075).toNat : Int) - 1) = q from by omega]
theorem fn_le {c : Nat} {q : Int} (h : fN c q) : fn c q ≤ 9218868437227405312 := by
  obtain ⟨h1, h2, h3, h4⟩ := h
  unfold fn
  have h5 : (q + 1075).toNat ≤ 2046 := by omega
  have h6 := Nat.mul_le_mul_right 4503599627370496 h5
  have h7 : c - 4503599627370496 ≤ 4503599627370496 := by omega
  exact Nat.le_trans (Nat.add_le_add h6 h7) (Nat.le_of_ble_eq_true rfl)
theorem fn_bits {c : Nat} {q : Int} (h : fN c q) : hl_n64 (fe c q) = true := by
  have hlt := fn_lt h
  unfold hl_n64
  refine decide_eq_true ?_
  have hn : (fe c q).toNat = fn c q := by
    unfold fe
    rw [UInt64.toNat_ofNat']
    omega
  rw [UInt64.le_iff_toNat_le, UInt64.toNat_and, hn]
  show fn c q &&& 9223372036854775807 ≤ 9218868437227405312
  rw [show (9223372036854775807 : Nat) = 2 ^ 63 - 1 from by decide, Nat.and_two_pow_sub_one_eq_mod]
  exact Nat.le_trans (Nat.mod_le _ _) (fn_le h)
/-- rounding a whole number of at most 53 digits -/
theorem fn_near (N B : Nat) (hB : 0 < B) : FP.Core.nearest (N * B) B = N := by
  unfold FP.Core.nearest
  rw [Nat.mul_mod_left, Nat.mul_zero, if_pos hB, Nat.mul_div_cancel _ hB]
theorem fn_settle {c : Nat} {q : Int} (h1 : c < 9007199254740992) (h2 : q ≤ 971) : FP.Core.settle fB false c q = .fin false c q := by
  unfold FP.Core.settle FP.Core.bound
  rw [fB_p, fB_m, if_pos h1, if_pos h2]
theorem fn_settle2 {q : Int} (h2 : q + 1 ≤ 971) : FP.Core.settle fB false 9007199254740992 q = .fin false 4503599627370496 (q + 1) := by
  unfold FP.Core.settle FP.Core.bound
  rw [fB_p, fB_m, fB_t, if_neg (by omega), if_pos h2]
theorem fn_quant {A B : Nat} {e k : Int} (h : FP.Core.leading A B = k) (h2 : -1074 ≤ k + e - 52) : FP.Core.quantum fB A B e = k + e - 52 := by
  unfold FP.Core.quantum
  rw [fB_q, fB_p1, h]
  exact Int.max_eq_right h2
theorem fn_round {X l : Nat} {e : Int} (hX : X ≠ 0) (hl : Nat.log2 X = l) (hl2 : l ≤ 52) (h1 : -1074 ≤ (l : Int) + e - 52) (h2 : (l : Int) + e - 52 ≤ 971) :
    FP.Core.roundRatio fB false X 1 e = .fin false (X * 2 ^ (52 - l)) ((l : Int) + e - 52) ∧ fN (X * 2 ^ (52 - l)) ((l : Int) + e - 52) := by
  obtain ⟨g1, g2⟩ := (Nat.log2_eq_iff hX).mp hl
  have hpos : 0 < 2 ^ (52 - l) := Nat.two_pow_pos _
  have b1 : 4503599627370496 ≤ X * 2 ^ (52 - l) := by
    have := Nat.mul_le_mul_right (2 ^ (52 - l)) g1
    rw [← Nat.pow_add, show l + (52 - l) = 52 from by omega] at this
    exact this
  have b2 : X * 2 ^ (52 - l) < 9007199254740992 := by
    have := (Nat.mul_lt_mul_right hpos).mpr g2
    rw [← Nat.pow_add, show l + 1 + (52 - l) = 53 from by omega] at this
    exact this
  have hlead : FP.Core.leading X 1 = (l : Int) := by
    unfold FP.Core.leading
    rw [hl, show Nat.log2 1 = 0 from by decide]
    show (if 1 * 2 ^ ((l : Int) - ((0 : Nat) : Int)).toNat ≤ X * 2 ^ (-((l : Int) - ((0 : Nat) : Int))).toNat then (l : Int) - ((0 : Nat) : Int) else (l : Int) - ((0 : Nat) : Int) - 1) = l
    rw [show ((l : Int) - ((0 : Nat) : Int)).toNat = l from by omega, show (-((l : Int) - ((0 : Nat) : Int))).toNat = 0 from by omega, if_pos (by omega)]
    omega
  refine ⟨?_, b1, b2, h1, h2⟩
  unfold FP.Core.roundRatio
  rw [if_neg hX, fn_quant hlead h1]
  unfold FP.Core.roundAt FP.Core.unitsNum FP.Core.unitsDen
  rw [show (e - ((l : Int) + e - 52)).toNat = 52 - l from by omega, show ((l : Int) + e - 52 - e).toNat = 0 from by omega]
  have := fn_near (X * 2 ^ (52 - l)) 1 (by decide)
  rw [Nat.mul_one] at this
  rw [show 1 * 2 ^ 0 = 1 from rfl, this, fn_settle b2 h2]
theorem fn_i2d {S l : Nat} (hS : S ≠ 0) (hS2 : S < 2147483648) (hl : Nat.log2 S = l) (hl2 : l ≤ 52) : FP.i2d (II S) = fe (S * 2 ^ (52 - l)) ((l : Int) - 52) ∧ fN (S * 2 ^ (52 - l)) ((l : Int) - 52) := by
  obtain ⟨g1, g2⟩ := fn_round (e := 0) hS hl hl2 (by omega) (by omega)
  rw [show (l : Int) + 0 - 52 = (l : Int) - 52 from by omega] at g1 g2
  refine ⟨?_, g2⟩
  show UInt64.ofNat (FP.Core.encode fB (FP.Core.roundRatio fB (decide ((II S).toInt < 0)) (II S).toInt.natAbs 1 0)) = _
  rw [n_ti hS2, decide_eq_false (by omega), Int.natAbs_natCast, g1, fn_enc g2]
  rfl
/-- a quotient of two numbers, the first not less -/
theorem fn_div {c1 c2 : Nat} {q1 q2 : Int} (h1 : fN c1 q1) (h2 : fN c2 q2) (hq : q2 ≤ q1) (hq2 : q1 ≤ q2 + 20) (hc : q1 = q2 → c2 ≤ c1) : ∃ c q, FP.ddiv (fe c1 q1) (fe c2 q2) = fe c q ∧ fN c q ∧ -52 ≤ q ∧ q ≤ -30 := by
  obtain ⟨a1, a2, a3, a4⟩ := h1
  obtain ⟨b1, b2, b3, b4⟩ := h2
  have l1 : Nat.log2 c1 = 52 := (Nat.log2_eq_iff (by omega)).mpr ⟨a1, a2⟩
  have l2 : Nat.log2 c2 = 52 := (Nat.log2_eq_iff (by omega)).mpr ⟨b1, b2⟩
  have hd : FP.ddiv (fe c1 q1) (fe c2 q2) = UInt64.ofNat (FP.Core.encode fB (FP.Core.roundRatio fB false c1 c2 (q1 - q2))) := by
    show UInt64.ofNat (FP.Core.encode fB (FP.Core.quotient fB (FP.Core.decode fB (fe c1 q1).toNat) (FP.Core.decode fB (fe c2 q2).toNat))) = _
    rw [fn_dec ⟨a1, a2, a3, a4⟩, fn_dec ⟨b1, b2, b3, b4⟩]
    show UInt64.ofNat (FP.Core.encode fB (if c2 = 0 then (if c1 = 0 then .nan else .inf (false != false)) else FP.Core.roundRatio fB (false != false) c1 c2 (q1 - q2))) = _
    rw [if_neg (by omega)]
    rfl
  have fin : ∀ (N : Nat) (q : Int), 4503599627370496 ≤ N → N ≤ 9007199254740992 → -52 ≤ q → q ≤ -31 → FP.Core.roundRatio fB false c1 c2 (q1 - q2) = FP.Core.settle fB false N q → ∃ c q, FP.ddiv (fe c1 q1) (fe c2 q2) = fe c q ∧ fN c q ∧ -52 ≤ q ∧ q ≤ -30 := fun N q n1 n2 n3 n4 e => by
    rw [hd, e]
    by_cases hN : N < 9007199254740992
    · rw [fn_settle hN (by omega), fn_enc ⟨n1, hN, by omega, by omega⟩]
      exact ⟨N, q, rfl, ⟨n1, hN, by omega, by omega⟩, n3, by omega⟩
    · rw [show N = 9007199254740992 from by omega, fn_settle2 (by omega), fn_enc ⟨by omega, by omega, by omega, by omega⟩]
      exact ⟨4503599627370496, q + 1, rfl, ⟨by omega, by omega, by omega, by omega⟩, by omega, by omega⟩
  have near : ∀ A : Nat, 4503599627370496 * c2 ≤ A → A < 9007199254740992 * c2 → 4503599627370496 ≤ FP.Core.nearest A c2 ∧ FP.Core.nearest A c2 ≤ 9007199254740992 := fun A h1 h2 => by
    have g1 : 4503599627370496 ≤ A / c2 := (Nat.le_div_iff_mul_le (by omega)).mpr h1
    have g2 : A / c2 < 9007199254740992 := (Nat.div_lt_iff_lt_mul (by omega)).mpr h2
    unfold FP.Core.nearest
    split
    · omega
    · split <;> omega
  by_cases hcc : c2 ≤ c1
  · have hlead : FP.Core.leading c1 c2 = 0 := by
      unfold FP.Core.leading
      rw [l1, l2]
      show (if c2 * 2 ^ 0 ≤ c1 * 2 ^ 0 then (0 : Int) else _) = 0
      rw [if_pos (by omega)]
    have hn := near (c1 * 4503599627370496) (by rw [Nat.mul_comm]; exact Nat.mul_le_mul_right _ hcc) (by omega)
    refine fin _ (0 + (q1 - q2) - 52) hn.1 hn.2 (by omega) (by omega) ?_
    unfold FP.Core.roundRatio
    rw [if_neg (by omega), fn_quant hlead (by omega)]
    unfold FP.Core.roundAt FP.Core.unitsNum FP.Core.unitsDen
    rw [show (q1 - q2 - (0 + (q1 - q2) - 52)).toNat = 52 from by omega, show (0 + (q1 - q2) - 52 - (q1 - q2)).toNat = 0 from by omega, show c2 * 2 ^ 0 = c2 from Nat.mul_one _]
  · have hq3 : q2 + 1 ≤ q1 := by
      apply Classical.byContradiction
      intro hn
      exact hcc (hc (by omega))
    have hlead : FP.Core.leading c1 c2 = -1 := by
      unfold FP.Core.leading
      rw [l1, l2]
      show (if c2 * 2 ^ 0 ≤ c1 * 2 ^ 0 then (0 : Int) else 0 - 1) = -1
      rw [if_neg (by omega)]
      rfl
    have hn := near (c1 * 9007199254740992) (by omega) (by rw [Nat.mul_comm]; exact (Nat.mul_lt_mul_left (by decide)).mpr (by omega))
    refine fin _ (-1 + (q1 - q2) - 52) hn.1 hn.2 (by omega) (by omega) ?_
    unfold FP.Core.roundRatio
    rw [if_neg (by omega), fn_quant hlead (by omega)]
    unfold FP.Core.roundAt FP.Core.unitsNum FP.Core.unitsDen
    rw [show (q1 - q2 - (-1 + (q1 - q2) - 52)).toNat = 53 from by omega, show (-1 + (q1 - q2) - 52 - (q1 - q2)).toNat = 0 from by omega, show c2 * 2 ^ 0 = c2 from Nat.mul_one _]
/-- the constants -/
theorem fe_two : (4611686018427387904 : UInt64) = fe 4503599627370496 (-51) := by decide +kernel
theorem fe_one : FP.dconst1 = fe 4503599627370496 (-52) := by decide +kernel
theorem fe_p52 : (4841369599423283200 : UInt64) = fe 4503599627370496 0 := by decide +kernel
theorem fN_two : fN 4503599627370496 (-51) := ⟨by omega, by omega, by omega, by omega⟩
theorem fN_one : fN 4503599627370496 (-52) := ⟨by omega, by omega, by omega, by omega⟩
theorem fN_p52 : fN 4503599627370496 0 := ⟨by omega, by omega, by omega, by omega⟩
theorem fn_half {c : Nat} {q : Int} (h : fN c q) (hq : -1000 ≤ q) : FP.ddiv (fe c q) (4611686018427387904 : UInt64) = fe c (q - 1) := by
  have hd : FP.ddiv (fe c q) (4611686018427387904 : UInt64) = UInt64.ofNat (FP.Core.encode fB (FP.Core.roundRatio fB false c 4503599627370496 (q - -51))) := by
    rw [fe_two]
    show UInt64.ofNat (FP.Core.encode fB (FP.Core.quotient fB (FP.Core.decode fB (fe c q).toNat) (FP.Core.decode fB (fe 4503599627370496 (-51)).toNat))) = _
    rw [fn_dec h, fn_dec fN_two]
    rfl
  obtain ⟨a1, a2, a3, a4⟩ := h
  have l1 : Nat.log2 c = 52 := (Nat.log2_eq_iff (by omega)).mpr ⟨a1, a2⟩
  have l2 : Nat.log2 4503599627370496 = 52 := (Nat.log2_eq_iff (by omega)).mpr ⟨by decide, by decide⟩
  have hlead : FP.Core.leading c 4503599627370496 = 0 := by
    unfold FP.Core.leading
    rw [l1, l2]
    show (if 4503599627370496 * 2 ^ 0 ≤ c * 2 ^ 0 then (0 : Int) else _) = 0
    rw [if_pos (by omega)]
  rw [hd]
  unfold FP.Core.roundRatio
  rw [if_neg (by omega), fn_quant hlead (by omega)]
  unfold FP.Core.roundAt FP.Core.unitsNum FP.Core.unitsDen
  rw [show (q - -51 - (0 + (q - -51) - 52)).toNat = 52 from by omega, show (0 + (q - -51) - 52 - (q - -51)).toNat = 0 from by omega, show 4503599627370496 * 2 ^ 0 = 4503599627370496 from Nat.mul_one _, show c * 2 ^ 52 = c * 4503599627370496 from rfl, fn_near c 4503599627370496 (by decide), show (0 + (q - -51) - 52 : Int) = q - 1 from by omega, fn_settle a2 (by omega), fn_enc ⟨a1, a2, by omega, by omega⟩]
  rfl
theorem fn_cmp2 {c : Nat} {q : Int} (h : fN c q) (h1 : -52 ≤ q) (h2 : q ≤ 0) : ((Op.cmpValue (FP.dcmp (fe c q) (4611686018427387904 : UInt64)) CmpOp.l) < 0) ↔ q = -52 := by
  have hd : FP.dcmp (fe c q) (4611686018427387904 : UInt64) = some (compare ((FP.Core.inUnits c q (min q (-51)) : Nat) : Int) ((FP.Core.inUnits 4503599627370496 (-51) (min q (-51)) : Nat) : Int)) := by
    rw [fe_two]
    show FP.Core.order (FP.Core.decode fB (fe c q).toNat) (FP.Core.decode fB (fe 4503599627370496 (-51)).toNat) = _
    rw [fn_dec h, fn_dec fN_two]
    rfl
  obtain ⟨a1, a2, a3, a4⟩ := h
  rw [hd]
  unfold FP.Core.inUnits
  by_cases e : q = -52
  · subst e
    show (Op.cmpValue (some (compare ((c * 2 ^ 0 : Nat) : Int) ((4503599627370496 * 2 ^ 1 : Nat) : Int))) CmpOp.l < 0) ↔ _
    have : compare ((c * 2 ^ 0 : Nat) : Int) ((4503599627370496 * 2 ^ 1 : Nat) : Int) = .lt := Int.compare_eq_lt.mpr (by omega)
    rw [this]
    exact ⟨fun _ => rfl, fun _ => by decide⟩
  · have hm : min q (-51) = -51 := by omega
    rw [hm, show ((-51 : Int) - -51).toNat = 0 from rfl]
    have hge : 4503599627370496 * 2 ^ 0 ≤ c * 2 ^ (q - -51).toNat := Nat.le_trans (by omega) (Nat.le_mul_of_pos_right c (Nat.two_pow_pos _))
    have hc : compare ((c * 2 ^ (q - -51).toNat : Nat) : Int) ((4503599627370496 * 2 ^ 0 : Nat) : Int) ≠ .lt := fun h => by
      have := Int.compare_eq_lt.mp h
      omega
    refine ⟨fun h => ?_, fun h => absurd h e⟩
    cases hx : compare ((c * 2 ^ (q - -51).toNat : Nat) : Int) ((4503599627370496 * 2 ^ 0 : Nat) : Int)
    · exact absurd hx hc
    · rw [hx] at h; exact absurd h (by decide)
    · rw [hx] at h; exact absurd h (by decide)
theorem fn_nan {c : Nat} {q : Int} (h : fN c q) : fJxe99ae_isNaN_b9ae7 (fe c q) = some 0 := by
  have hd : FP.dcmp (fe c q) (fe c q) = some .eq := by
    show FP.Core.order (FP.Core.decode fB (fe c q).toNat) (FP.Core.decode fB (fe c q).toNat) = _
    rw [fn_dec h]
    show some (compare _ _) = some Ordering.eq
    exact congrArg some (Int.compare_eq_eq.mpr rfl)
  unfold fJxe99ae_isNaN_b9ae7
  rw [hd]
  rfl
theorem fn_shift {E X : Nat} (hE : E < 2048) (hX : X < 4503599627370496) : (Int64.ofNat E <<< ((52 : Int32).toInt64 &&& 63)) ||| Int64.ofNat X = Int64.ofNat (E * 4503599627370496 + X) := by
  refine Int64.toBitVec_inj.mp ?_
  rw [Int64.toBitVec_or]
  have e1 : (Int64.ofNat E <<< ((52 : Int32).toInt64 &&& 63)).toBitVec = BitVec.ofNat 64 E <<< 52 := by
    show (BitVec.ofNat 64 E) <<< (((52 : Int32).toInt64 &&& 63).toBitVec.smod 64) = _
    rw [show ((52 : Int32).toInt64 &&& 63).toBitVec.smod 64 = (52#64) from by decide]
    rfl
  rw [e1]
  refine BitVec.eq_of_toNat_eq ?_
  show ((BitVec.ofNat 64 E <<< 52) ||| BitVec.ofNat 64 X).toNat = (BitVec.ofNat 64 (E * 4503599627370496 + X)).toNat
  rw [BitVec.toNat_or, BitVec.toNat_shiftLeft, BitVec.toNat_ofNat, BitVec.toNat_ofNat, BitVec.toNat_ofNat, Nat.mod_eq_of_lt (show E < 2 ^ 64 by omega), Nat.mod_eq_of_lt (show X < 2 ^ 64 by omega), Nat.mod_eq_of_lt (show E * 4503599627370496 + X < 2 ^ 64 by omega),
    Nat.mod_eq_of_lt (show E <<< 52 < 2 ^ 64 by rw [Nat.shiftLeft_eq]; omega), ← Nat.shiftLeft_add_eq_or_of_lt hX E, Nat.shiftLeft_eq]
theorem fn_sumU (c : Nat) : FP.Core.sumUnits false c (-52) true 4503599627370496 (-52) (-52) = (c : Int) - 4503599627370496 := by
  unfold FP.Core.sumUnits FP.Core.inUnits FP.Core.signed
  rw [show ((-52 : Int) - -52).toNat = 0 from by decide, if_neg (by decide), if_pos rfl, Nat.pow_zero, Nat.mul_one, Nat.mul_one]
  omega
theorem fn_sub1 {c : Nat} (h : fN c (-52)) : FP.dsub (fe c (-52)) FP.dconst1 = UInt64.ofNat (FP.Core.encode fB (FP.Core.roundRatio fB false (c - 4503599627370496) 1 (-52))) := by
  have hsg : FP.Core.sumSign false true ((c : Int) - 4503599627370496) = false := by
    unfold FP.Core.sumSign
    have := h.1
    by_cases e : (c : Int) - 4503599627370496 = 0
    · rw [if_pos e]; rfl
    · rw [if_neg e]
      exact decide_eq_false (by omega)
  have e0 : FP.dsub (fe c (-52)) FP.dconst1 = UInt64.ofNat (FP.Core.encode fB (FP.Core.round fB (FP.Core.exactSum (FP.Core.decode fB (fe c (-52)).toNat) (FP.Core.negate (FP.Core.decode fB (fe 4503599627370496 (-52)).toNat))))) := by
    rw [fe_one]
    rfl
  have e1 : FP.Core.exactSum (.fin false c (-52)) (FP.Core.negate (.fin false 4503599627370496 (-52))) = .fin false (c - 4503599627370496) (-52) := by
    have h1 := h.1
    show FP.Core.Datum.fin (FP.Core.sumSign false (!false) (FP.Core.sumUnits false c (-52) (!false) 4503599627370496 (-52) (min (-52) (-52)))) (FP.Core.sumUnits false c (-52) (!false) 4503599627370496 (-52) (min (-52) (-52))).natAbs (min (-52) (-52)) = _
    rw [show min (-52 : Int) (-52) = -52 from by decide, show (!false) = true from rfl, fn_sumU, hsg, show ((c : Int) - 4503599627370496).natAbs = c - 4503599627370496 from by omega]
  rw [e0, fn_dec h, fn_dec fN_one, e1]
  rfl
theorem fn_mul52 {c : Nat} {q : Int} (h : fN c q) (hq : q ≤ 900) : FP.dmul (fe c q) (4841369599423283200 : UInt64) = fe c (q + 52) := by
  have e0 : FP.dmul (fe c q) (4841369599423283200 : UInt64) = UInt64.ofNat (FP.Core.encode fB (FP.Core.round fB (FP.Core.exactProduct (FP.Core.decode fB (fe c q).toNat) (FP.Core.decode fB (fe 4503599627370496 0).toNat)))) := by
    rw [fe_p52]
    rfl
  have e1 : FP.Core.exactProduct (.fin false c q) (.fin false 4503599627370496 0) = .fin false (c * 4503599627370496) q := by
    show FP.Core.Datum.fin (false != false) (c * 4503599627370496) (q + 0) = _
    rw [Int.add_zero]
    rfl
  have gm : fN c (q + 52) := ⟨h.1, h.2.1, by have := h.2.2.1; omega, by omega⟩
  obtain ⟨d1, d2, d3, d4⟩ := h
  have p104 : (2 : Nat) ^ 104 = 4503599627370496 * 4503599627370496 := by decide +kernel
  have p105 : (2 : Nat) ^ (104 + 1) = 9007199254740992 * 4503599627370496 := by decide +kernel
  have hlg : Nat.log2 (c * 4503599627370496) = 104 := (Nat.log2_eq_iff (by omega)).mpr ⟨by
    rw [p104]
    exact Nat.mul_le_mul_right _ d1, by
    rw [p105]
    exact (Nat.mul_lt_mul_right (by decide)).mpr d2⟩
  have hlead : FP.Core.leading (c * 4503599627370496) 1 = 104 := by
    unfold FP.Core.leading
    rw [hlg, show Nat.log2 1 = 0 from by decide]
    simp only []
    rw [show (((104 : Nat) : Int) - ((0 : Nat) : Int)).toNat = 104 from by decide, show (-(((104 : Nat) : Int) - ((0 : Nat) : Int))).toNat = 0 from by decide, p104, if_pos (by rw [Nat.pow_zero, Nat.mul_one, Nat.one_mul]; exact Nat.mul_le_mul_right _ d1)]
    rfl
  have hr : FP.Core.roundRatio fB false (c * 4503599627370496) 1 q = .fin false c (q + 52) := by
    unfold FP.Core.roundRatio
    rw [if_neg (by omega), fn_quant hlead (by omega)]
    unfold FP.Core.roundAt FP.Core.unitsNum FP.Core.unitsDen
    rw [show (q - (104 + q - 52)).toNat = 0 from by omega, show (104 + q - 52 - q).toNat = 52 from by omega, Nat.pow_zero, Nat.mul_one, Nat.one_mul, show (2 : Nat) ^ 52 = 4503599627370496 from by decide +kernel, fn_near c 4503599627370496 (by decide), show (104 + q - 52 : Int) = q + 52 from by omega, fn_settle gm.2.1 gm.2.2.2]
  rw [e0, fn_dec ⟨d1, d2, d3, d4⟩, fn_dec fN_p52, e1]
  show UInt64.ofNat (FP.Core.encode fB (FP.Core.roundRatio fB false (c * 4503599627370496) 1 q)) = _
  rw [hr, fn_enc gm]
  rfl
theorem fn_clamp {X : Nat} (h : X < 4503599627370496) : max (-9223372036854775808 : Int) (min 9223372036854775807 (X : Int)) = (X : Int) := by omega
theorem fn_d2l {c X k : Nat} {q : Int} (h : fN c q) (hq : q = -(k : Int)) (hX : c = X * 2 ^ k) (hX2 : X < 4503599627370496) : FP.d2l (fe c q) = Int64.ofNat X := by
  show FP.Core.toL (FP.Core.decode fB (fe c q).toNat) = _
  rw [fn_dec h]
  unfold FP.Core.toL FP.Core.toInt FP.Core.truncate FP.Core.signed
  simp only []
  rw [show q.toNat = 0 from by omega, show (-q).toNat = k from by omega, Nat.pow_zero, Nat.mul_one, hX, Nat.mul_div_cancel _ (Nat.two_pow_pos _), if_neg (by decide),
    show (-2 ^ 63 : Int) = -9223372036854775808 from by decide +kernel, show (2 ^ 63 - 1 : Int) = 9223372036854775807 from by decide +kernel, fn_clamp hX2]
  rfl
theorem fn_zero : UInt64.ofNat (FP.Core.encode fB (FP.Core.roundRatio fB false 0 1 (-52))) = 0 := by decide +kernel
theorem fn_zero2 : hl_n64 0 = true ∧ hl_n64 (FP.dmul 0 (4841369599423283200 : UInt64)) = true ∧ FP.d2l (FP.dmul 0 (4841369599423283200 : UInt64)) = Int64.ofNat 0 := by decide +kernel
/-- the class's last step -/
theorem fn_mant {c : Nat} (h : fN c (-52)) {E : Nat} (hE : E < 2048) : fX0_ofMean_39 (fe c (-52)) (Int64.ofNat E) = some (Int64.ofNat (E * 4503599627370496 + (c - 4503599627370496))) := by
  have hs := fn_sub1 h
  have hX : c - 4503599627370496 < 4503599627370496 := by
    have := h.2.1
    omega
  generalize c - 4503599627370496 = X at hs hX ⊢
  have last : ∀ (d : UInt64), FP.dsub (fe c (-52)) FP.dconst1 = d → hl_n64 d = true → hl_n64 (FP.dmul d (4841369599423283200 : UInt64)) = true → FP.d2l (FP.dmul d (4841369599423283200 : UInt64)) = Int64.ofNat X → fX0_ofMean_39 (fe c (-52)) (Int64.ofNat E) = some (Int64.ofNat (E * 4503599627370496 + X)) := fun d e1 e2 e3 e4 => by
    unfold fX0_ofMean_39
    rw [e1, if_pos e2, if_pos e3, e4, fn_shift hE hX]
  by_cases hX0 : X = 0
  · subst hX0
    exact last 0 (hs.trans fn_zero) fn_zero2.1 fn_zero2.2.1 fn_zero2.2.2
  · have hl2 : Nat.log2 X ≤ 51 := by
      have := (Nat.log2_lt (k := 52) hX0).mpr hX
      omega
    obtain ⟨g1, g2⟩ := fn_round (e := -52) hX0 rfl (by omega) (by omega) (by omega)
    have hc' : X * 2 ^ (52 - Nat.log2 X) = X * 2 ^ (52 - Nat.log2 X) := rfl
    generalize Nat.log2 X = l at hl2 g1 g2 hc'
    rw [g1, fn_enc g2] at hs
    have hs' : FP.dsub (fe c (-52)) FP.dconst1 = fe (X * 2 ^ (52 - l)) ((l : Int) + -52 - 52) := hs
    have hm := fn_mul52 g2 (by omega)
    have gm : fN (X * 2 ^ (52 - l)) ((l : Int) + -52 - 52 + 52) := ⟨g2.1, g2.2.1, by omega, by omega⟩
    refine last _ hs' (fn_bits g2) (by rw [hm]; exact fn_bits gm) ?_
    rw [hm]
    exact fn_d2l (k := 52 - l) gm (by omega) rfl hX
theorem fn_mean {c : Nat} : ∀ (k f : Nat) (q : Int) (E : Nat), fN c q → q = -52 + (k : Int) → k ≤ 40 → k < f → E + k < 2046 → fX0_ofMean_7 f (fe c q) (Int64.ofNat E) = some (Int64.ofNat ((E + k) * 4503599627370496 + (c - 4503599627370496)))
  | _, 0, _, _, _, _, _, hf, _ => by omega
  | 0, f + 1, q, E, h, hq, _, _, hE => by
    have hq : q = -52 := by omega
    subst hq
    unfold fX0_ofMean_7
    rw [if_pos ((fn_cmp2 h (by omega) (by omega)).mpr rfl), fn_mant h (by omega)]
    rfl
  | k + 1, f + 1, q, E, h, hq, hk, hf, hE => by
    have h1 : fN c (q - 1) := ⟨h.1, h.2.1, by omega, by have := h.2.2.2; omega⟩
    have hcmp : ¬ 0 ≤ lg_cmp (Int64.ofNat E) (2046 : Int64) := fun e => by
      have e2 := (lg_cmp_ge _ _).mp e
      rw [Int64.le_iff_toInt_le, show (2046 : Int64).toInt = 2046 from by decide, Int64.toInt_ofNat_of_lt (by omega)] at e2
      omega
    unfold fX0_ofMean_7
    rw [if_neg (fun e => by have := (fn_cmp2 h (by omega) (by omega)).mp e; omega), if_neg hcmp, fn_half h (by omega), if_pos (fn_bits h1), show Int64.ofNat E + (1 : Int64) = Int64.ofNat (E + 1) from (Int64.ofNat_add E 1).symm, fn_mean k f (q - 1) (E + 1) h1 (by omega) (by omega) (by omega) (by omega)]
    exact congrArg some (congrArg Int64.ofNat (by omega))
/-- the mean: a number, and its bits -/
theorem fn_all {S F : Nat} (hF : 1 ≤ F) (hS : F ≤ S) (hS2 : S ≤ 4096) : hl_n64 (FP.ddiv (FP.i2d (II S)) (FP.i2d (II F))) = true ∧ fX0_ofMean (FP.ddiv (FP.i2d (II S)) (FP.i2d (II F))) = some (FP.ddiv (FP.i2d (II S)) (FP.i2d (II F))).toInt64 ∧ fJxe99ae_isNaN_b9ae7 (FP.ddiv (FP.i2d (II S)) (FP.i2d (II F))) = some 0 := by
  have lS : Nat.log2 S ≤ 12 := by
    have := (Nat.log2_lt (n := S) (k := 13) (by omega)).mpr (by omega)
    omega
  have lFS : Nat.log2 F ≤ Nat.log2 S := (Nat.le_log2 (by omega)).mpr (Nat.le_trans (Nat.log2_self_le (by omega)) hS)
  obtain ⟨e1, n1⟩ := fn_i2d (S := S) (by omega) (by omega) rfl (by omega)
  obtain ⟨e2, n2⟩ := fn_i2d (S := F) (by omega) (by omega) rfl (by omega)
  rw [e1, e2]
  obtain ⟨c, q, e3, n3, q1, q2⟩ := fn_div n1 n2 (by omega) (by omega) (fun e => by
    have : Nat.log2 S = Nat.log2 F := by omega
    rw [this]
    exact Nat.mul_le_mul_right _ hS)
  rw [e3]
  refine ⟨fn_bits n3, ?_, fn_nan n3⟩
  have h := fn_mean (c := c) (q + 52).toNat 1000 q 1023 n3 (by omega) (by omega) (by omega) (by omega)
  show fX0_ofMean_7 1000 (fe c q) (1023 : Int64) = _
  rw [show (1023 : Int64) = Int64.ofNat 1023 from rfl, h]
  refine congrArg some ?_
  show _ = Int64.ofNat (fn c q)
  refine congrArg Int64.ofNat ?_
  unfold fn
  rw [show (q + 1075).toNat = 1023 + (q + 52).toNat from by omega]
theorem fl8 : ∀ f, f < 8 → hl_n32 (FP.fdiv (FP.i2f (II f)) (FP.i2f (II 8))) = true ∧ fX0_ofShare (FP.fdiv (FP.i2f (II f)) (FP.i2f (II 8))) = fJxf58ca_floatToIntBits_5c35a (FP.fdiv (FP.i2f (II f)) (FP.i2f (II 8))) ∧ fJxf58ca_floatToIntBits_5c35a (FP.fdiv (FP.i2f (II f)) (FP.i2f (II 8))) ≠ none := by decide +kernel
theorem fl16 : ∀ f, f < 16 → hl_n32 (FP.fdiv (FP.i2f (II f)) (FP.i2f (II 16))) = true ∧ fX0_ofShare (FP.fdiv (FP.i2f (II f)) (FP.i2f (II 16))) = fJxf58ca_floatToIntBits_5c35a (FP.fdiv (FP.i2f (II f)) (FP.i2f (II 16))) ∧ fJxf58ca_floatToIntBits_5c35a (FP.fdiv (FP.i2f (II f)) (FP.i2f (II 16))) ≠ none := by decide +kernel
theorem fl32 : ∀ f, f < 32 → hl_n32 (FP.fdiv (FP.i2f (II f)) (FP.i2f (II 32))) = true ∧ fX0_ofShare (FP.fdiv (FP.i2f (II f)) (FP.i2f (II 32))) = fJxf58ca_floatToIntBits_5c35a (FP.fdiv (FP.i2f (II f)) (FP.i2f (II 32))) ∧ fJxf58ca_floatToIntBits_5c35a (FP.fdiv (FP.i2f (II f)) (FP.i2f (II 32))) ≠ none := by decide +kernel
theorem fl64 : ∀ f, f < 64 → hl_n32 (FP.fdiv (FP.i2f (II f)) (FP.i2f (II 64))) = true ∧ fX0_ofShare (FP.fdiv (FP.i2f (II f)) (FP.i2f (II 64))) = fJxf58ca_floatToIntBits_5c35a (FP.fdiv (FP.i2f (II f)) (FP.i2f (II 64))) ∧ fJxf58ca_floatToIntBits_5c35a (FP.fdiv (FP.i2f (II f)) (FP.i2f (II 64))) ≠ none := by decide +kernel
theorem fl_all {c f : Nat} (hc : cOK c) (hf : f < c) : hl_n32 (FP.fdiv (FP.i2f (II f)) (FP.i2f (II c))) = true ∧ fX0_ofShare (FP.fdiv (FP.i2f (II f)) (FP.i2f (II c))) = fJxf58ca_floatToIntBits_5c35a (FP.fdiv (FP.i2f (II f)) (FP.i2f (II c))) ∧ fJxf58ca_floatToIntBits_5c35a (FP.fdiv (FP.i2f (II f)) (FP.i2f (II c))) ≠ none := by
  rcases hc with rfl | rfl | rfl | rfl
  · exact fl8 f hf
  · exact fl16 f hf
  · exact fl32 f hf
  · exact fl64 f hf
