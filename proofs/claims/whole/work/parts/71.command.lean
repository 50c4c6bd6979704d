/-! calls of both:  -/
/-! one command, read by both -/
theorem vr7 {n p : Nat} {pS : Nat → Int32} : vr n pS p 7 0 0 = if lit n pS 0 p = 4 then (II 0, II (p + lit n pS 0 p)) else if lit n pS 1 p = 7 then (II 1, II (p + lit n pS 1 p)) else if lit n pS 2 p = 5 then (II 2, II (p + lit n pS 2 p)) else if lit n pS 3 p = 6 then (II 3, II (p + lit n pS 3 p)) else if lit n pS 4 p = 5 then (II 4, II (p + lit n pS 4 p)) else if lit n pS 5 p = 7 then (II 5, II (p + lit n pS 5 p)) else if lit n pS 6 p = 5 then (II 6, II (p + lit n pS 6 p)) else (-1, II (p + w_m (w_m (w_m (w_m (w_m (w_m (w_m 0 (lit n pS 0 p)) (lit n pS 1 p)) (lit n pS 2 p)) (lit n pS 3 p)) (lit n pS 4 p)) (lit n pS 5 p)) (lit n pS 6 p))) := rfl
theorem w_m0 (a : Nat) : w_m a 0 = a := by unfold w_m; split <;> omega
theorem w_0m (a : Nat) : w_m 0 a = a := by unfold w_m; split <;> omega
def CRj (verb op val a b c : Int32) : Prop :=
  (verb = 0 ∧ a = 112 ∧ b = op ∧ c = val ∧ (∃ k, k ≤ 9999 ∧ op = II k) ∧ ((-999 : Int32) ≤ val ∧ val ≤ (999 : Int32))) ∨
  (verb = 1 ∧ a = 114 ∧ b = op ∧ ∃ k, k ≤ 9999 ∧ op = II k) ∨
  (verb = 2 ∧ a = 107 ∧ b = op ∧ ∃ k, k ≤ 2 ∧ op = II k) ∨
  (verb = 3 ∧ a = 108 ∧ b = op ∧ ∃ k, k ≤ 999 ∧ op = II k) ∨
  (verb = 4 ∧ a = 115 ∧ b = op ∧ ∃ k, k ≤ 999 ∧ op = II k) ∨
  (verb = 5 ∧ a = 98) ∨ (verb = 6 ∧ a = 99)
/-- what both have behind a command -/
def p_B (p j : Nat) (pV pO pW mC : Nat → Int32) (n : Nat) (oc : Option (Int32 × Int32 × Int32 × (Nat → Int32) × (Nat → Int32) × (Nat → Int32))) (orr : Option (Int32 × Int32 × Int32 × (Nat → Int32))) : Prop :=
  ∃ p' ok pV' pO' pW' mC', oc = some (if ok = true then 1 else 0, II p', II (j + 1), pV', pO', pW') ∧ orr = some (II p', p_E (p', ok), II (j + 1), mC') ∧ p' ≤ p + 20 ∧
    (ok = true → p + 5 ≤ p' ∧ CRj (pV' j) (pO' j) (pW' j) (mC' (3 * j)) (mC' (3 * j + 1)) (mC' (3 * j + 2))) ∧ (∀ i, i < j → pV' i = pV i ∧ pO' i = pO i ∧ pW' i = pW i) ∧ ∀ i, i < 3 * j → mC' i = mC i
def mC3 (mC : Nat → Int32) (j : Nat) : Nat → Int32 := upd (upd (upd mC (3 * j) 0) (3 * j + 1) 0) (3 * j + 2) 0
theorem mC3_lt {mC : Nat → Int32} {j i : Nat} (h : i < 3 * j) : mC3 mC j i = mC i := by
  unfold mC3
  rw [upd_ne (by omega), upd_ne (by omega), upd_ne (by omega)]
theorem r_command {n p j : Nat} {pS mI mC : Nat → Int32} (h : PT n pS mI) (hp : p ≤ 100) (hj : j < 60) : fX7_command (II n) (II p) (-1) (II j) mI mC =
    if p_rs n pS p = 112 ∨ p_rs n pS p = 114 ∨ p_rs n pS p = 107 ∨ p_rs n pS p = 108 ∨ p_rs n pS p = 115 ∨ p_rs n pS p = 99 then fX7_command_89 (II n) (II p) (-1) (II (j + 1)) mI (mC3 mC j) (II (3 * j)) (p_rs n pS p) else some (II p, II p, II (j + 1), mC3 mC j) := by
  have e0 : (3 : Int32) * II j = II (3 * j) := n_mul 3 j
  have s0 : II (3 * j) + (0 : Int32) = II (3 * j) := Int32.add_zero _
  have s1 : II (3 * j) + ((0 : Int32) + 1) = II (3 * j + 1) := n_add (3 * j) 1
  have s2 : II (3 * j) + ((0 : Int32) + 1 + 1) = II (3 * j + 2) := n_add (3 * j) 2
  unfold fX7_command
  rw [r_sign h (by omega), ob, e0, show II j + (1 : Int32) = II (j + 1) from n_add j 1]
  unfold fX7_command_24
  rw [if_neg (by decide), s0, if_pos (n_in (by omega) (by omega)), n_cl (by omega)]
  unfold fX7_command_24
  rw [if_neg (by decide), s1, if_pos (n_in (by omega) (by omega)), n_cl (by omega)]
  unfold fX7_command_24
  rw [if_neg (by decide), s2, if_pos (n_in (by omega) (by omega)), n_cl (by omega)]
  unfold fX7_command_24
  rw [if_pos (by decide)]
  generalize p_rs n pS p = x
  by_cases h1 : x = 112
  · rw [if_pos h1, if_pos (Or.inl h1)]; rfl
  · rw [if_neg h1]
    by_cases h2 : x = 114
    · rw [if_pos h2, if_pos (Or.inr (Or.inl h2))]; rfl
    · rw [if_neg h2]
      by_cases h3 : x = 107
      · rw [if_pos h3, if_pos (Or.inr (Or.inr (Or.inl h3)))]; rfl
      · rw [if_neg h3]
        by_cases h4 : x = 108
        · rw [if_pos h4, if_pos (Or.inr (Or.inr (Or.inr (Or.inl h4))))]; rfl
        · rw [if_neg h4]
          by_cases h5 : x = 115
          · rw [if_pos h5, if_pos (Or.inr (Or.inr (Or.inr (Or.inr (Or.inl h5)))))]; rfl
          · rw [if_neg h5]
            by_cases h6 : x = 99
            · rw [if_pos h6, if_pos (Or.inr (Or.inr (Or.inr (Or.inr (Or.inr h6)))))]; rfl
            · rw [if_neg h6, if_neg (fun h => by rcases h with h | h | h | h | h | h; exact h1 h; exact h2 h; exact h3 h; exact h4 h; exact h5 h; exact h6 h)]
              rfl
theorem c_commandN {n p j q : Nat} {pS mI pV pO pW : Nat → Int32} (h : PT n pS mI) (hp : p ≤ 100) (hj : j < 60) (e : vr n pS p 7 0 0 = (-1, II q)) : fX4_readCommand (II n) (II p) (II j) pS pV pO pW = some (0, II q, II (j + 1), upd pV j (-1), upd pO j (-1), upd pW j 0) := by
  unfold fX4_readCommand
  rw [if_neg (n_nlt0 (by omega)), if_pos (show II j < (60 : Int32) from (n_lt (b := 60) (by omega) (by decide)).mpr hj), c_verb h hp, ob, e, if_pos (n_in (by omega) hj), if_pos (n_in (by omega) hj), if_pos (n_in (by omega) hj), if_pos rfl, n_cl (by omega), show II j + (1 : Int32) = II (j + 1) from n_add j 1]
theorem c_commandY {n p j q v : Nat} {pS mI pV pO pW : Nat → Int32} (h : PT n pS mI) (hp : p ≤ 100) (hj : j < 60) (hv : v < 7) (e : vr n pS p 7 0 0 = (II v, II q)) {p' : Nat} {b : Bool} {pO' pW' : Nat → Int32} (g : fX4_readOperands (II n) (II q) (II j) pS (upd pO j (-1)) (upd pW j 0) (II v) = some (if b = true then 1 else 0, II p', pO', pW')) : fX4_readCommand (II n) (II p) (II j) pS pV pO pW = some (if b = true then 1 else 0, II p', II (j + 1), upd pV j (II v), pO', pW') := by
  unfold fX4_readCommand
  rw [if_neg (n_nlt0 (by omega)), if_pos (show II j < (60 : Int32) from (n_lt (b := 60) (by omega) (by decide)).mpr hj), c_verb h hp, ob, e, if_pos (n_in (by omega) hj), if_pos (n_in (by omega) hj), if_pos (n_in (by omega) hj), if_neg (show ¬ II v = (-1 : Int32) from n_ne1 (by omega)), n_cl (by omega), show II j + (1 : Int32) = II (j + 1) from n_add j 1]
  show (fX4_readOperands (II n) (II q) (II j) pS (upd pO j (-1)) (upd pW j 0) (II v)).bind _ = _
  rw [g, ob]
  cases b
  · exact if_pos rfl
  · exact if_neg (show ¬ (1 : Int32) = 0 by decide)
/-- an operand, read by both -/
theorem b_operand {n q j mx : Nat} {pS mI pO : Nat → Int32} (h : PT n pS mI) (hq : q ≤ 500) (hj : j < 60) (h1 : 1 ≤ mx) (hmx : mx ≤ 4) : ∃ p' b v, q ≤ p' ∧ p' ≤ q + 4 ∧ v < 10 ^ mx ∧ fX4_readOperand (II n) (II q) (II j) pS pO (II mx) = some (if b = true then 1 else 0, II p', if b = true then upd pO j (II v) else pO) ∧ fX7_number (II n) (II q) (-1) mI (II mx) = some (if b = true then II v else 0, II p', p_E (p', b)) := by
  unfold fX4_readOperand
  rcases b_number h h1 hmx hq with ⟨g1, g2⟩ | ⟨p', v, l1, l2, l3, g1, g2⟩
  · rw [g1, ob, g2]
    exact ⟨q, false, 0, Nat.le_refl _, by omega, Nat.pow_pos (by decide), if_pos rfl, rfl⟩
  · have hl : 10 ^ mx ≤ 10000 := by
      have : mx = 1 ∨ mx = 2 ∨ mx = 3 ∨ mx = 4 := by omega
      rcases this with rfl | rfl | rfl | rfl <;> decide
    rw [g1, ob, g2, if_neg (show ¬ II v = (-1 : Int32) from n_ne1 (by omega)), if_neg (n_nlt0 (by omega)), if_pos (show II j < (60 : Int32) from (n_lt (b := 60) (by omega) (by decide)).mpr hj), if_pos (n_in (by omega) hj), n_cl (by omega)]
    exact ⟨p', true, v, by omega, l2, l3, rfl, rfl⟩
theorem litz0 {n i p : Nat} {pS : Nat → Int32} (h : p_cs n pS p ≠ hchr i 0) : lit n pS i p = 0 := lit_eq (fun k hk => absurd hk (Nat.not_lt_zero _)) (Nat.zero_le _) (fun _ => h)
theorem litz1 {n i p : Nat} {pS : Nat → Int32} (hi : i < 7) (h : p_cs n pS p = hchr i 0) : 1 ≤ lit n pS i p := lit_ge (fun k hk => by
  rw [show k = 0 from by omega]
  exact h) (by
  have : ∀ i, i < 7 → 1 ≤ wL i := by decide
  exact this i hi)
theorem b_kindSign {n q j : Nat} {pS mI pO : Nat → Int32} (h : PT n pS mI) (hq : q ≤ 500) (hj : j < 60) : ∃ p1 b1 k, q ≤ p1 ∧ p1 ≤ q + 1 ∧ k ≤ 2 ∧ fX4_readKind (II n) (II q) (II j) pS pO = some (if b1 = true then 1 else 0, II p1, if b1 = true then upd pO j (II k) else pO) ∧ fX7_kindSign (II n) (II q) (-1) mI = some (if b1 = true then II k else 0, II p1, p_E (p1, b1)) := by
  have hh : ∀ k, k ≤ 2 → (if II k = (-1 : Int32) then (some ((0 : Int32), II q, pO)) else (if II j < 0 then (some ((0 : Int32), II q, pO)) else (if II j < (60 : Int32) then (if hl_in (II j) 60 = true then (some ((1 : Int32), II q + (1 : Int32), upd pO ((II j).toNatClampNeg) (II k))) else none) else (some ((0 : Int32), II q, pO))))) = some (1, II (q + 1), upd pO j (II k)) := fun k hk => by
    rw [if_neg (n_ne1 (by omega)), if_neg (n_nlt0 (by omega)), if_pos (show II j < (60 : Int32) from (n_lt (b := 60) (by omega) (by decide)).mpr hj), if_pos (n_in (by omega) hj), n_cl (by omega), show II q + (1 : Int32) = II (q + 1) from n_add q 1]
  have e9 : II q + (1 : Int32) = II (q + 1) := n_add q 1
  unfold fX4_readKind fX4_kindOf fX7_kindSign fX7_kindSign_42
  rw [if_pos (show (-1 : Int32) < 0 by decide), c_sign h (by omega), ob, r_sign h (by omega)]
  have s1 := p_same (n := n) (q := q) (pS := pS) (L := 108) (by decide) (by decide)
  have s2 := p_same (n := n) (q := q) (pS := pS) (L := 116) (by decide) (by decide)
  have s3 := p_same (n := n) (q := q) (pS := pS) (L := 100) (by decide) (by decide)
  by_cases c1 : p_cs n pS q = 108
  · rw [if_pos c1, ob]
    have r1 := s1.mpr c1
    refine ⟨q + 1, true, 0, by omega, by omega, by omega, hh 0 (by omega), ?_⟩
    show (if p_rs n pS q = 108 then _ else _) = _
    rw [if_pos r1, if_pos r1, e9]
    rfl
  · have r1 : ¬ p_rs n pS q = 108 := fun e => c1 (s1.mp e)
    by_cases c2 : p_cs n pS q = 116
    · rw [if_neg c1, if_pos c2, ob]
      have r2 := s2.mpr c2
      refine ⟨q + 1, true, 1, by omega, by omega, by omega, hh 1 (by omega), ?_⟩
      show (if p_rs n pS q = 108 then _ else _) = _
      rw [if_neg r1, if_pos r2, if_neg r1, if_pos r2, e9]
      rfl
    · have r2 : ¬ p_rs n pS q = 116 := fun e => c2 (s2.mp e)
      by_cases c3 : p_cs n pS q = 100
      · rw [if_neg c1, if_neg c2, if_pos c3, ob]
        have r3 := s3.mpr c3
        refine ⟨q + 1, true, 2, by omega, by omega, by omega, hh 2 (by omega), ?_⟩
        show (if p_rs n pS q = 108 then _ else _) = _
        rw [if_neg r1, if_neg r2, if_pos r3, if_neg r1, if_neg r2, e9]
        rfl
      · have r3 : ¬ p_rs n pS q = 100 := fun e => c3 (s3.mp e)
        rw [if_neg c1, if_neg c2, if_neg c3, ob]
        refine ⟨q, false, 0, by omega, by omega, by omega, if_pos rfl, ?_⟩
        show (if p_rs n pS q = 108 then _ else _) = _
        rw [if_neg r1, if_neg r2, if_neg r3]
        rfl
/-- 'put ' -/
theorem b_cmd_0 {n p j : Nat} {pS mI pV pO pW mC : Nat → Int32} (h : PT n pS mI) (hp : p ≤ 60) (hj : j < 60) (hf : p_cs n pS p = 112) : p_B p j pV pO pW mC n (fX4_readCommand (II n) (II p) (II j) pS pV pO pW) (fX7_command (II n) (II p) (-1) (II j) mI mC) := by
  have hr : p_rs n pS p = 112 := (p_same (by decide) (by decide)).mpr hf
  have z1 : lit n pS 1 p = 0 := litz0 (by rw [hf]; decide)
  have z2 : lit n pS 2 p = 0 := litz0 (by rw [hf]; decide)
  have z3 : lit n pS 3 p = 0 := litz0 (by rw [hf]; decide)
  have z4 : lit n pS 4 p = 0 := litz0 (by rw [hf]; decide)
  have z5 : lit n pS 5 p = 0 := litz0 (by rw [hf]; decide)
  have z6 : lit n pS 6 p = 0 := litz0 (by rw [hf]; decide)
  have h1 : 1 ≤ lit n pS 0 p := litz1 (by decide) hf
  have hle : lit n pS 0 p ≤ 4 := lit_le
  have hw : p_fw n pS 0 3 1 (p + 1, true) = (p + lit n pS 0 p, decide (lit n pS 0 p = 4)) := p_fw_is (by decide) 3 1 rfl h1
  rw [r_command h (by omega) hj, hr, if_pos (by decide)]
  unfold fX7_command_89
  rw [if_neg (by decide), if_neg (by decide), if_pos rfl]
  rw [show II p + (1 : Int32) = II (p + 1) from n_add p 1]
  have l0 := r_letters h 117 116 32 (s := (p + 1, true)) (by show p + 1 ≤ 990; omega)
  have b0 : (p_nd n pS 32 (p_nd n pS 116 (p_nd n pS 117 (p + 1, true)))).1 ≤ p + 4 := Nat.le_trans p_nd_le (Nat.succ_le_succ (Nat.le_trans p_nd_le (Nat.succ_le_succ p_nd_le)))
  rw [show fX7_letters (II n) (II (p + 1)) (-1) mI 117 116 32 = _ from l0, ob]
  rw [show (p_nd n pS 32 (p_nd n pS 116 (p_nd n pS 117 (p + 1, true)))) = (p + lit n pS 0 p, decide (lit n pS 0 p = 4)) from hw]
  have i0 : hl_in (II (3 * j)) 183 = true := n_in (by omega) (by omega)
  have e1 : II (3 * j) + (1 : Int32) = II (3 * j + 1) := n_add (3 * j) 1
  have i1 : hl_in (II (3 * j + 1)) 183 = true := n_in (by omega) (by omega)
  have e2 : II (3 * j) + (2 : Int32) = II (3 * j + 2) := n_add (3 * j) 2
  have i2 : hl_in (II (3 * j + 2)) 183 = true := n_in (by omega) (by omega)
  by_cases hL : lit n pS 0 p = 4
  · have ev : vr n pS p 7 0 0 = (II 0, II (p + 4)) := by
      rw [vr7, if_pos hL, hL]
    rw [hL, decide_eq_true rfl, p_Et]
    obtain ⟨p1, b1, k, l1, l2, l3, g1, g2⟩ := b_operand (mx := 4) (pO := upd pO j (-1)) h (q := p + 4) (by omega) hj (by decide) (by decide)
    have l3 : k < 10000 := l3
    rw [show fX7_number (II n) (II (p + 4)) (-1) mI (4 : Int32) = _ from g2, ob, e1, if_pos i1]
    cases b1
    · -- no key
      rw [show fX7_needs (II n) (II p1) (p_E (p1, false)) mI (61 : Int32) = some (II p1, II p1) from r_need h 61 (s := (p1, false)) (by show p1 ≤ 1000; omega), ob]
      rw [show fX7_signed (II n) (II p1) (II p1) mI = _ from r_signedE (by omega), ob, e2, if_pos i2, if_pos i0, n_cl (by omega), n_cl (by omega), n_cl (by omega)]
      have g3 : fX4_readOperands (II n) (II (p + 4)) (II j) pS (upd pO j (-1)) (upd pW j 0) (II 0) = some (if false = true then 1 else 0, II p1, upd pO j (-1), upd pW j 0) := by
        unfold fX4_readOperands
        rw [if_pos (show II 0 = (0 : Int32) from rfl), show fX4_readOperand (II n) (II (p + 4)) (II j) pS (upd pO j (-1)) (4 : Int32) = _ from g1, ob]
        exact if_pos rfl
      rw [c_commandY h (by omega) hj (by decide) ev g3]
      exact ⟨p1, false, _, _, _, _, rfl, rfl, by omega, fun h => Bool.noConfusion h, fun i hi => ⟨upd_ne (by omega), upd_ne (by omega), upd_ne (by omega)⟩, fun i hi => by rw [upd_ne (by omega), upd_ne (by omega), upd_ne (by omega)]; exact mC3_lt hi⟩
    · have hs9 := c_readSign (n := n) (q := p1) h (by omega) (61 : Int32)
      have hneed := r_need h 61 (s := (p1, true)) (by show p1 ≤ 1000; omega)
      by_cases h61 : p_cs n pS p1 = (61 : Int32)
      · have h61r : p_rs n pS p1 = (61 : Int32) := (p_same (by decide) (by decide)).mpr h61
        have hnd : p_nd n pS 61 (p1, true) = (p1 + 1, true) := by
          unfold p_nd
          rw [if_pos rfl]
          exact if_pos h61r
        rw [hnd] at hneed
        rw [if_pos h61, if_pos h61] at hs9
        obtain ⟨p2, b2, w, m1, m2, n1, n2, n3⟩ := b_value (pW := upd pW j 0) (j := j) h (p := p1 + 1) (by omega) hj
        rw [show fX7_needs (II n) (II p1) (p_E (p1, true)) mI (61 : Int32) = _ from hneed, ob]
        rw [show fX7_signed (II n) (II (p1 + 1)) (p_E (p1 + 1, true)) mI = _ from n2, ob, e2, if_pos i2, if_pos i0, n_cl (by omega), n_cl (by omega), n_cl (by omega)]
        have g3 : fX4_readOperands (II n) (II (p + 4)) (II j) pS (upd pO j (-1)) (upd pW j 0) (II 0) = some (if b2 = true then 1 else 0, II p2, upd (upd pO j (-1)) j (II k), if b2 = true then upd (upd pW j 0) j w else upd pW j 0) := by
          unfold fX4_readOperands
          rw [if_pos (show II 0 = (0 : Int32) from rfl), show fX4_readOperand (II n) (II (p + 4)) (II j) pS (upd pO j (-1)) (4 : Int32) = _ from g1, ob]
          refine (if_neg (show ¬ (1 : Int32) = 0 by decide)).trans ?_
          rw [show fX4_readSign (II n) (II p1) pS (61 : Int32) = _ from hs9, ob]
          refine (if_neg (show ¬ (1 : Int32) = 0 by decide)).trans ?_
          rw [n1, ob]
          cases b2
          · exact if_pos rfl
          · exact if_neg (show ¬ (1 : Int32) = 0 by decide)
        rw [c_commandY h (by omega) hj (by decide) ev g3]
        refine ⟨p2, b2, _, _, _, _, rfl, rfl, by omega, fun hb => ⟨by omega, Or.inl ⟨upd_at _ _ _, upd_at _ _ _, ?_, ?_, ⟨k, by omega, upd_at _ _ _⟩, ?_⟩⟩, fun i hi => ⟨upd_ne (by omega), by rw [upd_ne (by omega), upd_ne (by omega)], ?_⟩, fun i hi => by rw [upd_ne (by omega), upd_ne (by omega), upd_ne (by omega)]; exact mC3_lt hi⟩
        · rw [upd_ne (by omega), upd_ne (by omega), upd_at, upd_at]; rfl
        · subst hb
          rw [upd_ne (by omega), upd_at]
          exact (upd_at _ _ _).symm
        · subst hb
          show (-999 : Int32) ≤ upd (upd pW j 0) j w j ∧ upd (upd pW j 0) j w j ≤ (999 : Int32)
          rw [upd_at]
          exact n3
        · cases b2
          · exact upd_ne (by omega)
          · show upd (upd pW j 0) j w i = pW i
            rw [upd_ne (by omega), upd_ne (by omega)]
      · have h61r : ¬ p_rs n pS p1 = (61 : Int32) := fun e => h61 ((p_same (by decide) (by decide)).mp e)
        have hnd : p_nd n pS 61 (p1, true) = (p1, false) := by
          unfold p_nd
          rw [if_pos rfl]
          exact if_neg h61r
        rw [hnd] at hneed
        rw [if_neg h61, if_neg h61] at hs9
        rw [show fX7_needs (II n) (II p1) (p_E (p1, true)) mI (61 : Int32) = _ from hneed, ob]
        rw [show fX7_signed (II n) (II p1) (p_E (p1, false)) mI = _ from r_signedE (q := p1) (by omega), ob, e2, if_pos i2, if_pos i0, n_cl (by omega), n_cl (by omega), n_cl (by omega)]
        have g3 : fX4_readOperands (II n) (II (p + 4)) (II j) pS (upd pO j (-1)) (upd pW j 0) (II 0) = some (if false = true then 1 else 0, II p1, upd (upd pO j (-1)) j (II k), upd pW j 0) := by
          unfold fX4_readOperands
          rw [if_pos (show II 0 = (0 : Int32) from rfl), show fX4_readOperand (II n) (II (p + 4)) (II j) pS (upd pO j (-1)) (4 : Int32) = _ from g1, ob]
          refine (if_neg (show ¬ (1 : Int32) = 0 by decide)).trans ?_
          rw [show fX4_readSign (II n) (II p1) pS (61 : Int32) = _ from hs9, ob]
          exact if_pos rfl
        rw [c_commandY h (by omega) hj (by decide) ev g3]
        exact ⟨p1, false, _, _, _, _, rfl, rfl, by omega, fun h => Bool.noConfusion h, fun i hi => ⟨upd_ne (by omega), by rw [upd_ne (by omega), upd_ne (by omega)], upd_ne (by omega)⟩, fun i hi => by rw [upd_ne (by omega), upd_ne (by omega), upd_ne (by omega)]; exact mC3_lt hi⟩
  · have ev : vr n pS p 7 0 0 = (-1, II (p + lit n pS 0 p)) := by
      rw [vr7, if_neg hL, z1, if_neg (show ¬ (0 : Nat) = 7 by decide), z2, if_neg (show ¬ (0 : Nat) = 5 by decide), z3, if_neg (show ¬ (0 : Nat) = 6 by decide), z4, if_neg (show ¬ (0 : Nat) = 5 by decide), z5, if_neg (show ¬ (0 : Nat) = 7 by decide), z6, if_neg (show ¬ (0 : Nat) = 5 by decide)]
      show ((-1 : Int32), II (p + w_m (w_m (w_m (w_m (w_m (w_m (w_m 0 (lit n pS 0 p)) 0) 0) 0) 0) 0) 0)) = _
      simp only [w_m0, w_0m]
    rw [decide_eq_false hL, p_Ef, c_commandN h (by omega) hj ev]
    rw [show fX7_number (II n) (II (p + lit n pS 0 p)) (II (p + lit n pS 0 p)) mI (4 : Int32) = _ from r_numberE (by omega) _, ob, e1, if_pos i1]
    rw [show fX7_needs (II n) (II (p + lit n pS 0 p)) (II (p + lit n pS 0 p)) mI (61 : Int32) = some (II (p + lit n pS 0 p), II (p + lit n pS 0 p)) from r_need h 61 (s := (p + lit n pS 0 p, false)) (by show p + lit n pS 0 p ≤ 1000; omega), ob]
    rw [show fX7_signed (II n) (II (p + lit n pS 0 p)) (II (p + lit n pS 0 p)) mI = _ from r_signedE (by omega), ob, e2, if_pos i2, if_pos i0, n_cl (by omega), n_cl (by omega), n_cl (by omega)]
    exact ⟨p + lit n pS 0 p, false, _, _, _, _, rfl, rfl, by omega, fun h => Bool.noConfusion h, fun i hi => ⟨upd_ne (by omega), upd_ne (by omega), upd_ne (by omega)⟩, fun i hi => by rw [upd_ne (by omega), upd_ne (by omega), upd_ne (by omega)]; exact mC3_lt hi⟩
/-- 'kind ' -/
theorem b_cmd_2 {n p j : Nat} {pS mI pV pO pW mC : Nat → Int32} (h : PT n pS mI) (hp : p ≤ 60) (hj : j < 60) (hf : p_cs n pS p = 107) : p_B p j pV pO pW mC n (fX4_readCommand (II n) (II p) (II j) pS pV pO pW) (fX7_command (II n) (II p) (-1) (II j) mI mC) := by
  have hr : p_rs n pS p = 107 := (p_same (by decide) (by decide)).mpr hf
  have z0 : lit n pS 0 p = 0 := litz0 (by rw [hf]; decide)
  have z1 : lit n pS 1 p = 0 := litz0 (by rw [hf]; decide)
  have z3 : lit n pS 3 p = 0 := litz0 (by rw [hf]; decide)
  have z4 : lit n pS 4 p = 0 := litz0 (by rw [hf]; decide)
  have z5 : lit n pS 5 p = 0 := litz0 (by rw [hf]; decide)
  have z6 : lit n pS 6 p = 0 := litz0 (by rw [hf]; decide)
  have h1 : 1 ≤ lit n pS 2 p := litz1 (by decide) hf
  have hle : lit n pS 2 p ≤ 5 := lit_le
  have hw : p_fw n pS 2 4 1 (p + 1, true) = (p + lit n pS 2 p, decide (lit n pS 2 p = 5)) := p_fw_is (by decide) 4 1 rfl h1
  rw [r_command h (by omega) hj, hr, if_pos (by decide)]
  unfold fX7_command_89
  rw [if_pos rfl]
  rw [show II p + (1 : Int32) = II (p + 1) from n_add p 1]
  have l0 := r_letters h 105 110 100 (s := (p + 1, true)) (by show p + 1 ≤ 990; omega)
  have b0 : (p_nd n pS 100 (p_nd n pS 110 (p_nd n pS 105 (p + 1, true)))).1 ≤ p + 4 := Nat.le_trans p_nd_le (Nat.succ_le_succ (Nat.le_trans p_nd_le (Nat.succ_le_succ p_nd_le)))
  rw [show fX7_letters (II n) (II (p + 1)) (-1) mI 105 110 100 = _ from l0, ob]
  rw [show fX7_needs (II n) (II (p_nd n pS 100 (p_nd n pS 110 (p_nd n pS 105 (p + 1, true)))).1) (p_E (p_nd n pS 100 (p_nd n pS 110 (p_nd n pS 105 (p + 1, true))))) mI 32 = _ from r_need h 32 (s := (p_nd n pS 100 (p_nd n pS 110 (p_nd n pS 105 (p + 1, true))))) (by omega), ob]
  have c0 : (p_nd n pS 32 (p_nd n pS 100 (p_nd n pS 110 (p_nd n pS 105 (p + 1, true))))).1 ≤ p + 5 := Nat.le_trans p_nd_le (by omega)
  rw [show (p_nd n pS 32 (p_nd n pS 100 (p_nd n pS 110 (p_nd n pS 105 (p + 1, true))))) = (p + lit n pS 2 p, decide (lit n pS 2 p = 5)) from hw]
  have i0 : hl_in (II (3 * j)) 183 = true := n_in (by omega) (by omega)
  have e1 : II (3 * j) + (1 : Int32) = II (3 * j + 1) := n_add (3 * j) 1
  have i1 : hl_in (II (3 * j + 1)) 183 = true := n_in (by omega) (by omega)
  by_cases hL : lit n pS 2 p = 5
  · have ev : vr n pS p 7 0 0 = (II 2, II (p + 5)) := by
      rw [vr7, z0, if_neg (show ¬ (0 : Nat) = 4 by decide), z1, if_neg (show ¬ (0 : Nat) = 7 by decide), if_pos hL, hL]
    rw [hL, decide_eq_true rfl, p_Et]
    obtain ⟨p1, b1, k, l1, l2, l3, g1, g2⟩ := b_kindSign (pO := upd pO j (-1)) h (q := p + 5) (by omega) hj
    rw [show fX7_kindSign (II n) (II (p + 5)) (-1) mI = _ from g2, ob, e1, if_pos i1, if_pos i0, n_cl (by omega), n_cl (by omega)]
    have g3 : fX4_readOperands (II n) (II (p + 5)) (II j) pS (upd pO j (-1)) (upd pW j 0) (II 2) = some (if b1 = true then 1 else 0, II p1, if b1 = true then upd (upd pO j (-1)) j (II k) else upd pO j (-1), upd pW j 0) := by
      unfold fX4_readOperands
      rw [if_neg (show ¬ II 2 = (0 : Int32) by decide), if_neg (show ¬ II 2 = (1 : Int32) by decide), if_pos (show II 2 = (2 : Int32) from rfl), g1, ob]
      cases b1
      · exact if_pos r_nar0
      · exact if_pos r_nar1
    rw [c_commandY h (by omega) hj (by decide) ev g3]
    refine ⟨p1, b1, _, _, _, _, rfl, rfl, by omega, fun hb => ⟨by omega, Or.inr <| Or.inr <| Or.inl ⟨upd_at _ _ _, upd_at _ _ _, ?_, ⟨k, by omega, ?_⟩⟩⟩, fun i hi => ⟨upd_ne (by omega), ?_, upd_ne (by omega)⟩, fun i hi => by rw [upd_ne (by omega), upd_ne (by omega)]; exact mC3_lt hi⟩
    · subst hb
      rw [upd_ne (by omega), upd_at]
      exact (upd_at _ _ _).symm
    · subst hb
      exact upd_at _ _ _
    · cases b1
      · exact upd_ne (by omega)
      · show upd (upd pO j (-1)) j (II k) i = pO i
        rw [upd_ne (by omega), upd_ne (by omega)]
  · have ev : vr n pS p 7 0 0 = (-1, II (p + lit n pS 2 p)) := by
      rw [vr7, z0, if_neg (show ¬ (0 : Nat) = 4 by decide), z1, if_neg (show ¬ (0 : Nat) = 7 by decide), if_neg hL, z3, if_neg (show ¬ (0 : Nat) = 6 by decide), z4, if_neg (show ¬ (0 : Nat) = 5 by decide), z5, if_neg (show ¬ (0 : Nat) = 7 by decide), z6, if_neg (show ¬ (0 : Nat) = 5 by decide)]
      show ((-1 : Int32), II (p + w_m (w_m (w_m (w_m (w_m (w_m (w_m 0 0) 0) (lit n pS 2 p)) 0) 0) 0) 0)) = _
      simp only [w_m0, w_0m]
    rw [decide_eq_false hL, p_Ef, c_commandN h (by omega) hj ev]
    rw [show fX7_kindSign (II n) (II (p + lit n pS 2 p)) (II (p + lit n pS 2 p)) mI = _ from r_kindE (by omega), ob, e1, if_pos i1, if_pos i0, n_cl (by omega), n_cl (by omega)]
    exact ⟨p + lit n pS 2 p, false, _, _, _, _, rfl, rfl, by omega, fun h => Bool.noConfusion h, fun i hi => ⟨upd_ne (by omega), upd_ne (by omega), upd_ne (by omega)⟩, fun i hi => by rw [upd_ne (by omega), upd_ne (by omega)]; exact mC3_lt hi⟩
/-- 'limit ' -/
theorem b_cmd_3 {n p j : Nat} {pS mI pV pO pW mC : Nat → Int32} (h : PT n pS mI) (hp : p ≤ 60) (hj : j < 60) (hf : p_cs n pS p = 108) : p_B p j pV pO pW mC n (fX4_readCommand (II n) (II p) (II j) pS pV pO pW) (fX7_command (II n) (II p) (-1) (II j) mI mC) := by
  have hr : p_rs n pS p = 108 := (p_same (by decide) (by decide)).mpr hf
  have z0 : lit n pS 0 p = 0 := litz0 (by rw [hf]; decide)
  have z1 : lit n pS 1 p = 0 := litz0 (by rw [hf]; decide)
  have z2 : lit n pS 2 p = 0 := litz0 (by rw [hf]; decide)
  have z4 : lit n pS 4 p = 0 := litz0 (by rw [hf]; decide)
  have z5 : lit n pS 5 p = 0 := litz0 (by rw [hf]; decide)
  have z6 : lit n pS 6 p = 0 := litz0 (by rw [hf]; decide)
  have h1 : 1 ≤ lit n pS 3 p := litz1 (by decide) hf
  have hle : lit n pS 3 p ≤ 6 := lit_le
  have hw : p_fw n pS 3 5 1 (p + 1, true) = (p + lit n pS 3 p, decide (lit n pS 3 p = 6)) := p_fw_is (by decide) 5 1 rfl h1
  rw [r_command h (by omega) hj, hr, if_pos (by decide)]
  unfold fX7_command_89
  rw [if_neg (by decide), if_pos rfl]
  rw [show II p + (1 : Int32) = II (p + 1) from n_add p 1]
  have l0 := r_letters h 105 109 105 (s := (p + 1, true)) (by show p + 1 ≤ 990; omega)
  have b0 : (p_nd n pS 105 (p_nd n pS 109 (p_nd n pS 105 (p + 1, true)))).1 ≤ p + 4 := Nat.le_trans p_nd_le (Nat.succ_le_succ (Nat.le_trans p_nd_le (Nat.succ_le_succ p_nd_le)))
  rw [show fX7_letters (II n) (II (p + 1)) (-1) mI 105 109 105 = _ from l0, ob]
  rw [show fX7_needs (II n) (II (p_nd n pS 105 (p_nd n pS 109 (p_nd n pS 105 (p + 1, true)))).1) (p_E (p_nd n pS 105 (p_nd n pS 109 (p_nd n pS 105 (p + 1, true))))) mI 116 = _ from r_need h 116 (s := (p_nd n pS 105 (p_nd n pS 109 (p_nd n pS 105 (p + 1, true))))) (by omega), ob]
  have c0 : (p_nd n pS 116 (p_nd n pS 105 (p_nd n pS 109 (p_nd n pS 105 (p + 1, true))))).1 ≤ p + 5 := Nat.le_trans p_nd_le (by omega)
  rw [show fX7_needs (II n) (II (p_nd n pS 116 (p_nd n pS 105 (p_nd n pS 109 (p_nd n pS 105 (p + 1, true))))).1) (p_E (p_nd n pS 116 (p_nd n pS 105 (p_nd n pS 109 (p_nd n pS 105 (p + 1, true)))))) mI 32 = _ from r_need h 32 (s := (p_nd n pS 116 (p_nd n pS 105 (p_nd n pS 109 (p_nd n pS 105 (p + 1, true)))))) (by omega), ob]
  have c1 : (p_nd n pS 32 (p_nd n pS 116 (p_nd n pS 105 (p_nd n pS 109 (p_nd n pS 105 (p + 1, true)))))).1 ≤ p + 6 := Nat.le_trans p_nd_le (by omega)
  rw [show (p_nd n pS 32 (p_nd n pS 116 (p_nd n pS 105 (p_nd n pS 109 (p_nd n pS 105 (p + 1, true)))))) = (p + lit n pS 3 p, decide (lit n pS 3 p = 6)) from hw]
  have i0 : hl_in (II (3 * j)) 183 = true := n_in (by omega) (by omega)
  have e1 : II (3 * j) + (1 : Int32) = II (3 * j + 1) := n_add (3 * j) 1
  have i1 : hl_in (II (3 * j + 1)) 183 = true := n_in (by omega) (by omega)
  by_cases hL : lit n pS 3 p = 6
  · have ev : vr n pS p 7 0 0 = (II 3, II (p + 6)) := by
      rw [vr7, z0, if_neg (show ¬ (0 : Nat) = 4 by decide), z1, if_neg (show ¬ (0 : Nat) = 7 by decide), z2, if_neg (show ¬ (0 : Nat) = 5 by decide), if_pos hL, hL]
    rw [hL, decide_eq_true rfl, p_Et]
    obtain ⟨p1, b1, k, l1, l2, l3, g1, g2⟩ := b_operand (mx := 3) (pO := upd pO j (-1)) h (q := p + 6) (by omega) hj (by decide) (by decide)
    have l3 : k < 1000 := l3
    rw [show fX7_number (II n) (II (p + 6)) (-1) mI (3 : Int32) = _ from g2, ob, e1, if_pos i1, if_pos i0, n_cl (by omega), n_cl (by omega)]
    have g3 : fX4_readOperands (II n) (II (p + 6)) (II j) pS (upd pO j (-1)) (upd pW j 0) (II 3) = some (if b1 = true then 1 else 0, II p1, if b1 = true then upd (upd pO j (-1)) j (II k) else upd pO j (-1), upd pW j 0) := by
      unfold fX4_readOperands
      rw [if_neg (show ¬ II 3 = (0 : Int32) by decide), if_neg (show ¬ II 3 = (1 : Int32) by decide), if_neg (show ¬ II 3 = (2 : Int32) by decide), if_pos (show II 3 = (3 : Int32) from rfl), show fX4_readOperand (II n) (II (p + 6)) (II j) pS (upd pO j (-1)) (3 : Int32) = _ from g1, ob]
      cases b1
      · exact if_pos r_nar0
      · exact if_pos r_nar1
    rw [c_commandY h (by omega) hj (by decide) ev g3]
    refine ⟨p1, b1, _, _, _, _, rfl, rfl, by omega, fun hb => ⟨by omega, Or.inr <| Or.inr <| Or.inr <| Or.inl ⟨upd_at _ _ _, upd_at _ _ _, ?_, ⟨k, by omega, ?_⟩⟩⟩, fun i hi => ⟨upd_ne (by omega), ?_, upd_ne (by omega)⟩, fun i hi => by rw [upd_ne (by omega), upd_ne (by omega)]; exact mC3_lt hi⟩
    · subst hb
      rw [upd_ne (by omega), upd_at]
      exact (upd_at _ _ _).symm
    · subst hb
      exact upd_at _ _ _
    · cases b1
      · exact upd_ne (by omega)
      · show upd (upd pO j (-1)) j (II k) i = pO i
        rw [upd_ne (by omega), upd_ne (by omega)]
  · have ev : vr n pS p 7 0 0 = (-1, II (p + lit n pS 3 p)) := by
      rw [vr7, z0, if_neg (show ¬ (0 : Nat) = 4 by decide), z1, if_neg (show ¬ (0 : Nat) = 7 by decide), z2, if_neg (show ¬ (0 : Nat) = 5 by decide), if_neg hL, z4, if_neg (show ¬ (0 : Nat) = 5 by decide), z5, if_neg (show ¬ (0 : Nat) = 7 by decide), z6, if_neg (show ¬ (0 : Nat) = 5 by decide)]
      show ((-1 : Int32), II (p + w_m (w_m (w_m (w_m (w_m (w_m (w_m 0 0) 0) 0) (lit n pS 3 p)) 0) 0) 0)) = _
      simp only [w_m0, w_0m]
    rw [decide_eq_false hL, p_Ef, c_commandN h (by omega) hj ev]
    rw [show fX7_number (II n) (II (p + lit n pS 3 p)) (II (p + lit n pS 3 p)) mI (3 : Int32) = _ from r_numberE (by omega) _, ob, e1, if_pos i1, if_pos i0, n_cl (by omega), n_cl (by omega)]
    exact ⟨p + lit n pS 3 p, false, _, _, _, _, rfl, rfl, by omega, fun h => Bool.noConfusion h, fun i hi => ⟨upd_ne (by omega), upd_ne (by omega), upd_ne (by omega)⟩, fun i hi => by rw [upd_ne (by omega), upd_ne (by omega)]; exact mC3_lt hi⟩
/-- 'seed ' -/
theorem b_cmd_4 {n p j : Nat} {pS mI pV pO pW mC : Nat → Int32} (h : PT n pS mI) (hp : p ≤ 60) (hj : j < 60) (hf : p_cs n pS p = 115) : p_B p j pV pO pW mC n (fX4_readCommand (II n) (II p) (II j) pS pV pO pW) (fX7_command (II n) (II p) (-1) (II j) mI mC) := by
  have hr : p_rs n pS p = 115 := (p_same (by decide) (by decide)).mpr hf
  have z0 : lit n pS 0 p = 0 := litz0 (by rw [hf]; decide)
  have z1 : lit n pS 1 p = 0 := litz0 (by rw [hf]; decide)
  have z2 : lit n pS 2 p = 0 := litz0 (by rw [hf]; decide)
  have z3 : lit n pS 3 p = 0 := litz0 (by rw [hf]; decide)
  have z5 : lit n pS 5 p = 0 := litz0 (by rw [hf]; decide)
  have z6 : lit n pS 6 p = 0 := litz0 (by rw [hf]; decide)
  have h1 : 1 ≤ lit n pS 4 p := litz1 (by decide) hf
  have hle : lit n pS 4 p ≤ 5 := lit_le
  have hw : p_fw n pS 4 4 1 (p + 1, true) = (p + lit n pS 4 p, decide (lit n pS 4 p = 5)) := p_fw_is (by decide) 4 1 rfl h1
  rw [r_command h (by omega) hj, hr, if_pos (by decide)]
  unfold fX7_command_89
  rw [if_neg (by decide), if_neg (by decide), if_neg (by decide), if_neg (by decide), if_pos rfl]
  rw [show II p + (1 : Int32) = II (p + 1) from n_add p 1]
  have l0 := r_letters h 101 101 100 (s := (p + 1, true)) (by show p + 1 ≤ 990; omega)
  have b0 : (p_nd n pS 100 (p_nd n pS 101 (p_nd n pS 101 (p + 1, true)))).1 ≤ p + 4 := Nat.le_trans p_nd_le (Nat.succ_le_succ (Nat.le_trans p_nd_le (Nat.succ_le_succ p_nd_le)))
  rw [show fX7_letters (II n) (II (p + 1)) (-1) mI 101 101 100 = _ from l0, ob]
  rw [show fX7_needs (II n) (II (p_nd n pS 100 (p_nd n pS 101 (p_nd n pS 101 (p + 1, true)))).1) (p_E (p_nd n pS 100 (p_nd n pS 101 (p_nd n pS 101 (p + 1, true))))) mI 32 = _ from r_need h 32 (s := (p_nd n pS 100 (p_nd n pS 101 (p_nd n pS 101 (p + 1, true))))) (by omega), ob]
  have c0 : (p_nd n pS 32 (p_nd n pS 100 (p_nd n pS 101 (p_nd n pS 101 (p + 1, true))))).1 ≤ p + 5 := Nat.le_trans p_nd_le (by omega)
  rw [show (p_nd n pS 32 (p_nd n pS 100 (p_nd n pS 101 (p_nd n pS 101 (p + 1, true))))) = (p + lit n pS 4 p, decide (lit n pS 4 p = 5)) from hw]
  have i0 : hl_in (II (3 * j)) 183 = true := n_in (by omega) (by omega)
  have e1 : II (3 * j) + (1 : Int32) = II (3 * j + 1) := n_add (3 * j) 1
  have i1 : hl_in (II (3 * j + 1)) 183 = true := n_in (by omega) (by omega)
  by_cases hL : lit n pS 4 p = 5
  · have ev : vr n pS p 7 0 0 = (II 4, II (p + 5)) := by
      rw [vr7, z0, if_neg (show ¬ (0 : Nat) = 4 by decide), z1, if_neg (show ¬ (0 : Nat) = 7 by decide), z2, if_neg (show ¬ (0 : Nat) = 5 by decide), z3, if_neg (show ¬ (0 : Nat) = 6 by decide), if_pos hL, hL]
    rw [hL, decide_eq_true rfl, p_Et]
    obtain ⟨p1, b1, k, l1, l2, l3, g1, g2⟩ := b_operand (mx := 3) (pO := upd pO j (-1)) h (q := p + 5) (by omega) hj (by decide) (by decide)
    have l3 : k < 1000 := l3
    rw [show fX7_number (II n) (II (p + 5)) (-1) mI (3 : Int32) = _ from g2, ob, e1, if_pos i1, if_pos i0, n_cl (by omega), n_cl (by omega)]
    have g3 : fX4_readOperands (II n) (II (p + 5)) (II j) pS (upd pO j (-1)) (upd pW j 0) (II 4) = some (if b1 = true then 1 else 0, II p1, if b1 = true then upd (upd pO j (-1)) j (II k) else upd pO j (-1), upd pW j 0) := by
      unfold fX4_readOperands
      rw [if_neg (show ¬ II 4 = (0 : Int32) by decide), if_neg (show ¬ II 4 = (1 : Int32) by decide), if_neg (show ¬ II 4 = (2 : Int32) by decide), if_neg (show ¬ II 4 = (3 : Int32) by decide), if_pos (show II 4 = (4 : Int32) from rfl), show fX4_readOperand (II n) (II (p + 5)) (II j) pS (upd pO j (-1)) (3 : Int32) = _ from g1, ob]
      cases b1
      · exact if_pos r_nar0
      · exact if_pos r_nar1
    rw [c_commandY h (by omega) hj (by decide) ev g3]
    refine ⟨p1, b1, _, _, _, _, rfl, rfl, by omega, fun hb => ⟨by omega, Or.inr <| Or.inr <| Or.inr <| Or.inr <| Or.inl ⟨upd_at _ _ _, upd_at _ _ _, ?_, ⟨k, by omega, ?_⟩⟩⟩, fun i hi => ⟨upd_ne (by omega), ?_, upd_ne (by omega)⟩, fun i hi => by rw [upd_ne (by omega), upd_ne (by omega)]; exact mC3_lt hi⟩
    · subst hb
      rw [upd_ne (by omega), upd_at]
      exact (upd_at _ _ _).symm
    · subst hb
      exact upd_at _ _ _
    · cases b1
      · exact upd_ne (by omega)
      · show upd (upd pO j (-1)) j (II k) i = pO i
        rw [upd_ne (by omega), upd_ne (by omega)]
  · have ev : vr n pS p 7 0 0 = (-1, II (p + lit n pS 4 p)) := by
      rw [vr7, z0, if_neg (show ¬ (0 : Nat) = 4 by decide), z1, if_neg (show ¬ (0 : Nat) = 7 by decide), z2, if_neg (show ¬ (0 : Nat) = 5 by decide), z3, if_neg (show ¬ (0 : Nat) = 6 by decide), if_neg hL, z5, if_neg (show ¬ (0 : Nat) = 7 by decide), z6, if_neg (show ¬ (0 : Nat) = 5 by decide)]
      show ((-1 : Int32), II (p + w_m (w_m (w_m (w_m (w_m (w_m (w_m 0 0) 0) 0) 0) (lit n pS 4 p)) 0) 0)) = _
      simp only [w_m0, w_0m]
    rw [decide_eq_false hL, p_Ef, c_commandN h (by omega) hj ev]
    rw [show fX7_number (II n) (II (p + lit n pS 4 p)) (II (p + lit n pS 4 p)) mI (3 : Int32) = _ from r_numberE (by omega) _, ob, e1, if_pos i1, if_pos i0, n_cl (by omega), n_cl (by omega)]
    exact ⟨p + lit n pS 4 p, false, _, _, _, _, rfl, rfl, by omega, fun h => Bool.noConfusion h, fun i hi => ⟨upd_ne (by omega), upd_ne (by omega), upd_ne (by omega)⟩, fun i hi => by rw [upd_ne (by omega), upd_ne (by omega)]; exact mC3_lt hi⟩
/-- 'clear' -/
theorem b_cmd_6 {n p j : Nat} {pS mI pV pO pW mC : Nat → Int32} (h : PT n pS mI) (hp : p ≤ 60) (hj : j < 60) (hf : p_cs n pS p = 99) : p_B p j pV pO pW mC n (fX4_readCommand (II n) (II p) (II j) pS pV pO pW) (fX7_command (II n) (II p) (-1) (II j) mI mC) := by
  have hr : p_rs n pS p = 99 := (p_same (by decide) (by decide)).mpr hf
  have z0 : lit n pS 0 p = 0 := litz0 (by rw [hf]; decide)
  have z1 : lit n pS 1 p = 0 := litz0 (by rw [hf]; decide)
  have z2 : lit n pS 2 p = 0 := litz0 (by rw [hf]; decide)
  have z3 : lit n pS 3 p = 0 := litz0 (by rw [hf]; decide)
  have z4 : lit n pS 4 p = 0 := litz0 (by rw [hf]; decide)
  have z5 : lit n pS 5 p = 0 := litz0 (by rw [hf]; decide)
  have h1 : 1 ≤ lit n pS 6 p := litz1 (by decide) hf
  have hle : lit n pS 6 p ≤ 5 := lit_le
  have hw : p_fw n pS 6 4 1 (p + 1, true) = (p + lit n pS 6 p, decide (lit n pS 6 p = 5)) := p_fw_is (by decide) 4 1 rfl h1
  rw [r_command h (by omega) hj, hr, if_pos (by decide)]
  unfold fX7_command_89 fX7_command_330
  rw [if_neg (by decide), if_neg (by decide), if_neg (by decide), if_neg (by decide), if_neg (by decide)]
  rw [show II p + (1 : Int32) = II (p + 1) from n_add p 1]
  have l0 := r_letters h 108 101 97 (s := (p + 1, true)) (by show p + 1 ≤ 990; omega)
  have b0 : (p_nd n pS 97 (p_nd n pS 101 (p_nd n pS 108 (p + 1, true)))).1 ≤ p + 4 := Nat.le_trans p_nd_le (Nat.succ_le_succ (Nat.le_trans p_nd_le (Nat.succ_le_succ p_nd_le)))
  rw [show fX7_letters (II n) (II (p + 1)) (-1) mI 108 101 97 = _ from l0, ob]
  rw [show fX7_needs (II n) (II (p_nd n pS 97 (p_nd n pS 101 (p_nd n pS 108 (p + 1, true)))).1) (p_E (p_nd n pS 97 (p_nd n pS 101 (p_nd n pS 108 (p + 1, true))))) mI 114 = _ from r_need h 114 (s := (p_nd n pS 97 (p_nd n pS 101 (p_nd n pS 108 (p + 1, true))))) (by omega), ob]
  have c0 : (p_nd n pS 114 (p_nd n pS 97 (p_nd n pS 101 (p_nd n pS 108 (p + 1, true))))).1 ≤ p + 5 := Nat.le_trans p_nd_le (by omega)
  rw [show (p_nd n pS 114 (p_nd n pS 97 (p_nd n pS 101 (p_nd n pS 108 (p + 1, true))))) = (p + lit n pS 6 p, decide (lit n pS 6 p = 5)) from hw]
  have i0 : hl_in (II (3 * j)) 183 = true := n_in (by omega) (by omega)
  by_cases hL : lit n pS 6 p = 5
  · have ev : vr n pS p 7 0 0 = (II 6, II (p + 5)) := by
      rw [vr7, z0, if_neg (show ¬ (0 : Nat) = 4 by decide), z1, if_neg (show ¬ (0 : Nat) = 7 by decide), z2, if_neg (show ¬ (0 : Nat) = 5 by decide), z3, if_neg (show ¬ (0 : Nat) = 6 by decide), z4, if_neg (show ¬ (0 : Nat) = 5 by decide), z5, if_neg (show ¬ (0 : Nat) = 7 by decide), if_pos hL, hL]
    rw [hL, decide_eq_true rfl, p_Et]
    rw [if_pos i0, n_cl (by omega)]
    have g3 : fX4_readOperands (II n) (II (p + 5)) (II j) pS (upd pO j (-1)) (upd pW j 0) (II 6) = some (if true = true then 1 else 0, II (p + 5), upd pO j (-1), upd pW j 0) := by
      unfold fX4_readOperands
      rw [if_neg (show ¬ II 6 = (0 : Int32) by decide), if_neg (show ¬ II 6 = (1 : Int32) by decide), if_neg (show ¬ II 6 = (2 : Int32) by decide), if_neg (show ¬ II 6 = (3 : Int32) by decide), if_neg (show ¬ II 6 = (4 : Int32) by decide)]
      rfl
    rw [c_commandY h (by omega) hj (by decide) ev g3]
    exact ⟨p + 5, true, _, _, _, _, rfl, rfl, by omega, fun hb => ⟨by omega, Or.inr <| Or.inr <| Or.inr <| Or.inr <| Or.inr <| Or.inr ⟨upd_at _ _ _, upd_at _ _ _⟩⟩, fun i hi => ⟨upd_ne (by omega), upd_ne (by omega), upd_ne (by omega)⟩, fun i hi => by rw [upd_ne (by omega)]; exact mC3_lt hi⟩
  · have ev : vr n pS p 7 0 0 = (-1, II (p + lit n pS 6 p)) := by
      rw [vr7, z0, if_neg (show ¬ (0 : Nat) = 4 by decide), z1, if_neg (show ¬ (0 : Nat) = 7 by decide), z2, if_neg (show ¬ (0 : Nat) = 5 by decide), z3, if_neg (show ¬ (0 : Nat) = 6 by decide), z4, if_neg (show ¬ (0 : Nat) = 5 by decide), z5, if_neg (show ¬ (0 : Nat) = 7 by decide), if_neg hL]
      show ((-1 : Int32), II (p + w_m (w_m (w_m (w_m (w_m (w_m (w_m 0 0) 0) 0) 0) 0) 0) (lit n pS 6 p))) = _
      simp only [w_m0, w_0m]
    rw [decide_eq_false hL, p_Ef, c_commandN h (by omega) hj ev]
    rw [if_pos i0, n_cl (by omega)]
    exact ⟨p + lit n pS 6 p, false, _, _, _, _, rfl, rfl, by omega, fun h => Bool.noConfusion h, fun i hi => ⟨upd_ne (by omega), upd_ne (by omega), upd_ne (by omega)⟩, fun i hi => by rw [upd_ne (by omega)]; exact mC3_lt hi⟩
