/-! calls of both:  -/
/-- 'remove ' and 'rebuild' -/
theorem b_cmd_r {n p j : Nat} {pS mI pV pO pW mC : Nat → Int32} (h : PT n pS mI) (hp : p ≤ 60) (hj : j < 60) (hf : p_cs n pS p = 114) : p_B p j pV pO pW mC n (fX4_readCommand (II n) (II p) (II j) pS pV pO pW) (fX7_command (II n) (II p) (-1) (II j) mI mC) := by
  have hr : p_rs n pS p = 114 := (p_same (by decide) (by decide)).mpr hf
  have z0 : lit n pS 0 p = 0 := litz0 (by rw [hf]; decide)
  have z2 : lit n pS 2 p = 0 := litz0 (by rw [hf]; decide)
  have z3 : lit n pS 3 p = 0 := litz0 (by rw [hf]; decide)
  have z4 : lit n pS 4 p = 0 := litz0 (by rw [hf]; decide)
  have z6 : lit n pS 6 p = 0 := litz0 (by rw [hf]; decide)
  have a1 : 1 ≤ lit n pS 1 p := litz1 (by decide) hf
  have a5 : 1 ≤ lit n pS 5 p := litz1 (by decide) hf
  have le1 : lit n pS 1 p ≤ 7 := lit_le
  have le5 : lit n pS 5 p ≤ 7 := lit_le
  have i0 : hl_in (II (3 * j)) 183 = true := n_in (by omega) (by omega)
  have e1 : II (3 * j) + (1 : Int32) = II (3 * j + 1) := n_add (3 * j) 1
  have i1 : hl_in (II (3 * j + 1)) 183 = true := n_in (by omega) (by omega)
  have evN : lit n pS 1 p ≠ 7 → lit n pS 5 p ≠ 7 → vr n pS p 7 0 0 = (-1, II (p + w_m (lit n pS 1 p) (lit n pS 5 p))) := fun h1 h5 => by
    rw [vr7, z0, if_neg (show ¬ (0 : Nat) = 4 by decide), if_neg h1, z2, if_neg (show ¬ (0 : Nat) = 5 by decide), z3, if_neg (show ¬ (0 : Nat) = 6 by decide), z4, if_neg (show ¬ (0 : Nat) = 5 by decide), if_neg h5, z6, if_neg (show ¬ (0 : Nat) = 5 by decide)]
    show ((-1 : Int32), II (p + w_m (w_m (w_m (w_m (w_m (w_m (w_m 0 0) (lit n pS 1 p)) 0) 0) 0) (lit n pS 5 p)) 0)) = _
    simp only [w_m0, w_0m]
  have evR : lit n pS 1 p = 7 → vr n pS p 7 0 0 = (II 1, II (p + 7)) := fun h1 => by
    rw [vr7, z0, if_neg (show ¬ (0 : Nat) = 4 by decide), if_pos h1, h1]
  have evB : lit n pS 1 p ≠ 7 → lit n pS 5 p = 7 → vr n pS p 7 0 0 = (II 5, II (p + 7)) := fun h1 h5 => by
    rw [vr7, z0, if_neg (show ¬ (0 : Nat) = 4 by decide), if_neg h1, z2, if_neg (show ¬ (0 : Nat) = 5 by decide), z3, if_neg (show ¬ (0 : Nat) = 6 by decide), z4, if_neg (show ¬ (0 : Nat) = 5 by decide), if_pos h5, h5]
  rw [r_command h (by omega) hj, hr, if_pos (by decide)]
  unfold fX7_command_89
  rw [if_neg (by decide), if_neg (by decide), if_neg (by decide), if_pos rfl]
  rw [show II p + (1 : Int32) = II (p + 1) from n_add p 1]
  -- what the reference does with the rest of 'remove ' behind an error or not
  have rem : ∀ (s : Nat × Bool), s.1 ≤ p + 8 → s.2 = false ∨ (s = (p + 2, true) ∧ 2 ≤ lit n pS 1 p) → ∃ q b, q ≤ p + 8 ∧ (s.2 = false → q = s.1 ∧ b = false) ∧ (s = (p + 2, true) → q = p + lit n pS 1 p ∧ b = decide (lit n pS 1 p = 7)) ∧
      ((fX7_removeOrRebuild_47 (II n) (II s.1) (p_E s) mI).bind fun r32 => (fX7_needs (II n) r32.2.1 r32.2.2 mI (32 : Int32))) = some (II q, p_E (q, b)) ∧ ∃ x y, fX7_removeOrRebuild_47 (II n) (II s.1) (p_E s) mI = some (114, x, y) := fun s hs hor => by
    have l0 := r_letters h 109 111 118 (s := s) (by omega)
    have b0 : (p_nd n pS 118 (p_nd n pS 111 (p_nd n pS 109 s))).1 ≤ s.1 + 3 := Nat.le_trans p_nd_le (Nat.succ_le_succ (Nat.le_trans p_nd_le (Nat.succ_le_succ p_nd_le)))
    have l1 := r_need h 101 (s := p_nd n pS 118 (p_nd n pS 111 (p_nd n pS 109 s))) (by omega)
    have b1 : (p_nd n pS 101 (p_nd n pS 118 (p_nd n pS 111 (p_nd n pS 109 s)))).1 ≤ s.1 + 4 := Nat.le_trans p_nd_le (by omega)
    have l2 := r_need h 32 (s := p_nd n pS 101 (p_nd n pS 118 (p_nd n pS 111 (p_nd n pS 109 s)))) (by omega)
    have hw : p_nd n pS 32 (p_nd n pS 101 (p_nd n pS 118 (p_nd n pS 111 (p_nd n pS 109 s)))) = p_fw n pS 1 5 2 s := rfl
    have e47 : fX7_removeOrRebuild_47 (II n) (II s.1) (p_E s) mI = some (114, II (p_nd n pS 101 (p_nd n pS 118 (p_nd n pS 111 (p_nd n pS 109 s)))).1, p_E (p_nd n pS 101 (p_nd n pS 118 (p_nd n pS 111 (p_nd n pS 109 s))))) := by
      unfold fX7_removeOrRebuild_47
      rw [l0, ob, l1, ob]
    rw [hw] at l2
    refine ⟨(p_fw n pS 1 5 2 s).1, (p_fw n pS 1 5 2 s).2, ?_, fun hb => ?_, fun hs2 => ?_, ?_, _, _, e47⟩
    · rcases hor with hb | ⟨rfl, h2⟩
      · obtain ⟨a, b⟩ := s
        have hb : b = false := hb
        subst hb
        rw [p_fwF]
        exact hs
      · rw [p_fw_is (i := 1) (by decide) 5 2 rfl h2]
        show p + lit n pS 1 p ≤ p + 8
        omega
    · obtain ⟨a, b⟩ := s
      have hb : b = false := hb
      subst hb
      rw [p_fwF]
      exact ⟨rfl, rfl⟩
    · rcases hor with hb | ⟨rfl, h2⟩
      · rw [hs2] at hb; cases hb
      · rw [p_fw_is (i := 1) (by decide) 5 2 rfl h2]
        exact ⟨rfl, rfl⟩
    · rw [e47, ob]
      exact l2
  -- behind 'remove '
  have fin : ∀ q b x y, q ≤ p + 8 → ((some ((114 : Int32), x, y)).bind fun r32 => (fX7_needs (II n) r32.2.1 r32.2.2 mI (32 : Int32))) = some (II q, p_E (q, b)) →
      (b = false → lit n pS 1 p ≠ 7 ∧ lit n pS 5 p ≠ 7 ∧ q = p + w_m (lit n pS 1 p) (lit n pS 5 p)) → (b = true → lit n pS 1 p = 7 ∧ q = p + 7) →
      p_B p j pV pO pW mC n (fX4_readCommand (II n) (II p) (II j) pS pV pO pW) (((some ((114 : Int32), x, y)).bind fun r32 => (if r32.1 = (114 : Int32) then ((fX7_needs (II n) r32.2.1 r32.2.2 mI (32 : Int32)).bind fun r35 => ((fX7_number (II n) r35.1 r35.2 mI (4 : Int32)).bind fun r36 => (if hl_in (II (3 * j) + (1 : Int32)) 183 = true then (if hl_in (II (3 * j)) 183 = true then (some (r36.2.1, r36.2.2, II (j + 1), upd (upd (mC3 mC j) ((II (3 * j) + (1 : Int32)).toNatClampNeg) r36.1) ((II (3 * j)).toNatClampNeg) r32.1)) else none) else none))) else (if hl_in (II (3 * j)) 183 = true then (some (r32.2.1, r32.2.2, II (j + 1), upd (mC3 mC j) ((II (3 * j)).toNatClampNeg) r32.1)) else none)))) := fun q b x y hq hne hN hY => by
    rw [ob] at hne ⊢
    refine (congrArg (p_B p j pV pO pW mC n _) (if_pos rfl)).mpr ?_
    rw [hne, ob]
    cases b
    · obtain ⟨n1, n5, eq⟩ := hN rfl
      rw [show fX7_number (II n) (II q, p_E (q, false)).1 (II q, p_E (q, false)).2 mI (4 : Int32) = _ from r_numberE (n := n) (q := q) (by omega) _, ob, e1, if_pos i1, if_pos i0, n_cl (by omega), n_cl (by omega), c_commandN h (by omega) hj (evN n1 n5), ← eq]
      exact ⟨q, false, _, _, _, _, rfl, rfl, by omega, fun h => Bool.noConfusion h, fun i hi => ⟨upd_ne (by omega), upd_ne (by omega), upd_ne (by omega)⟩, fun i hi => by rw [upd_ne (by omega), upd_ne (by omega)]; exact mC3_lt hi⟩
    · obtain ⟨y1, eq⟩ := hY rfl
      subst eq
      obtain ⟨p1, b1, k, l1, l2, l3, g1, g2⟩ := b_operand (mx := 4) (pO := upd pO j (-1)) h (q := p + 7) (by omega) hj (by decide) (by decide)
      have l3 : k < 10000 := l3
      rw [show fX7_number (II n) (II (p + 7), p_E (p + 7, true)).1 (II (p + 7), p_E (p + 7, true)).2 mI (4 : Int32) = _ from g2, ob, e1, if_pos i1, if_pos i0, n_cl (by omega), n_cl (by omega)]
      have g3 : fX4_readOperands (II n) (II (p + 7)) (II j) pS (upd pO j (-1)) (upd pW j 0) (II 1) = some (if b1 = true then 1 else 0, II p1, if b1 = true then upd (upd pO j (-1)) j (II k) else upd pO j (-1), upd pW j 0) := by
        unfold fX4_readOperands
        rw [if_neg (show ¬ II 1 = (0 : Int32) by decide), if_pos (show II 1 = (1 : Int32) from rfl), show fX4_readOperand (II n) (II (p + 7)) (II j) pS (upd pO j (-1)) (4 : Int32) = _ from g1, ob]
        cases b1
        · exact if_pos r_nar0
        · exact if_pos r_nar1
      rw [c_commandY h (by omega) hj (by decide) (evR y1) g3]
      refine ⟨p1, b1, _, _, _, _, rfl, rfl, by omega, fun hb => ⟨by omega, Or.inr <| Or.inl ⟨upd_at _ _ _, upd_at _ _ _, ?_, ⟨k, by omega, ?_⟩⟩⟩, fun i hi => ⟨upd_ne (by omega), ?_, upd_ne (by omega)⟩, fun i hi => by rw [upd_ne (by omega), upd_ne (by omega)]; exact mC3_lt hi⟩
      · subst hb
        rw [upd_ne (by omega), upd_at]
        exact (upd_at _ _ _).symm
      · subst hb
        exact upd_at _ _ _
      · cases b1
        · exact upd_ne (by omega)
        · show upd (upd pO j (-1)) j (II k) i = pO i
          rw [upd_ne (by omega), upd_ne (by omega)]
  have ne0 := r_need h 101 (s := (p + 1, true)) (by show p + 1 ≤ 1000; omega)
  unfold fX7_removeOrRebuild
  rw [show fX7_needs (II n) (II (p + 1)) (-1) mI 101 = _ from ne0, ob]
  have same1 : p_rs n pS (p + 1) = 101 ↔ p_cs n pS (p + 1) = 101 := p_same (by decide) (by decide)
  by_cases he : p_cs n pS (p + 1) = 101
  · have hnd : p_nd n pS 101 (p + 1, true) = (p + 2, true) := by
      unfold p_nd
      rw [if_pos rfl]
      exact if_pos (same1.mpr he)
    have two1 : 2 ≤ lit n pS 1 p := lit_ge (fun k hk => by
      rcases (show k = 0 ∨ k = 1 by omega) with rfl | rfl
      · exact hf
      · exact he) (by decide)
    have two5 : 2 ≤ lit n pS 5 p := lit_ge (fun k hk => by
      rcases (show k = 0 ∨ k = 1 by omega) with rfl | rfl
      · exact hf
      · exact he) (by decide)
    rw [hnd]
    have same2 : p_rs n pS (p + 2) = 98 ↔ p_cs n pS (p + 2) = 98 := p_same (by decide) (by decide)
    have g0 : (if 0 ≤ (II (p + 2, true).1, p_E (p + 2, true)).2 then fX7_removeOrRebuild_47 (II n) (II (p + 2, true).1, p_E (p + 2, true)).1 (II (p + 2, true).1, p_E (p + 2, true)).2 mI else ((fX7_sign (II n) (II (p + 2, true).1, p_E (p + 2, true)).1 mI).bind fun r3 => (if r3 = (98 : Int32) then ((fX7_letters (II n) (II (p + 2, true).1, p_E (p + 2, true)).1 (II (p + 2, true).1, p_E (p + 2, true)).2 mI (98 : Int32) (117 : Int32) (105 : Int32)).bind fun r5 => ((fX7_needs (II n) r5.1 r5.2 mI (108 : Int32)).bind fun r6 => ((fX7_needs (II n) r6.1 r6.2 mI (100 : Int32)).bind fun r7 => (some ((98 : Int32), r7.1, r7.2))))) else (fX7_removeOrRebuild_47 (II n) (II (p + 2, true).1, p_E (p + 2, true)).1 (II (p + 2, true).1, p_E (p + 2, true)).2 mI)))) =
        if p_rs n pS (p + 2) = 98 then ((fX7_letters (II n) (II (p + 2)) (-1) mI (98 : Int32) (117 : Int32) (105 : Int32)).bind fun r5 => ((fX7_needs (II n) r5.1 r5.2 mI (108 : Int32)).bind fun r6 => ((fX7_needs (II n) r6.1 r6.2 mI (100 : Int32)).bind fun r7 => (some ((98 : Int32), r7.1, r7.2))))) else (fX7_removeOrRebuild_47 (II n) (II (p + 2)) (p_E (p + 2, true)) mI) := by
      refine (if_neg (show ¬ (0 : Int32) ≤ -1 by decide)).trans ?_
      show (fX7_sign (II n) (II (p + 2)) mI).bind _ = _
      rw [r_sign h (by omega), ob]
      rfl
    rw [g0]
    by_cases hb : p_cs n pS (p + 2) = 98
    · -- 'reb'
      rw [if_pos (same2.mpr hb)]
      have l1 : lit n pS 1 p = 2 := lit_eq (fun k hk => by
        rcases (show k = 0 ∨ k = 1 by omega) with rfl | rfl
        · exact hf
        · exact he) (by decide) (fun _ => by rw [hb]; decide)
      have l0 := r_letters h 98 117 105 (s := (p + 2, true)) (by show p + 2 ≤ 990; omega)
      have b0 : (p_nd n pS 105 (p_nd n pS 117 (p_nd n pS 98 (p + 2, true)))).1 ≤ p + 5 := Nat.le_trans p_nd_le (Nat.succ_le_succ (Nat.le_trans p_nd_le (Nat.succ_le_succ p_nd_le)))
      have k1 := r_need h 108 (s := p_nd n pS 105 (p_nd n pS 117 (p_nd n pS 98 (p + 2, true)))) (by omega)
      have b1 : (p_nd n pS 108 (p_nd n pS 105 (p_nd n pS 117 (p_nd n pS 98 (p + 2, true))))).1 ≤ p + 6 := Nat.le_trans p_nd_le (by omega)
      have k2 := r_need h 100 (s := p_nd n pS 108 (p_nd n pS 105 (p_nd n pS 117 (p_nd n pS 98 (p + 2, true))))) (by omega)
      have hw : p_nd n pS 100 (p_nd n pS 108 (p_nd n pS 105 (p_nd n pS 117 (p_nd n pS 98 (p + 2, true))))) = (p + lit n pS 5 p, decide (lit n pS 5 p = 7)) := p_fw_is (i := 5) (by decide) 5 2 rfl two5
      rw [hw] at k2
      rw [show fX7_letters (II n) (II (p + 2)) (-1) mI 98 117 105 = _ from l0, ob, k1, ob, k2, ob, ob]
      refine (congrArg (p_B p j pV pO pW mC n _) (if_neg (show ¬ (98 : Int32) = 114 by decide))).mpr ?_
      rw [if_pos i0, n_cl (by omega)]
      by_cases hL : lit n pS 5 p = 7
      · have g3 : fX4_readOperands (II n) (II (p + 7)) (II j) pS (upd pO j (-1)) (upd pW j 0) (II 5) = some (if true = true then 1 else 0, II (p + 7), upd pO j (-1), upd pW j 0) := by
          unfold fX4_readOperands
          rw [if_neg (show ¬ II 5 = (0 : Int32) by decide), if_neg (show ¬ II 5 = (1 : Int32) by decide), if_neg (show ¬ II 5 = (2 : Int32) by decide), if_neg (show ¬ II 5 = (3 : Int32) by decide), if_neg (show ¬ II 5 = (4 : Int32) by decide)]
          rfl
        rw [c_commandY h (by omega) hj (by decide) (evB (by omega) hL) g3, hL, decide_eq_true rfl]
        exact ⟨p + 7, true, _, _, _, _, rfl, rfl, by omega, fun hb => ⟨by omega, Or.inr <| Or.inr <| Or.inr <| Or.inr <| Or.inr <| Or.inl ⟨upd_at _ _ _, upd_at _ _ _⟩⟩, fun i hi => ⟨upd_ne (by omega), upd_ne (by omega), upd_ne (by omega)⟩, fun i hi => by rw [upd_ne (by omega)]; exact mC3_lt hi⟩
      · have ew : w_m (lit n pS 1 p) (lit n pS 5 p) = lit n pS 5 p := by unfold w_m; split <;> omega
        rw [c_commandN h (by omega) hj (evN (by omega) hL), ew, decide_eq_false hL]
        exact ⟨p + lit n pS 5 p, false, _, _, _, _, rfl, rfl, by omega, fun h => Bool.noConfusion h, fun i hi => ⟨upd_ne (by omega), upd_ne (by omega), upd_ne (by omega)⟩, fun i hi => by rw [upd_ne (by omega)]; exact mC3_lt hi⟩
    · -- 're', no 'b'
      rw [if_neg (fun e => hb (same2.mp e))]
      have l5 : lit n pS 5 p = 2 := lit_eq (fun k hk => by
        rcases (show k = 0 ∨ k = 1 by omega) with rfl | rfl
        · exact hf
        · exact he) (by decide) (fun _ => hb)
      obtain ⟨q, b, k1, -, k3, k4, x, y, k5⟩ := rem (p + 2, true) (by show p + 2 ≤ p + 8; omega) (Or.inr ⟨rfl, two1⟩)
      obtain ⟨k3, k6⟩ := k3 rfl
      rw [show fX7_removeOrRebuild_47 (II n) (II (p + 2)) (p_E (p + 2, true)) mI = some (114, x, y) from k5]
      rw [show fX7_removeOrRebuild_47 (II n) (II (p + 2, true).1) (p_E (p + 2, true)) mI = some (114, x, y) from k5] at k4
      refine fin q b x y k1 k4 (fun hbf => ?_) (fun hbt => ?_)
      · rw [hbf] at k6
        have h1 : lit n pS 1 p ≠ 7 := of_decide_eq_false k6.symm
        refine ⟨h1, by omega, ?_⟩
        rw [k3]
        unfold w_m
        split <;> omega
      · rw [hbt] at k6
        have h1 : lit n pS 1 p = 7 := of_decide_eq_true k6.symm
        exact ⟨h1, by omega⟩
  · have hnd : p_nd n pS 101 (p + 1, true) = (p + 1, false) := by
      unfold p_nd
      rw [if_pos rfl]
      exact if_neg (fun e => he (same1.mp e))
    have one1 : lit n pS 1 p = 1 := lit_eq (fun k hk => by rw [show k = 0 from by omega]; exact hf) (by decide) (fun _ => he)
    have one5 : lit n pS 5 p = 1 := lit_eq (fun k hk => by rw [show k = 0 from by omega]; exact hf) (by decide) (fun _ => he)
    rw [hnd]
    obtain ⟨q, b, k1, k2, -, k4, x, y, k5⟩ := rem (p + 1, false) (by show p + 1 ≤ p + 8; omega) (Or.inl rfl)
    obtain ⟨k2, k6⟩ := k2 rfl
    have g0 : (if 0 ≤ (II (p + 1, false).1, p_E (p + 1, false)).2 then fX7_removeOrRebuild_47 (II n) (II (p + 1, false).1, p_E (p + 1, false)).1 (II (p + 1, false).1, p_E (p + 1, false)).2 mI else ((fX7_sign (II n) (II (p + 1, false).1, p_E (p + 1, false)).1 mI).bind fun r3 => (if r3 = (98 : Int32) then ((fX7_letters (II n) (II (p + 1, false).1, p_E (p + 1, false)).1 (II (p + 1, false).1, p_E (p + 1, false)).2 mI (98 : Int32) (117 : Int32) (105 : Int32)).bind fun r5 => ((fX7_needs (II n) r5.1 r5.2 mI (108 : Int32)).bind fun r6 => ((fX7_needs (II n) r6.1 r6.2 mI (100 : Int32)).bind fun r7 => (some ((98 : Int32), r7.1, r7.2))))) else (fX7_removeOrRebuild_47 (II n) (II (p + 1, false).1, p_E (p + 1, false)).1 (II (p + 1, false).1, p_E (p + 1, false)).2 mI)))) = some (114, x, y) :=
      (if_pos (show (0 : Int32) ≤ II (p + 1) from n_0le (by omega))).trans k5
    rw [g0]
    rw [k5] at k4
    refine fin q b x y k1 k4 (fun _ => ⟨by omega, by omega, ?_⟩) (fun hbt => by rw [hbt] at k6; cases k6)
    rw [k2, one1, one5]
    rfl
/-- no command begins so -/
theorem b_cmd_no {n p j : Nat} {pS mI pV pO pW mC : Nat → Int32} (h : PT n pS mI) (hp : p ≤ 60) (hj : j < 60) (n0 : p_cs n pS p ≠ 112) (n1 : p_cs n pS p ≠ 114) (n2 : p_cs n pS p ≠ 107) (n3 : p_cs n pS p ≠ 108) (n4 : p_cs n pS p ≠ 115) (n6 : p_cs n pS p ≠ 99) : p_B p j pV pO pW mC n (fX4_readCommand (II n) (II p) (II j) pS pV pO pW) (fX7_command (II n) (II p) (-1) (II j) mI mC) := by
  have z0 : lit n pS 0 p = 0 := litz0 n0
  have z1 : lit n pS 1 p = 0 := litz0 n1
  have z2 : lit n pS 2 p = 0 := litz0 n2
  have z3 : lit n pS 3 p = 0 := litz0 n3
  have z4 : lit n pS 4 p = 0 := litz0 n4
  have z5 : lit n pS 5 p = 0 := litz0 n1
  have z6 : lit n pS 6 p = 0 := litz0 n6
  have ev : vr n pS p 7 0 0 = (-1, II p) := by
    rw [vr7, z0, z1, z2, z3, z4, z5, z6]
    rfl
  rw [r_command h (by omega) hj, if_neg, c_commandN h (by omega) hj ev]
  · exact ⟨p, false, _, _, _, _, rfl, rfl, by omega, fun h => Bool.noConfusion h, fun i hi => ⟨upd_ne (by omega), upd_ne (by omega), upd_ne (by omega)⟩, fun i hi => mC3_lt hi⟩
  · intro hh
    rcases hh with e | e | e | e | e | e
    · exact n0 ((p_same (by decide) (by decide)).mp e)
    · exact n1 ((p_same (by decide) (by decide)).mp e)
    · exact n2 ((p_same (by decide) (by decide)).mp e)
    · exact n3 ((p_same (by decide) (by decide)).mp e)
    · exact n4 ((p_same (by decide) (by decide)).mp e)
    · exact n6 ((p_same (by decide) (by decide)).mp e)
theorem b_command {n p j : Nat} {pS mI pV pO pW mC : Nat → Int32} (h : PT n pS mI) (hp : p ≤ 60) (hj : j < 60) : p_B p j pV pO pW mC n (fX4_readCommand (II n) (II p) (II j) pS pV pO pW) (fX7_command (II n) (II p) (-1) (II j) mI mC) := by
  by_cases h0 : p_cs n pS p = 112
  · exact b_cmd_0 h hp hj h0
  · by_cases h1 : p_cs n pS p = 114
    · exact b_cmd_r h hp hj h1
    · by_cases h2 : p_cs n pS p = 107
      · exact b_cmd_2 h hp hj h2
      · by_cases h3 : p_cs n pS p = 108
        · exact b_cmd_3 h hp hj h3
        · by_cases h4 : p_cs n pS p = 115
          · exact b_cmd_4 h hp hj h4
          · by_cases h6 : p_cs n pS p = 99
            · exact b_cmd_6 h hp hj h6
            · exact b_cmd_no h hp hj h0 h1 h2 h3 h4 h6
