/-! calls of both: run -/
/-! programs -/
theorem b_parse {n : Nat} {pS mI : Nat → Int32} (h : PT n pS mI) : ∀ f p j (pV pO pW mC : Nat → Int32), p ≤ 60 → 6 * j ≤ p → 60 - j < f → (∀ i, i < j → CRj (pV i) (pO i) (pW i) (mC (3 * i)) (mC (3 * i + 1)) (mC (3 * i + 2))) →
    ∃ ok p' j' pV' pO' pW' x' mC', fX4_parse_12 f (II n) (II p) (II j) pS pV pO pW (II j) = some (if ok = true then 1 else 0, II p', II j', pV', pO', pW') ∧ ((fX7_command (II n) (II p) (-1) (II j) mI mC).bind fun r1 => fX7_parse_19 f (II n) r1.1 r1.2.1 r1.2.2.1 mI r1.2.2.2) = some (x', p_E (p', ok), II j', mC') ∧ j' ≤ 60 ∧ p' ≤ 1000 ∧
      (ok = true → ∀ i, i < j' → CRj (pV' i) (pO' i) (pW' i) (mC' (3 * i)) (mC' (3 * i + 1)) (mC' (3 * i + 2)))
  | 0, p, j, _, _, _, _, _, _, hf, _ => by omega
  | f + 1, p, j, pV, pO, pW, mC, hp, hj, hf, hC => by
    have h60 := h.1
    obtain ⟨p', ok, pV', pO', pW', mC', e1, e2, l1, l2, l3, l4⟩ := b_command (pV := pV) (pO := pO) (pW := pW) (mC := mC) (j := j) h hp (by omega)
    have hC' : ok = true → ∀ i, i < j + 1 → CRj (pV' i) (pO' i) (pW' i) (mC' (3 * i)) (mC' (3 * i + 1)) (mC' (3 * i + 2)) := fun hok i hi => by
      by_cases e : i = j
      · subst e
        exact (l2 hok).2
      · obtain ⟨a, b, c⟩ := l3 i (by omega)
        rw [a, b, c, l4 (3 * i) (by omega), l4 (3 * i + 1) (by omega), l4 (3 * i + 2) (by omega)]
        exact hC i (by omega)
    unfold fX4_parse_12
    rw [if_neg (fun e : (60 : Int32) ≤ II j => by have := (n_le (a := 60) (by decide) (by omega)).mp e; omega), e1, ob, e2, ob]
    cases ok
    · refine ⟨false, p', j + 1, pV', pO', pW', II p', mC', if_pos rfl, ?_, by omega, by omega, fun h => Bool.noConfusion h⟩
      show fX7_parse_19 (f + 1) (II n) (II p') (II p') (II (j + 1)) mI mC' = _
      unfold fX7_parse_19 fX7_parse_52
      rw [if_pos (n_0le (by omega)), if_pos (n_0le (by omega))]
      rfl
    · obtain ⟨l5, -⟩ := l2 rfl
      have hgo : ∃ (ok : Bool) (p2 j' : Nat) (pV2 pO2 pW2 : Nat → Int32) (x' : Int32) (mC2 : Nat → Int32), (if II p' < II n then ((fX4_readSign (II n) (II p') pS (59 : Int32)).bind fun r5 => (if r5.1 = 0 then (some ((0 : Int32), r5.2, II (j + 1), pV', pO', pW')) else (fX4_parse_12 f (II n) r5.2 (II (j + 1)) pS pV' pO' pW' (II j + (1 : Int32))))) else (some ((1 : Int32), II p', II (j + 1), pV', pO', pW'))) = some (if ok = true then 1 else 0, II p2, II j', pV2, pO2, pW2) ∧ fX7_parse_19 (f + 1) (II n) (II p') (-1) (II (j + 1)) mI mC' = some (x', p_E (p2, ok), II j', mC2) ∧ j' ≤ 60 ∧ p2 ≤ 1000 ∧ (ok = true → ∀ i, i < j' → CRj (pV2 i) (pO2 i) (pW2 i) (mC2 (3 * i)) (mC2 (3 * i + 1)) (mC2 (3 * i + 2))) := by
        unfold fX7_parse_19 fX7_parse_52
        rw [if_neg (show ¬ (0 : Int32) ≤ -1 by decide), r_sign h (by omega), ob, c_readSign h (by omega), ob]
        have same := p_same (n := n) (q := p') (pS := pS) (L := 59) (by decide) (by decide)
        by_cases hpn : p' < n
        · rw [if_pos ((n_lt (by omega) (by omega)).mpr hpn)]
          by_cases h59 : p_cs n pS p' = 59
          · rw [if_pos h59, if_pos h59, if_pos (same.mpr h59), show II p' + (1 : Int32) = II (p' + 1) from n_add p' 1, show II j + (1 : Int32) = II (j + 1) from n_add j 1]
            obtain ⟨ok2, p2, j2, pV2, pO2, pW2, x2, mC2, q1, q2, q3⟩ := b_parse h f (p' + 1) (j + 1) pV' pO' pW' mC' (by omega) (by omega) (by omega) (hC' rfl)
            exact ⟨ok2, p2, j2, pV2, pO2, pW2, x2, mC2, (if_neg (show ¬ (1 : Int32) = 0 by decide)).trans q1, q2, q3⟩
          · rw [if_neg h59, if_neg h59, if_neg (fun e => h59 (same.mp e)), if_neg (show ¬ (0 : Int32) ≤ -1 by decide), if_neg (fun e : II n ≤ II p' => by have := (n_le (by omega) (by omega)).mp e; omega)]
            exact ⟨false, p', j + 1, pV', pO', pW', II p', mC', if_pos rfl, rfl, by omega, by omega, fun h => Bool.noConfusion h⟩
        · have h59 : ¬ p_rs n pS p' = 59 := by
            unfold p_rs
            rw [if_neg hpn]
            decide
          rw [if_neg (fun e => hpn ((n_lt (by omega) (by omega)).mp e)), if_neg h59, if_neg (show ¬ (0 : Int32) ≤ -1 by decide), if_pos ((n_le (by omega) (by omega)).mpr (by omega))]
          exact ⟨true, p', j + 1, pV', pO', pW', II p', mC', rfl, rfl, by omega, by omega, hC'⟩
      obtain ⟨ok2, p2, j2, pV2, pO2, pW2, x2, mC2, u1, u2⟩ := hgo
      exact ⟨ok2, p2, j2, pV2, pO2, pW2, x2, mC2, (if_neg (show ¬ (1 : Int32) = 0 by decide)).trans u1, u2⟩
/-- a command, executed by both -/
theorem b_exec {m mC pV pO pW : Nat → Int32} {cp kd sd lm fu tb rb gr : Int32} {K V : Nat → Int32} (O W : Nat → Int32) {i jn : Nat} (hi : i < jn) (hjn : jn ≤ 60) (hT : TR 0 m cp kd sd lm fu tb rb gr K V) (hC : CRj (pV i) (pO i) (pW i) (mC (3 * i)) (mC (3 * i + 1)) (mC (3 * i + 2))) (mre mex mfr : Int32) :
    ∃ r by1 cp' kd' sd' lm' fu' tb' rb' gr' K' V' O' W' mre' mex' mfr' m', fX6_execute cp kd sd lm fu tb rb gr K V O W (II jn) pV pO pW (II i) = some (r, cp', kd', sd', lm', fu', tb', rb', gr', K', V', O', W') ∧ fX7_does mre mex mfr m mC (II (3 * i)) = some (by1, mre', mex', mfr', m') ∧
      ((r = 1 ∧ by1 = 0 ∧ TR 0 m' cp' kd' sd' lm' fu' tb' rb' gr' K' V') ∨ (r = 0 ∧ by1 ≠ 0)) ∧ ∀ j, 200 ≤ j → j < 2400 → m' j = m j := by
  obtain ⟨c, kd, sd, lm, fu, tb, ⟨rfl, rfl, rfl, rfl, rfl, rfl⟩, hI, hR, g6, g7⟩ := hT
  have g6 : m 6 = rb := g6
  have g7 : m 7 = gr := g7
  have isc : fX4_isCommand (II jn) (II i) = some 1 := by
    unfold fX4_isCommand
    rw [if_neg (n_nlt0 (by omega)), if_neg (fun e : II jn ≤ II i => by have := (n_le (by omega) (by omega)).mp e; omega), if_neg (fun e : (60 : Int32) ≤ II i => by have := (n_le (a := 60) (by decide) (by omega)).mp e; omega)]
  have eO : fX4_operandOf (II jn) pO (II i) = some (pO i) := by
    unfold fX4_operandOf
    rw [isc, ob, if_neg i1n0, if_pos (n_in (by omega) (by omega)), n_cl (by omega)]
  have eV : fX4_verbOf (II jn) pV (II i) = some (pV i) := by
    unfold fX4_verbOf
    rw [isc, ob, if_neg i1n0, if_pos (n_in (by omega) (by omega)), n_cl (by omega)]
  have eW : fX4_valueOf (II jn) pW (II i) = some (pW i) := by
    unfold fX4_valueOf
    rw [isc, ob, if_neg i1n0, if_pos (n_in (by omega) (by omega)), n_cl (by omega)]
  have d1 : II (3 * i) + (1 : Int32) = II (3 * i + 1) := n_add (3 * i) 1
  have d2 : II (3 * i) + (2 : Int32) = II (3 * i + 2) := n_add (3 * i) 2
  unfold fX6_execute fX7_does
  rw [eO, ob, eV, ob, eW, d1, d2, if_pos (n_in (by omega) (by omega)), if_pos (n_in (by omega) (by omega)), if_pos (n_in (by omega) (by omega)), n_cl (by omega), n_cl (by omega), n_cl (by omega)]
  rcases hC with ⟨v0, a0, b0, c0, ⟨k, hk, o0⟩, w1⟩ | ⟨v0, a0, b0, k, hk, o0⟩ | ⟨v0, a0, b0, k, hk, o0⟩ | ⟨v0, a0, b0, k, hk, o0⟩ | ⟨v0, a0, b0, k, hk, o0⟩ | ⟨v0, a0⟩ | ⟨v0, a0⟩
  · rw [v0, a0, b0, c0, o0, if_pos rfl, if_neg (show ¬ (112 : Int32) = 98 by decide), if_neg (show ¬ (112 : Int32) = 107 by decide), if_neg (show ¬ (112 : Int32) = 108 by decide), if_pos (show (112 : Int32) = 112 from rfl), ob]
    obtain ⟨r, d6, d7, c', fu', tb', K', V', O', W', q1, q2, q3, -, q5⟩ := b_enter hI hk w1 O W rb gr
    obtain ⟨mex1, mfr1, m1, p1, p2, p3, p4, p5⟩ := q5 m mre mex mfr hR
    rw [q1, ob, p1, ob]
    have hr : hl_nar .boolean r = true := by
      rcases q3 with e | e
      · rw [e]; exact r_nar1
      · rw [e.1]; exact r_nar0
    refine ⟨r, _, _, _, _, _, _, _, _, _, _, _, _, _, _, _, _, _, if_pos hr, rfl, ?_, p5⟩
    rcases q3 with e | e
    · exact Or.inl ⟨e, if_pos e, c', kd, sd, lm, fu', tb', ⟨rfl, rfl, rfl, rfl, rfl, rfl⟩, q2, p2, by rw [← g6]; exact p3, by rw [← g7]; exact p4⟩
    · refine Or.inr ⟨e.1, ?_⟩
      show (if r = 1 then (0 : Int32) else 2) ≠ 0
      rw [e.1]
      decide
  · rw [v0, a0, b0, o0, if_neg (show ¬ (1 : Int32) = 0 by decide), if_pos rfl, if_neg (show ¬ (114 : Int32) = 98 by decide), if_neg (show ¬ (114 : Int32) = 107 by decide), if_neg (show ¬ (114 : Int32) = 108 by decide), if_neg (show ¬ (114 : Int32) = 112 by decide), if_pos (show (114 : Int32) = 114 from rfl), c_hold hI.cok hI.kd2 hI.sd9 hk hI.emp, ob]
    have hs9 := hs_64 (kd := kd) (sd := sd) (k := k) (K := K) hI.cok
    by_cases hf : K (hs c kd sd K k) = II k
    · have hp0 : 0 ≤ K (hs c kd sd K k) := by rw [hf]; exact n_0le (by omega)
      obtain ⟨mex1, mfr1, m1, p1, p2, p3, p4, p5⟩ := r_removes hI hR hk hf mre mex mfr
      rw [if_pos hf, c_bury hI hs9 hp0, ob, p1, ob]
      exact ⟨1, _, _, _, _, _, _, _, _, _, _, _, _, _, _, _, _, _, if_pos r_nar1, rfl, Or.inl ⟨rfl, rfl, c, kd, sd, lm, fu - 1, tb + 1, ⟨rfl, rfl, rfl, rfl, rfl, rfl⟩, hI.bury hs9 hp0, p2, p3.trans g6, p4.trans g7⟩, fun j a _ => p5 j a⟩
    · obtain ⟨mex1, mfr1, p1⟩ := r_removesN (x := II k) hI hR (fun ⟨k2, hk2, e2, e3⟩ => hf (by
        have := (n_eq (by omega) (by omega)).mp e2
        rw [this]
        exact e3)) mre mex mfr
      rw [if_neg hf, c_buryN, ob, p1, ob]
      exact ⟨0, _, _, _, _, _, _, _, _, _, _, _, _, _, _, _, _, _, if_pos r_nar0, rfl, Or.inr ⟨rfl, (by decide : (2 : Int32) ≠ 0)⟩, fun _ _ _ => rfl⟩
  · rw [v0, a0, b0, o0, if_neg (show ¬ (2 : Int32) = 0 by decide), if_neg (show ¬ (2 : Int32) = 1 by decide), if_pos rfl, if_neg (show ¬ (107 : Int32) = 98 by decide), if_pos (show (107 : Int32) = 107 from rfl)]
    obtain ⟨K', V', q1, q2, -, -, q5⟩ := b_rebuild (c' := c) (kd := k) (sd := sd) (O := O) (W := W) hI hI.cok hk hI.sd9 (by have := hI.ft; omega) rb gr
    have hR9 : Rw 0 c k sd lm fu tb K V (upd m 3 (II k)) := ⟨by rw [upd_ne (by omega)]; exact hR.c0, by rw [upd_ne (by omega)]; exact hR.c1, by rw [upd_ne (by omega)]; exact hR.c2, upd_at _ _ _, by rw [upd_ne (by omega)]; exact hR.c4, by rw [upd_ne (by omega)]; exact hR.c5, fun s hs => by rw [upd_ne (by omega), upd_ne (by omega), upd_ne (by omega)]; exact hR.2.2.2.2.2.2 s hs⟩
    obtain ⟨mex1, mfr1, m1, p1, p2, p3, p4, p5⟩ := q5 (upd m 3 (II k)) mex mfr hR9
    rw [if_pos (Nat.le_refl _)] at q1 p4
    rw [upd_ne (by omega)] at p3 p4
    unfold fX5_changeKind fX7_turns
    rw [q1, ob, ob, r_inY (x := II k) (a := 0) (b := 2) ⟨n_0le (by omega), (n_le (b := 2) (by omega) (by decide)).mpr hk⟩, ob, if_neg i1n0, show hl_in (3 : Int32) 2600 = true from by decide, if_pos rfl, if_pos rfl, show (3 : Int32).toNatClampNeg = 3 from by decide, upd_ne (f := m) (j := 0) (by omega), hR.c0, p1, ob, ob]
    exact ⟨1, _, _, _, _, _, _, _, _, _, _, _, _, _, _, _, _, _, rfl, rfl, Or.inl ⟨rfl, rfl, c, k, sd, lm, fu, 0, ⟨rfl, rfl, rfl, rfl, rfl, rfl⟩, q2, p2, p3.trans (congrArg (· + 1) g6), p4.trans g7⟩, fun j a b => (p5 j a b).trans (upd_ne (by omega))⟩
  · rw [v0, a0, b0, o0, if_neg (show ¬ (3 : Int32) = 0 by decide), if_neg (show ¬ (3 : Int32) = 1 by decide), if_neg (show ¬ (3 : Int32) = 2 by decide), if_pos rfl, if_neg (show ¬ (108 : Int32) = 98 by decide), if_neg (show ¬ (108 : Int32) = 107 by decide), if_pos (show (108 : Int32) = 108 from rfl)]
    unfold fX6_isLimit fX7_limits
    by_cases hx : (25 : Int32) ≤ II k ∧ II k ≤ (90 : Int32)
    · have hk1 : 25 ≤ k := (n_le (a := 25) (by decide) (by omega)).mp hx.1
      have hk2 : k ≤ 90 := (n_le (b := 90) (by omega) (by decide)).mp hx.2
      rw [if_neg (i_nlt.mpr hx.1), if_neg (i_nlt.mpr hx.2), ob, if_neg i1n0, r_inY (x := II k) (a := 25) (b := 90) hx, ob, if_neg i1n0, ob]
      have hq : Rw 0 c kd sd k fu tb K V (upd m 5 (II k)) := ⟨by rw [upd_ne (by omega)]; exact hR.c0, by rw [upd_ne (by omega)]; exact hR.c1, by rw [upd_ne (by omega)]; exact hR.c2, by rw [upd_ne (by omega)]; exact hR.c3, by rw [upd_ne (by omega)]; exact hR.c4, upd_at _ _ _, fun s hs => by rw [upd_ne (by omega), upd_ne (by omega), upd_ne (by omega)]; exact hR.2.2.2.2.2.2 s hs⟩
      have u6 : upd m 5 (II k) 6 = rb := by rw [upd_ne (by omega)]; exact g6
      have u7 : upd m 5 (II k) 7 = gr := by rw [upd_ne (by omega)]; exact g7
      have uf : ∀ j, 200 ≤ j → j < 2400 → upd m 5 (II k) j = m j := fun j a b => upd_ne (by omega)
      exact ⟨1, _, _, _, _, _, _, _, _, _, _, _, _, _, _, _, _, _, rfl, rfl, Or.inl ⟨rfl, rfl, c, kd, sd, k, fu, tb, ⟨rfl, rfl, rfl, rfl, rfl, rfl⟩, ⟨hI.1, hI.2.1, hI.2.2.1, ⟨hk1, hk2⟩, hI.2.2.2.2⟩, hq, u6, u7⟩, uf⟩
    · have e0 : (if II k < (25 : Int32) then (some (0 : Int32)) else (if (90 : Int32) < II k then (some (0 : Int32)) else (some (1 : Int32)))) = some 0 := by
        by_cases z0 : II k < (25 : Int32)
        · rw [if_pos z0]
        · rw [if_neg z0]
          by_cases z1 : (90 : Int32) < II k
          · rw [if_pos z1]
          · exact absurd ⟨i_nlt.mp z0, i_nlt.mp z1⟩ hx
      rw [e0, ob, if_pos rfl, r_inN hx, ob, if_pos rfl, ob]
      exact ⟨0, _, _, _, _, _, _, _, _, _, _, _, _, _, _, _, _, _, rfl, rfl, Or.inr ⟨rfl, (by decide : (1 : Int32) ≠ 0)⟩, fun _ _ _ => rfl⟩
  · rw [v0, a0, b0, o0, if_neg (show ¬ (4 : Int32) = 0 by decide), if_neg (show ¬ (4 : Int32) = 1 by decide), if_neg (show ¬ (4 : Int32) = 2 by decide), if_neg (show ¬ (4 : Int32) = 3 by decide), if_pos rfl, if_neg (show ¬ (115 : Int32) = 98 by decide), if_neg (show ¬ (115 : Int32) = 107 by decide), if_neg (show ¬ (115 : Int32) = 108 by decide), if_neg (show ¬ (115 : Int32) = 112 by decide), if_neg (show ¬ (115 : Int32) = 114 by decide), if_pos (show (115 : Int32) = 115 from rfl)]
    obtain ⟨K', V', q1, q2, -, -, q5⟩ := b_rebuild (c' := c) (kd := kd) (sd := k) (O := O) (W := W) hI hI.cok hI.kd2 hk (by have := hI.ft; omega) rb gr
    have hR9 : Rw 0 c kd k lm fu tb K V (upd m 4 (II k)) := ⟨by rw [upd_ne (by omega)]; exact hR.c0, by rw [upd_ne (by omega)]; exact hR.c1, by rw [upd_ne (by omega)]; exact hR.c2, by rw [upd_ne (by omega)]; exact hR.c3, upd_at _ _ _, by rw [upd_ne (by omega)]; exact hR.c5, fun s hs => by rw [upd_ne (by omega), upd_ne (by omega), upd_ne (by omega)]; exact hR.2.2.2.2.2.2 s hs⟩
    obtain ⟨mex1, mfr1, m1, p1, p2, p3, p4, p5⟩ := q5 (upd m 4 (II k)) mex mfr hR9
    rw [if_pos (Nat.le_refl _)] at q1 p4
    rw [upd_ne (by omega)] at p3 p4
    unfold fX5_changeSeed fX7_turns
    rw [q1, ob, ob, r_inY (x := II k) (a := 0) (b := 999) ⟨n_0le (by omega), (n_le (b := 999) (by omega) (by decide)).mpr hk⟩, ob, if_neg i1n0, show hl_in (4 : Int32) 2600 = true from by decide, if_pos rfl, if_pos rfl, show (4 : Int32).toNatClampNeg = 4 from by decide, upd_ne (f := m) (j := 0) (by omega), hR.c0, p1, ob, ob]
    exact ⟨1, _, _, _, _, _, _, _, _, _, _, _, _, _, _, _, _, _, rfl, rfl, Or.inl ⟨rfl, rfl, c, kd, k, lm, fu, 0, ⟨rfl, rfl, rfl, rfl, rfl, rfl⟩, q2, p2, p3.trans (congrArg (· + 1) g6), p4.trans g7⟩, fun j a b => (p5 j a b).trans (upd_ne (by omega))⟩
  · rw [v0, a0, if_neg (show ¬ (5 : Int32) = 0 by decide), if_neg (show ¬ (5 : Int32) = 1 by decide), if_neg (show ¬ (5 : Int32) = 2 by decide), if_neg (show ¬ (5 : Int32) = 3 by decide), if_neg (show ¬ (5 : Int32) = 4 by decide), if_pos rfl, if_pos (show (98 : Int32) = 98 from rfl)]
    obtain ⟨K', V', q1, q2, -, -, q5⟩ := b_rebuild (c' := c) (kd := kd) (sd := sd) (O := O) (W := W) hI hI.cok hI.kd2 hI.sd9 (by have := hI.ft; omega) rb gr
    obtain ⟨mex1, mfr1, m1, p1, p2, p3, p4, p5⟩ := q5 m mex mfr hR
    rw [if_pos (Nat.le_refl _)] at q1 p4
    unfold fX7_rebuildsNow
    rw [q1, ob, hR.c0, p1, ob, ob]
    exact ⟨1, _, _, _, _, _, _, _, _, _, _, _, _, _, _, _, _, _, rfl, rfl, Or.inl ⟨rfl, rfl, c, kd, sd, lm, fu, 0, ⟨rfl, rfl, rfl, rfl, rfl, rfl⟩, q2, p2, p3.trans (congrArg (· + 1) g6), p4.trans g7⟩, p5⟩
  · rw [v0, a0, if_neg (show ¬ (6 : Int32) = 0 by decide), if_neg (show ¬ (6 : Int32) = 1 by decide), if_neg (show ¬ (6 : Int32) = 2 by decide), if_neg (show ¬ (6 : Int32) = 3 by decide), if_neg (show ¬ (6 : Int32) = 4 by decide), if_neg (show ¬ (6 : Int32) = 5 by decide), if_pos rfl, if_neg (show ¬ (99 : Int32) = 98 by decide), if_neg (show ¬ (99 : Int32) = 107 by decide), if_neg (show ¬ (99 : Int32) = 108 by decide), if_neg (show ¬ (99 : Int32) = 112 by decide), if_neg (show ¬ (99 : Int32) = 114 by decide), if_neg (show ¬ (99 : Int32) = 115 by decide)]
    obtain ⟨m1, p1, p2, p3⟩ := r_empties (mA := m) (c := 8) (kd := kd) (sd := sd) (lm := lm) (K := K) (V := V) hR.c3 hR.c4 hR.c5
    unfold fX7_clears
    rw [c_empty, ob, show fX7_empties m (8 : Int32) = some m1 from p1, ob, ob]
    exact ⟨1, _, _, _, _, _, _, _, _, _, _, _, _, _, _, _, _, _, rfl, rfl, Or.inl ⟨rfl, rfl, 8, kd, sd, lm, 0, 0, ⟨rfl, rfl, rfl, rfl, rfl, rfl⟩, Inv.empty (Or.inl rfl) hI.kd2 hI.sd9 hI.lm9, p2, (p3 6 (by omega)).trans g6, (p3 7 (by omega)).trans g7⟩, fun j a b => p3 j (Or.inr a)⟩
theorem b_run_55 {m0 mC pV pO pW : Nat → Int32} {jn : Nat} (hjn : jn ≤ 60) (hC : ∀ i, i < jn → CRj (pV i) (pO i) (pW i) (mC (3 * i)) (mC (3 * i + 1)) (mC (3 * i + 2))) (rpo rco bcp bkd bsd blm bfu btb brb bgr : Int32) (bK bV : Nat → Int32) (hnw hct pp : Int32) (pS : Nat → Int32) (hp : Nat → hTT) (mth mch mhe mer mea mfa : Int32) (mI : Nat → Int32) : ∀ f i (cp kd sd lm fu tb rb gr : Int32) (K V O W : Nat → Int32) (mre mex mfr : Int32) (m : Nat → Int32),
    TR 0 m cp kd sd lm fu tb rb gr K V → (∀ j, 200 ≤ j → j < 2400 → m j = m0 j) → i ≤ jn → jn - i < f →
    ∃ i' cp' kd' sd' lm' fu' tb' rb' gr' K' V' O' W' mre' mex' mfr' m', fX6_run_55 f rpo rco cp kd sd lm fu tb rb gr K V O W bcp bkd bsd blm bfu btb brb bgr bK bV hnw hct 0 pp (II jn) pS pV pO pW hp (II i) = fX6_run_80 rpo rco cp' kd' sd' lm' fu' tb' rb' gr' K' V' O' W' bcp bkd bsd blm bfu btb brb bgr bK bV hnw hct 0 pp (II jn) pS pV pO pW hp (II i') ∧
      fX7_run_37 f mth mch mre mex mfr 0 mhe mer mea mfa (II jn) m mI mC (II i) = fX7_run_61 mth mch mre' mex' mfr' 0 mhe mer mea mfa (II jn) m' mI mC (II i') ∧ i' ≤ jn ∧ (∀ j, 200 ≤ j → j < 2400 → m' j = m0 j) ∧ (i' = jn → TR 0 m' cp' kd' sd' lm' fu' tb' rb' gr' K' V')
  | 0, i, _, _, _, _, _, _, _, _, _, _, _, _, _, _, _, _, _, _, _, hf => by omega
  | f + 1, i, cp, kd, sd, lm, fu, tb, rb, gr, K, V, O, W, mre, mex, mfr, m, hT, hm, hi, hf => by
    unfold fX6_run_55 fX7_run_37
    by_cases e : jn ≤ i
    · have z : II jn ≤ II i := (n_le (by omega) (by omega)).mpr e
      rw [if_pos z, if_pos z]
      exact ⟨i, _, _, _, _, _, _, _, _, _, _, _, _, _, _, _, _, rfl, rfl, hi, hm, fun _ => hT⟩
    · have z : ¬ II jn ≤ II i := fun e2 => e ((n_le (by omega) (by omega)).mp e2)
      obtain ⟨r, by1, cp', kd', sd', lm', fu', tb', rb', gr', K', V', O', W', mre', mex', mfr', m', q1, q2, q3, q4⟩ := b_exec O W (i := i) (jn := jn) (by omega) hjn hT (hC i (by omega)) mre mex mfr
      rw [if_neg z, if_neg z, q1, ob, show (3 : Int32) * II i = II (3 * i) from n_mul 3 i, q2, ob, show II i + (1 : Int32) = II (i + 1) from n_add i 1]
      have hm' : ∀ j, 200 ≤ j → j < 2400 → m' j = m0 j := fun j a b => by rw [q4 j a b]; exact hm j a b
      rcases q3 with ⟨rfl, rfl, hT'⟩ | ⟨rfl, hb⟩
      · obtain ⟨i', cp2, kd2, sd2, lm2, fu2, tb2, rb2, gr2, K2, V2, O2, W2, mre2, mex2, mfr2, m2, p1, p2, p3⟩ := b_run_55 hjn hC rpo rco bcp bkd bsd blm bfu btb brb bgr bK bV hnw hct pp pS hp mth mch mhe mer mea mfa mI f (i + 1) cp' kd' sd' lm' fu' tb' rb' gr' K' V' O' W' mre' mex' mfr' m' hT' hm' (by omega) (by omega)
        exact ⟨i', cp2, kd2, sd2, lm2, fu2, tb2, rb2, gr2, K2, V2, O2, W2, mre2, mex2, mfr2, m2, (if_neg (show ¬ (1 : Int32) = 0 by decide)).trans p1, (if_pos rfl).trans p2, p3⟩
      · exact ⟨i, cp', kd', sd', lm', fu', tb', rb', gr', K', V', O', W', mre', mex', mfr', m', if_pos rfl, if_neg hb, hi, hm', fun e3 => by omega⟩
set_option maxHeartbeats 2000000 in
theorem k_run {isv : Int32} {rpo : Int32} {rco : Int32} {tcp : Int32} {tkd : Int32} {tsd : Int32} {tlm : Int32} {tfu : Int32} {ttb : Int32} {trb : Int32} {tgr : Int32} {tK : Nat → Int32} {tV : Nat → Int32} {wcp : Int32} {wkd : Int32} {wsd : Int32} {wlm : Int32} {wfu : Int32} {wtb : Int32} {wrb : Int32} {wgr : Int32} {wK : Nat → Int32} {wV : Nat → Int32} {hnw : Int32} {hct : Int32} {hp : Nat → hTT} {pl : Int32} {pS : Nat → Int32} {ln : Int32} {lS : Nat → Int32} {mch : Int32} {msv : Int32} {mls : Int32} {mty : Int32} {mea : Int32} {mfa : Int32} {mA : Nat → Int32} {mL : Nat → Int32} {mI : Nat → Int32} {tO : Nat → Int32} {tW : Nat → Int32} {bcp : Int32} {bkd : Int32} {bsd : Int32} {blm : Int32} {bfu : Int32} {btb : Int32} {brb : Int32} {bgr : Int32} {bK : Nat → Int32} {bV : Nat → Int32} {pp : Int32} {pn : Int32} {pV : Nat → Int32} {pO : Nat → Int32} {pW : Nat → Int32} {mth : Int32} {mre : Int32} {mex : Int32} {mfr : Int32} {mhe : Int32} {mer : Int32} {mcm : Int32} {mC : Nat → Int32} (h : Rel isv rpo rco tcp tkd tsd tlm tfu ttb trb tgr tK tV wcp wkd wsd wlm wfu wtb wrb wgr wK wV hnw hct hp pl pS ln lS mch msv mls mty mea mfa mA mL mI) : ∃ out out2, fX6_run rpo rco tcp tkd tsd tlm tfu ttb trb tgr tK tV tO tW bcp bkd bsd blm bfu btb brb bgr bK bV hnw hct pl pp pn pS pV pO pW hp = some out ∧ fX7_run mth mch mre mex mfr mty mhe mer mea mfa mcm mA mI mC = some out2 ∧ (∀ k1, out.1 = .inr k1 → k1 = 1 ∨ k1 = 6) ∧ out2.2.1 = hcd [1, 6] out.1 ∧ (∀ v, out.1 = .inl v → v = out2.1) ∧ Rel isv out.2.1 out.2.2.1 out.2.2.2.1 out.2.2.2.2.1 out.2.2.2.2.2.1 out.2.2.2.2.2.2.1 out.2.2.2.2.2.2.2.1 out.2.2.2.2.2.2.2.2.1 out.2.2.2.2.2.2.2.2.2.1 out.2.2.2.2.2.2.2.2.2.2.1 out.2.2.2.2.2.2.2.2.2.2.2.1 out.2.2.2.2.2.2.2.2.2.2.2.2.1 wcp wkd wsd wlm wfu wtb wrb wgr wK wV out.2.2.2.2.2.2.2.2.2.2.2.2.2.2.2.2.2.2.2.2.2.2.2.2.2.1 out.2.2.2.2.2.2.2.2.2.2.2.2.2.2.2.2.2.2.2.2.2.2.2.2.2.2.1 out.2.2.2.2.2.2.2.2.2.2.2.2.2.2.2.2.2.2.2.2.2.2.2.2.2.2.2.2.2.2.2.2.2 out.2.2.2.2.2.2.2.2.2.2.2.2.2.2.2.2.2.2.2.2.2.2.2.2.2.2.2.1 pS ln lS out2.2.2.1 msv mls out2.2.2.2.2.2.2.1 out2.2.2.2.2.2.2.2.2.2.1 out2.2.2.2.2.2.2.2.2.2.2.1 out2.2.2.2.2.2.2.2.2.2.2.2.2.1 mL mI := by
  have hO := h
  obtain ⟨h1, h2, h3, h6, ⟨n, hn, rfl, rfl, hl⟩, h8, h9⟩ := h
  have hPT : PT n pS mI := ⟨hn, hl⟩
  obtain ⟨ok, p', j', pV', pO', pW', x', mC', q1, q2, q3, q4, q5⟩ := b_parse hPT 1000 0 0 pV pO pW mC (by omega) (by omega) (by omega) (fun i hi => absurd hi (Nat.not_lt_zero _))
  have e6p : fX4_parse (II n) pp pn pS pV pO pW = some (if ok = true then 1 else 0, II p', II j', pV', pO', pW') := q1
  have e7p : fX7_parse (II n) mhe mer mcm mI mC = some (x', p_E (p', ok), II j', mC') := q2
  have h7' : ∃ n, n ≤ 60 ∧ (0 : Int32) = II n ∧ (0 : Int32) = II n ∧ ∀ i, i < n → mI i = pS i ∧ hl_nar .char (pS i) = true := ⟨0, by omega, rfl, rfl, fun i hi => absurd hi (Nat.not_lt_zero _)⟩
  cases ok
  · have e6 : fX6_run rpo rco tcp tkd tsd tlm tfu ttb trb tgr tK tV tO tW bcp bkd bsd blm bfu btb brb bgr bK bV hnw hct (II n) pp pn pS pV pO pW hp = some (Sum.inr 1, II p', rco, tcp, tkd, tsd, tlm, tfu, ttb, trb, tgr, tK, tV, tO, tW, bcp, bkd, bsd, blm, bfu, btb, brb, bgr, bK, bV, hnw, hct, 0, II p', II j', pV', pO', pW', hp) := by
      unfold fX6_run
      rw [e6p, ob]
      exact if_pos rfl
    have e7 : fX7_run mth mch mre mex mfr (II n) mhe mer mea mfa mcm mA mI mC = some (0, 1, mch, mre, mex, mfr, 0, x', II p', II p', mfa, II j', mA, mC') := by
      unfold fX7_run
      rw [e7p, ob]
      exact if_neg (show ¬ II p' < (0 : Int32) from n_nlt0 (by omega))
    exact ⟨_, _, e6, e7, fun k1 e => Or.inl (eq_r e), rfl, fun v e => (no_rl e).elim, h1, h2, h3, h6, h7', rfl, h9⟩
  · have hC := q5 rfl
    -- the state before, as the class keeps it
    have hB : Rel isv rpo rco tcp tkd tsd tlm tfu ttb trb tgr (va_cpy tK bK 0 0 64) (va_cpy tV bV 0 0 64) wcp wkd wsd wlm wfu wtb wrb wgr wK wV hnw hct hp (II n) pS ln lS mch msv mls (II n) mea mfa mA mL mI := ⟨TR.cong h1 (fun s hs => cpy_at hs) (fun s hs => cpy_at hs), h2, h3, h6, ⟨n, hn, rfl, rfl, hl⟩, h8, h9⟩
    obtain ⟨hnw', hct', hp', mch', s1, s2⟩ := chg hB
    have hT0 : TR 0 (cpR mA 0 10) tcp tkd tsd tlm tfu ttb trb tgr tK tV := TR.move h1 (fun i hi => cp10_low (by omega))
    obtain ⟨i', cp', kd', sd', lm', fu', tb', rb', gr', K', V', O', W', mre', mex', mfr', m', r1, r2, r3, r4, r5⟩ := b_run_55 (m0 := cpR mA 0 10) q3 hC rpo rco tcp tkd tsd tlm tfu ttb trb tgr (va_cpy tK bK 0 0 64) (va_cpy tV bV 0 0 64) hnw hct (II p') pS hp mth mch x' (-1) mea mfa mI 1000 0 tcp tkd tsd tlm tfu ttb trb tgr tK tV tO tW mre mex mfr (cpR mA 0 10) hT0 (fun _ _ _ => rfl) (by omega) (by omega)
    have e6a : fX6_run rpo rco tcp tkd tsd tlm tfu ttb trb tgr tK tV tO tW bcp bkd bsd blm bfu btb brb bgr bK bV hnw hct (II n) pp pn pS pV pO pW hp = fX6_run_80 rpo rco cp' kd' sd' lm' fu' tb' rb' gr' K' V' O' W' tcp tkd tsd tlm tfu ttb trb tgr (va_cpy tK bK 0 0 64) (va_cpy tV bV 0 0 64) hnw hct 0 (II p') (II j') pS pV' pO' pW' hp (II i') := by
      unfold fX6_run
      rw [e6p, ob]
      refine (if_neg (show ¬ (1 : Int32) = 0 by decide)).trans ?_
      rw [c_copyFrom, ob]
      exact r1
    have e7a : fX7_run mth mch mre mex mfr (II n) mhe mer mea mfa mcm mA mI mC = fX7_run_61 mth mch mre' mex' mfr' 0 x' (-1) mea mfa (II j') m' mI mC' (II i') := by
      unfold fX7_run
      rw [e7p, ob]
      refine (if_pos (show (-1 : Int32) < 0 by decide)).trans ?_
      rw [r_begins, ob]
      exact r2
    by_cases hd : i' = j'
    · subst hd
      obtain ⟨m2, t1, t2⟩ := s2 m' cp' kd' sd' lm' fu' tb' rb' gr' K' V' r4 (r5 rfl)
      have e6 : fX6_run rpo rco tcp tkd tsd tlm tfu ttb trb tgr tK tV tO tW bcp bkd bsd blm bfu btb brb bgr bK bV hnw hct (II n) pp pn pS pV pO pW hp = some (Sum.inl (II i'), rpo, rco, cp', kd', sd', lm', fu', tb', rb', gr', K', V', O', W', tcp, tkd, tsd, tlm, tfu, ttb, trb, tgr, va_cpy tK bK 0 0 64, va_cpy tV bV 0 0 64, hnw', hct', 0, II p', II i', pV', pO', pW', hp') := by
        rw [e6a]
        unfold fX6_run_80
        rw [if_pos ((n_le (by omega) (by omega)).mpr (Nat.le_refl _)), s1, ob]
      have e7 : fX7_run mth mch mre mex mfr (II n) mhe mer mea mfa mcm mA mI mC = some (II i', 0, mch', II i', mex', mfr', 0, x', -1, mea, mfa, II i', m2, mC') := by
        rw [e7a]
        unfold fX7_run_61 fX7_run_88
        rw [if_pos rfl, if_neg i1n0, if_neg i1n0]
        have e9 : fX7_ends mth mch (II i') m' 0 0 2 = some (II i', 0, mch', m2) := by
          unfold fX7_ends
          rw [if_neg (by decide), if_neg (by decide)]
          exact t1 mth _
        rw [e9, ob]
      obtain ⟨u1, u2, u3, u6, -, u8, u9⟩ := t2
      exact ⟨_, _, e6, e7, fun k1 e => (no_lr e).elim, rfl, fun v e => eq_l e, u1, u2, u3, u6, h7', u8, u9⟩
    · have e6 : fX6_run rpo rco tcp tkd tsd tlm tfu ttb trb tgr tK tV tO tW bcp bkd bsd blm bfu btb brb bgr bK bV hnw hct (II n) pp pn pS pV pO pW hp = some (Sum.inr 6, rpo, II i', tcp, tkd, tsd, tlm, tfu, ttb, trb, tgr, va_cpy (va_cpy tK bK 0 0 64) K' 0 0 64, va_cpy (va_cpy tV bV 0 0 64) V' 0 0 64, O', W', tcp, tkd, tsd, tlm, tfu, ttb, trb, tgr, va_cpy tK bK 0 0 64, va_cpy tV bV 0 0 64, hnw, hct, 0, II p', II j', pV', pO', pW', hp) := by
        rw [e6a]
        unfold fX6_run_80
        rw [if_neg (fun e : II j' ≤ II i' => by have := (n_le (by omega) (by omega)).mp e; omega), c_copyFrom, ob]
      have e7 : fX7_run mth mch mre mex mfr (II n) mhe mer mea mfa mcm mA mI mC = some (0, 2, mch, II j', mex', mfr', 0, x', -1, mea, II i', II j', cpR m' 10 0, mC') := by
        rw [e7a]
        unfold fX7_run_61 fX7_run_88
        rw [if_neg (fun e : II i' = II j' => hd ((n_eq (by omega) (by omega)).mp e)), if_pos rfl, if_pos rfl]
        have e9 : fX7_ends mth mch (II j') m' 2 0 2 = some (0, 2, mch, cpR m' 10 0) := by
          unfold fX7_ends
          rw [if_neg (by decide), if_pos rfl]
          exact r_endsF (by decide)
        rw [e9, ob]
      obtain ⟨u1, u2, u3, u6, -, u8, u9⟩ := chgN hB m' r4
      exact ⟨_, _, e6, e7, fun k1 e => Or.inr (eq_r e), rfl, fun v e => (no_rl e).elim, TR.cong u1 (fun s hs => cpy_at hs) (fun s hs => cpy_at hs), u2, u3, u6, h7', u8, rfl⟩
