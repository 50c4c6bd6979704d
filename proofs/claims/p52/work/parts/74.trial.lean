/-! calls of both: trial bestKind -/
/-! trials -/
def eE (K : Nat → Int32) : Nat → Int32 := eK K

theorem Rel.off {isv : Int32} {rpo : Int32} {rco : Int32} {tcp : Int32} {tkd : Int32} {tsd : Int32} {tlm : Int32} {tfu : Int32} {ttb : Int32} {trb : Int32} {tgr : Int32} {tK : Nat → Int32} {tV : Nat → Int32} {wcp : Int32} {wkd : Int32} {wsd : Int32} {wlm : Int32} {wfu : Int32} {wtb : Int32} {wrb : Int32} {wgr : Int32} {wK : Nat → Int32} {wV : Nat → Int32} {hnw : Int32} {hct : Int32} {hp : Nat → hTT} {pl : Int32} {pS : Nat → Int32} {ln : Int32} {lS : Nat → Int32} {mch : Int32} {msv : Int32} {mls : Int32} {mty : Int32} {mea : Int32} {mfa : Int32} {mA : Nat → Int32} {mL : Nat → Int32} {mI : Nat → Int32} {mA' : Nat → Int32} (h : Rel isv rpo rco tcp tkd tsd tlm tfu ttb trb tgr tK tV wcp wkd wsd wlm wfu wtb wrb wgr wK wV hnw hct hp pl pS ln lS mch msv mls mty mea mfa mA mL mI) (hm : ∀ i, i < 2000 → mA' i = mA i) : Rel isv rpo rco tcp tkd tsd tlm tfu ttb trb tgr tK tV wcp wkd wsd wlm wfu wtb wrb wgr wK wV hnw hct hp pl pS ln lS mch msv mls mty mea mfa mA' mL mI := by
  obtain ⟨h1, h2, ⟨h3, h4, h5⟩, h6, h7, h8, h9⟩ := h
  exact ⟨TR.move h1 (fun i hi => hm _ (by omega)), HR.move h2 (fun i a b => hm _ (by omega)), ⟨h3, h4, fun e => TR.move (h5 e) (fun i hi => hm _ (by omega))⟩, h6, h7, h8, h9⟩
theorem m_next {x : Nat} (h : x ≤ 10006) : hl_rem (((137 : Int32) * II x) + (59 : Int32)) (10007 : Int32) = II ((137 * x + 59) % 10007) := by
  show hl_rem ((II 137 * II x) + II 59) (II 10007) = _
  rw [n_mul, n_add, n_rem (by omega) (by decide)]
theorem m_key {x : Nat} (h : x ≤ 10006) : hl_rem (II x) (10000 : Int32) = II (x % 10000) := n_rem (b := 10000) (by omega) (by decide)
theorem b_trial31 {m0 : Nat → Int32} {kd sd lm cn : Nat} (hcn : cn ≤ 40) (tsd tlm : Int32) : ∀ n i x (sum : Int32) (c fu tb : Nat) (K V : Nat → Int32) (rb gr : Int32) (O W : Nat → Int32) (mre mex mfr : Int32) (m : Nat → Int32),
    Inv c kd sd lm fu tb K V → Rw 0 c kd sd lm fu tb K V m → (∀ j, 200 ≤ j → j < 2400 → m j = m0 j) → i ≤ cn → cn - i < n → x ≤ 10006 →
    ∃ s' o' mre' mex' mfr' m', fX6_trialResult_31 n tsd tlm (II c) (II kd) (II sd) (II lm) (II fu) (II tb) rb gr K V O W (II cn) sum (II x) (II i) = some (s', o') ∧
      fX7_tries_29 n mre mex mfr m (II cn) sum (II x) (II i) = some (s', mre', mex', mfr', cpR m' 11 0) ∧ ∀ j, 200 ≤ j → j < 2400 → m' j = m0 j
  | 0, i, _, _, _, _, _, _, _, _, _, _, _, _, _, _, _, _, _, _, _, hn, _ => by omega
  | n + 1, i, x, sum, c, fu, tb, K, V, rb, gr, O, W, mre, mex, mfr, m, hI, hR, hm, hi, hn, hx => by
    unfold fX6_trialResult_31 fX7_tries_29
    by_cases e : cn ≤ i
    · rw [if_pos ((n_le (by omega) (by omega)).mpr e), if_pos ((n_le (by omega) (by omega)).mpr e), show fX7_copies m (11 : Int32) (0 : Int32) = some (cpR m 11 0) from r_copies (a := 11) (b := 0) m (by omega) (by omega) (by omega), ob]
      exact ⟨_, _, _, _, _, m, rfl, rfl, hm⟩
    · have n1 : ¬ II cn ≤ II i := fun e3 => e ((n_le (by omega) (by omega)).mp e3)
      have hx2 : (137 * x + 59) % 10007 ≤ 10006 := by omega
      have hk : (137 * x + 59) % 10007 % 10000 ≤ 9999 := by omega
      rw [if_neg n1, if_neg n1, m_next hx, m_key hx2]
      generalize hy : (137 * x + 59) % 10007 = y at hx2 hk ⊢
      obtain ⟨r, d6, d7, c', fu', tb', K', V', O', W', q1, q2, -, -, q5⟩ := b_enter hI hk (v := 0) (by decide) O W rb gr
      obtain ⟨mex1, mfr1, m1, p1, p2, -, -, p5⟩ := q5 m mre (II (fs c kd sd K (y % 10000) + 1)) (fr c kd sd K (y % 10000) (fs c kd sd K (y % 10000) + 1)) hR
      rw [c_search hI.cok hI.kd2 hI.sd9 hk hI.emp, ob, q1, ob, r_exam hR hI.cok hI.kd2 hI.sd9 hk hI.kt hI.emp, ob]
      rw [p1, ob, show II i + (1 : Int32) = II (i + 1) from n_add i 1]
      exact b_trial31 hcn tsd tlm n (i + 1) y (sum + II (fs c kd sd K (y % 10000) + 1)) c' fu' tb' K' V' (rb + d6) (gr + d7) O' W' _ mex1 mfr1 m1 q2 p2 (fun j a b => by rw [p5 j a b]; exact hm j a b) (by omega) (by omega) hx2
theorem b_tries {c kd sd lm fu tb k st cn : Nat} {K V mA : Nat → Int32} (hI : Inv c kd sd lm fu tb K V) (hR : Rw 0 c kd sd lm fu tb K V mA) (hk : k ≤ 2) (hst : st ≤ 10006) (hcn : cn ≤ 40) (ecp ekd esd elm efu etb erb egr : Int32) (eK eV eO eW : Nat → Int32) (mre mex mfr : Int32) :
    ∃ s' o' mre' mex' mfr' mA', fX6_trialResult (II sd) (II lm) ecp ekd esd elm efu etb erb egr eK eV eO eW (II k) (II st) (II cn) = some (s', o') ∧ fX7_tries mre mex mfr mA (II k) (II st) (II cn) = some (s', mre', mex', mfr', mA') ∧ ∀ j, j < 2000 → mA' j = mA j := by
  have low : ∀ i, i < 200 → cpR mA 0 11 i = mA i := fun i hi => cpR_out (by omega)
  obtain ⟨m1, q1, q2, q3⟩ := r_empties (mA := cpR mA 0 11) (c := 8) (kd := kd) (sd := sd) (lm := lm) (K := eK) (V := eV) (by rw [low _ (by omega)]; exact hR.c3) (by rw [low _ (by omega)]; exact hR.c4) (by rw [low _ (by omega)]; exact hR.c5)
  have hR1 : Rw 0 8 k sd lm 0 0 (eE eK) eV (upd m1 3 (II k)) :=
    ⟨by rw [upd_ne (by omega)]; exact q2.c0, by rw [upd_ne (by omega)]; exact q2.c1, by rw [upd_ne (by omega)]; exact q2.c2, upd_at _ _ _, by rw [upd_ne (by omega)]; exact q2.c4, by rw [upd_ne (by omega)]; exact q2.c5, fun s hs => by rw [upd_ne (by omega), upd_ne (by omega), upd_ne (by omega)]; exact q2.2.2.2.2.2.2 s hs⟩
  obtain ⟨s', o', mre', mex', mfr', m', p1, p2, p3⟩ := b_trial31 (m0 := upd m1 3 (II k)) hcn (II sd) (II lm) 1000 0 st 0 8 0 0 (eE eK) eV erb egr eO eW mre mex mfr _ (Inv.empty (Or.inl rfl) hk hI.sd9 hI.lm9) hR1 (fun _ _ _ => rfl) (by omega) (by omega) hst
  refine ⟨s', o', mre', mex', mfr', cpR m' 11 0, ?_, ?_, fun j hj => ?_⟩
  · unfold fX6_trialResult fX5_beginTrial
    rw [c_empty, ob, ob]
    exact p1
  · unfold fX7_tries
    rw [show fX7_copies mA (0 : Int32) (11 : Int32) = some (cpR mA 0 11) from r_copies (a := 0) (b := 11) mA (by omega) (by omega) (by omega), ob, show fX7_empties (cpR mA 0 11) (8 : Int32) = some m1 from q1, ob]
    exact p2
  · have far : ∀ j, 200 ≤ j → j < 2400 → m' j = cpR mA 0 11 j := fun j a b => by rw [p3 j a b, upd_ne (by omega), q3 j (Or.inr a)]
    by_cases h2 : j < 200
    · rw [show j = 200 * 0 + j from by omega, cpR_in h2, far _ (by omega) (by omega), cpR_in h2]
    · rw [cpR_out (by omega), far _ (by omega) (by omega)]
      exact cpR_out (by omega)
theorem b_isTrial (x0 x1 : Int32) : (∃ st cn, st ≤ 10006 ∧ cn ≤ 40 ∧ x0 = II st ∧ x1 = II cn ∧ fX6_isTrial x0 x1 = some 1 ∧ fX7_isTrial x0 x1 = some 1) ∨ (fX6_isTrial x0 x1 = some 0 ∧ fX7_isTrial x0 x1 = some 0) := by
  unfold fX6_isTrial fX7_isTrial
  by_cases h0 : (0 : Int32) ≤ x0 ∧ x0 ≤ (10006 : Int32)
  · obtain ⟨st, hst, rfl⟩ := n_of2 (n := 10006) (by decide) h0.1 h0.2
    rw [r_inY h0, ob, if_neg i1n0, if_neg (i_nlt.mpr h0.1), if_neg (fun e : (10007 : Int32) ≤ II st => by have := (n_le (a := 10007) (by decide) (by omega)).mp e; omega)]
    by_cases h1 : (1 : Int32) ≤ x1 ∧ x1 ≤ (40 : Int32)
    · have h2 : (0 : Int32) ≤ x1 := by
        have h9 := h1.1
        rw [fa_le, show (1 : Int32).toInt = 1 from by decide] at h9
        rw [fa_le, show (0 : Int32).toInt = 0 from by decide]
        omega
      obtain ⟨cn, hcn, rfl⟩ := n_of2 (n := 40) (by decide) h2 h1.2
      rw [r_inY h1, ob, if_neg i1n0, if_neg (i_nlt.mpr h1.1), if_neg (i_nlt.mpr h1.2)]
      exact Or.inl ⟨st, cn, hst, hcn, rfl, rfl, rfl, rfl⟩
    · rw [r_inN h1, ob, if_pos rfl]
      refine Or.inr ⟨?_, rfl⟩
      by_cases h2 : x1 < (1 : Int32)
      · rw [if_pos h2]
      · rw [if_neg h2]
        by_cases h3 : (40 : Int32) < x1
        · rw [if_pos h3]
        · exact absurd ⟨i_nlt.mp h2, i_nlt.mp h3⟩ h1
  · rw [r_inN h0, ob, if_pos rfl]
    refine Or.inr ⟨?_, rfl⟩
    by_cases h2 : x0 < 0
    · rw [if_pos h2]
    · rw [if_neg h2]
      by_cases h3 : (10007 : Int32) ≤ x0
      · rw [if_pos h3]
      · refine absurd ⟨i_nlt.mp h2, ?_⟩ h0
        have h4 := i_nle.mp h3
        rw [fa_lt, show (10007 : Int32).toInt = 10007 from by decide] at h4
        rw [fa_le, show (10006 : Int32).toInt = 10006 from by decide]
        omega
theorem b_best32 {c kd sd lm fu tb st cn : Nat} {K V mA : Nat → Int32} (hI : Inv c kd sd lm fu tb K V) (hR : Rw 0 c kd sd lm fu tb K V mA) (hst : st ≤ 10006) (hcn : cn ≤ 40) (mth : Int32) : ∀ n k (best least : Int32) (ecp ekd esd elm efu etb erb egr : Int32) (eK eV eO eW : Nat → Int32) (mre mex mfr : Int32) (m : Nat → Int32), k ≤ 3 → 3 - k < n → (∀ j, j < 2000 → m j = mA j) →
    ∃ b' o' mre' mex' mfr' m', fX6_bestKind_32 n (II sd) (II lm) ecp ekd esd elm efu etb erb egr eK eV eO eW (II st) (II cn) best least (II k) = some (Sum.inl b', o') ∧ fX7_bestKind_28 n mth mre mex mfr m (II st) (II cn) best least (II k) = some (b', mth, mre', mex', mfr', m') ∧ ∀ j, j < 2000 → m' j = mA j
  | 0, k, _, _, _, _, _, _, _, _, _, _, _, _, _, _, _, _, _, _, _, hn, _ => by omega
  | n + 1, k, best, least, ecp, ekd, esd, elm, efu, etb, erb, egr, eK, eV, eO, eW, mre, mex, mfr, m, hk, hn, hm => by
    unfold fX6_bestKind_32 fX7_bestKind_28 fX6_bestKind_62 fX7_bestKind_72
    by_cases e : 3 ≤ k
    · have : k = 3 := by omega
      subst this
      rw [if_pos (by decide), if_pos (by decide)]
      exact ⟨_, _, _, _, _, _, rfl, rfl, hm⟩
    · have n1 : ¬ (3 : Int32) ≤ II k := fun e3 => e ((n_le (a := 3) (by decide) (by omega)).mp e3)
      obtain ⟨s', o', mre1, mex1, mfr1, m1, q1, q2, q3⟩ := b_tries (k := k) (st := st) (cn := cn) hI (hR.off (mA' := m) (fun i hi => hm i (by omega))) (by omega) hst hcn ecp ekd esd elm efu etb erb egr eK eV eO eW mre mex mfr
      rw [if_neg n1, if_neg n1, q1, ob, q2, ob, show II k + (1 : Int32) = II (k + 1) from n_add k 1]
      have hm1 : ∀ j, j < 2000 → m1 j = mA j := fun j hj => by rw [q3 j hj]; exact hm j hj
      by_cases z : least ≤ s'
      · rw [if_pos (show least ≤ (s', o').1 from z), if_pos (show least ≤ (s', mre1, mex1, mfr1, m1).1 from z), if_pos (show least ≤ (s', mre1, mex1, mfr1, m1).1 from z)]
        exact b_best32 hI hR hst hcn mth n (k + 1) best least _ _ _ _ _ _ _ _ _ _ _ _ mre1 mex1 mfr1 m1 (by omega) (by omega) hm1
      · rw [if_neg (show ¬ least ≤ (s', o').1 from z), if_neg (show ¬ least ≤ (s', mre1, mex1, mfr1, m1).1 from z), if_neg (show ¬ least ≤ (s', mre1, mex1, mfr1, m1).1 from z)]
        exact b_best32 hI hR hst hcn mth n (k + 1) (II k) s' _ _ _ _ _ _ _ _ _ _ _ _ mre1 mex1 mfr1 m1 (by omega) (by omega) hm1
set_option maxHeartbeats 2000000 in
theorem k_trial {isv : Int32} {rpo : Int32} {rco : Int32} {tcp : Int32} {tkd : Int32} {tsd : Int32} {tlm : Int32} {tfu : Int32} {ttb : Int32} {trb : Int32} {tgr : Int32} {tK : Nat → Int32} {tV : Nat → Int32} {wcp : Int32} {wkd : Int32} {wsd : Int32} {wlm : Int32} {wfu : Int32} {wtb : Int32} {wrb : Int32} {wgr : Int32} {wK : Nat → Int32} {wV : Nat → Int32} {hnw : Int32} {hct : Int32} {hp : Nat → hTT} {pl : Int32} {pS : Nat → Int32} {ln : Int32} {lS : Nat → Int32} {mch : Int32} {msv : Int32} {mls : Int32} {mty : Int32} {mea : Int32} {mfa : Int32} {mA : Nat → Int32} {mL : Nat → Int32} {mI : Nat → Int32} {ecp : Int32} {ekd : Int32} {esd : Int32} {elm : Int32} {efu : Int32} {etb : Int32} {erb : Int32} {egr : Int32} {eK : Nat → Int32} {eV : Nat → Int32} {eO : Nat → Int32} {eW : Nat → Int32} {mth : Int32} {mre : Int32} {mex : Int32} {mfr : Int32} (h : Rel isv rpo rco tcp tkd tsd tlm tfu ttb trb tgr tK tV wcp wkd wsd wlm wfu wtb wrb wgr wK wV hnw hct hp pl pS ln lS mch msv mls mty mea mfa mA mL mI) (x0 x1 x2 : Int32) : ∃ out out2, fX6_trial tsd tlm ecp ekd esd elm efu etb erb egr eK eV eO eW x0 x1 x2 = some out ∧ fX7_trial mth mre mex mfr mA x0 x1 x2 = some out2 ∧ (∀ k1, out.1 = .inr k1 → k1 = 1) ∧ out2.2.1 = hkd [1] out.1 ∧ (∀ v, out.1 = .inl v → v = out2.1) ∧ Rel isv rpo rco tcp tkd tsd tlm tfu ttb trb tgr tK tV wcp wkd wsd wlm wfu wtb wrb wgr wK wV hnw hct hp pl pS ln lS mch msv mls mty mea mfa out2.2.2.2.2.2 mL mI := by
  have h0 := h
  obtain ⟨c, kd, sd, lm, fu, tb, ⟨rfl, rfl, rfl, rfl, rfl, rfl⟩, hI, hR, g6, g7⟩ := h.1
  have bad : fX6_trial (II sd) (II lm) ecp ekd esd elm efu etb erb egr eK eV eO eW x0 x1 x2 = some (Sum.inr 1, ecp, ekd, esd, elm, efu, etb, erb, egr, eK, eV, eO, eW) → fX7_trial mth mre mex mfr mA x0 x1 x2 = some (0, 1, mre, mex, mfr, mA) →
      ∃ out out2, fX6_trial (II sd) (II lm) ecp ekd esd elm efu etb erb egr eK eV eO eW x0 x1 x2 = some out ∧ fX7_trial mth mre mex mfr mA x0 x1 x2 = some out2 ∧ (∀ k1, out.1 = .inr k1 → k1 = 1) ∧ out2.2.1 = hkd [1] out.1 ∧ (∀ v, out.1 = .inl v → v = out2.1) ∧ Rel isv rpo rco (II c) (II kd) (II sd) (II lm) (II fu) (II tb) trb tgr tK tV wcp wkd wsd wlm wfu wtb wrb wgr wK wV hnw hct hp pl pS ln lS mch msv mls mty mea mfa out2.2.2.2.2.2 mL mI := fun e6 e7 =>
    ⟨_, _, e6, e7, fun k1 e => eq_r e, rfl, fun v e => (no_rl e).elim, h0⟩
  by_cases hx : (0 : Int32) ≤ x0 ∧ x0 ≤ (2 : Int32)
  · obtain ⟨k, hk, rfl⟩ := n_of2 (n := 2) (by decide) hx.1 hx.2
    have isk : fX6_isKind (II k) = some 1 := by
      unfold fX6_isKind
      rw [if_neg (i_nlt.mpr hx.1), if_neg (fun e : (3 : Int32) ≤ II k => by have := (n_le (a := 3) (by decide) (by omega)).mp e; omega)]
    rcases b_isTrial x1 x2 with ⟨st, cn, hst, hcn, rfl, rfl, q1, q2⟩ | ⟨q1, q2⟩
    · obtain ⟨s', o', mre', mex', mfr', m', p1, p2, p3⟩ := b_tries hI hR hk hst hcn ecp ekd esd elm efu etb erb egr eK eV eO eW mre mex mfr
      have e6 : fX6_trial (II sd) (II lm) ecp ekd esd elm efu etb erb egr eK eV eO eW (II k) (II st) (II cn) = some (Sum.inl s', o'.1, o'.2.1, o'.2.2.1, o'.2.2.2.1, o'.2.2.2.2.1, o'.2.2.2.2.2.1, o'.2.2.2.2.2.2.1, o'.2.2.2.2.2.2.2.1, o'.2.2.2.2.2.2.2.2.1, o'.2.2.2.2.2.2.2.2.2.1, o'.2.2.2.2.2.2.2.2.2.2.1, o'.2.2.2.2.2.2.2.2.2.2.2) := by
        unfold fX6_trial
        rw [isk, ob, if_neg i1n0, q1, ob, if_neg i1n0, p1, ob]
      have e7 : fX7_trial mth mre mex mfr mA (II k) (II st) (II cn) = some (s', 0, mre', mex', mfr', m') := by
        unfold fX7_trial fX7_trial_23
        rw [r_inY hx, ob, if_neg i1n0, q2, ob, if_neg i1n0, fine1, ob]
        refine (if_neg (show ¬ (1 : Int32) = 0 by decide)).trans ?_
        rw [p2, ob]
      exact ⟨_, _, e6, e7, fun k1 e => (no_lr e).elim, rfl, fun v e => eq_l e, h0.off p3⟩
    · refine bad ?_ ?_
      · unfold fX6_trial
        rw [isk, ob, if_neg i1n0, q1, ob, if_pos rfl]
      · unfold fX7_trial fX7_trial_23
        rw [r_inY hx, ob, if_neg i1n0, q2, ob, if_pos rfl, fine0, ob]
        exact if_pos rfl
  · refine bad ?_ ?_
    · unfold fX6_trial
      rw [show fX6_isKind x0 = some 0 from by
        unfold fX6_isKind
        by_cases h0 : x0 < 0
        · rw [if_pos h0]
        · rw [if_neg h0]
          by_cases h1 : (3 : Int32) ≤ x0
          · rw [if_pos h1]
          · exact absurd ⟨i_nlt.mp h0, i2_of3 (i_nle.mp h1)⟩ hx, ob, if_pos rfl]
    · unfold fX7_trial fX7_trial_23
      rw [r_inN hx, ob, if_pos rfl, fine0, ob]
      exact if_pos rfl
set_option maxHeartbeats 2000000 in
theorem k_bestKind {isv : Int32} {rpo : Int32} {rco : Int32} {tcp : Int32} {tkd : Int32} {tsd : Int32} {tlm : Int32} {tfu : Int32} {ttb : Int32} {trb : Int32} {tgr : Int32} {tK : Nat → Int32} {tV : Nat → Int32} {wcp : Int32} {wkd : Int32} {wsd : Int32} {wlm : Int32} {wfu : Int32} {wtb : Int32} {wrb : Int32} {wgr : Int32} {wK : Nat → Int32} {wV : Nat → Int32} {hnw : Int32} {hct : Int32} {hp : Nat → hTT} {pl : Int32} {pS : Nat → Int32} {ln : Int32} {lS : Nat → Int32} {mch : Int32} {msv : Int32} {mls : Int32} {mty : Int32} {mea : Int32} {mfa : Int32} {mA : Nat → Int32} {mL : Nat → Int32} {mI : Nat → Int32} {ecp : Int32} {ekd : Int32} {esd : Int32} {elm : Int32} {efu : Int32} {etb : Int32} {erb : Int32} {egr : Int32} {eK : Nat → Int32} {eV : Nat → Int32} {eO : Nat → Int32} {eW : Nat → Int32} {mth : Int32} {mre : Int32} {mex : Int32} {mfr : Int32} (h : Rel isv rpo rco tcp tkd tsd tlm tfu ttb trb tgr tK tV wcp wkd wsd wlm wfu wtb wrb wgr wK wV hnw hct hp pl pS ln lS mch msv mls mty mea mfa mA mL mI) (x0 x1 : Int32) : ∃ out out2, fX6_bestKind tsd tlm ecp ekd esd elm efu etb erb egr eK eV eO eW x0 x1 = some out ∧ fX7_bestKind mth mre mex mfr mA x0 x1 = some out2 ∧ (∀ k1, out.1 = .inr k1 → k1 = 1) ∧ out2.2.1 = hkd [1] out.1 ∧ (∀ v, out.1 = .inl v → v = out2.1) ∧ Rel isv rpo rco tcp tkd tsd tlm tfu ttb trb tgr tK tV wcp wkd wsd wlm wfu wtb wrb wgr wK wV hnw hct hp pl pS ln lS mch msv mls mty mea mfa out2.2.2.2.2.2 mL mI := by
  have h0 := h
  obtain ⟨c, kd, sd, lm, fu, tb, ⟨rfl, rfl, rfl, rfl, rfl, rfl⟩, hI, hR, g6, g7⟩ := h.1
  rcases b_isTrial x0 x1 with ⟨st, cn, hst, hcn, rfl, rfl, q1, q2⟩ | ⟨q1, q2⟩
  · obtain ⟨s', o', mre', mex', mfr', m', p1, p2, p3⟩ := b_tries (k := 0) hI hR (by omega) hst hcn ecp ekd esd elm efu etb erb egr eK eV eO eW mre mex mfr
    obtain ⟨b', o2, mre2, mex2, mfr2, m2, z1, z2, z3⟩ := b_best32 hI hR hst hcn 0 1000 1 0 s' o'.1 o'.2.1 o'.2.2.1 o'.2.2.2.1 o'.2.2.2.2.1 o'.2.2.2.2.2.1 o'.2.2.2.2.2.2.1 o'.2.2.2.2.2.2.2.1 o'.2.2.2.2.2.2.2.2.1 o'.2.2.2.2.2.2.2.2.2.1 o'.2.2.2.2.2.2.2.2.2.2.1 o'.2.2.2.2.2.2.2.2.2.2.2 mre' mex' mfr' m' (by omega) (by omega) p3
    have e6 : fX6_bestKind (II sd) (II lm) ecp ekd esd elm efu etb erb egr eK eV eO eW (II st) (II cn) = some (Sum.inl b', o2) := by
      unfold fX6_bestKind
      rw [q1, ob, if_neg i1n0]
      rw [show fX6_trialResult (II sd) (II lm) ecp ekd esd elm efu etb erb egr eK eV eO eW (0 : Int32) (II st) (II cn) = some (s', o') from p1, ob]
      exact z1
    have e7 : fX7_bestKind mth mre mex mfr mA (II st) (II cn) = some (b', 0, mre2, mex2, mfr2, m2) := by
      unfold fX7_bestKind
      rw [q2, ob, fine1, ob]
      refine (if_neg (show ¬ (1 : Int32) = 0 by decide)).trans ?_
      rw [show fX7_tries mre mex mfr mA (0 : Int32) (II st) (II cn) = some (s', mre', mex', mfr', m') from p2, ob]
      exact z2
    exact ⟨_, _, e6, e7, fun k1 e => (no_lr e).elim, rfl, fun v e => eq_l e, h0.off z3⟩
  · have e6 : fX6_bestKind (II sd) (II lm) ecp ekd esd elm efu etb erb egr eK eV eO eW x0 x1 = some (Sum.inr 1, ecp, ekd, esd, elm, efu, etb, erb, egr, eK, eV, eO, eW) := by
      unfold fX6_bestKind
      rw [q1, ob, if_pos rfl]
    have e7 : fX7_bestKind mth mre mex mfr mA x0 x1 = some (0, 1, mre, mex, mfr, mA) := by
      unfold fX7_bestKind
      rw [q2, ob, fine0, ob]
      exact if_pos rfl
    exact ⟨_, _, e6, e7, fun k1 e => eq_r e, rfl, fun v e => (no_rl e).elim, h0⟩
