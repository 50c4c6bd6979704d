/-! calls of both: keyAt hardestKey -/
set_option maxHeartbeats 2000000 in
theorem k_keyAt {isv : Int32} {rpo : Int32} {rco : Int32} {tcp : Int32} {tkd : Int32} {tsd : Int32} {tlm : Int32} {tfu : Int32} {ttb : Int32} {trb : Int32} {tgr : Int32} {tK : Nat → Int32} {tV : Nat → Int32} {wcp : Int32} {wkd : Int32} {wsd : Int32} {wlm : Int32} {wfu : Int32} {wtb : Int32} {wrb : Int32} {wgr : Int32} {wK : Nat → Int32} {wV : Nat → Int32} {hnw : Int32} {hct : Int32} {hp : Nat → hTT} {pl : Int32} {pS : Nat → Int32} {ln : Int32} {lS : Nat → Int32} {mch : Int32} {msv : Int32} {mls : Int32} {mty : Int32} {mea : Int32} {mfa : Int32} {mA : Nat → Int32} {mL : Nat → Int32} {mI : Nat → Int32} {mth : Int32} (h : Rel isv rpo rco tcp tkd tsd tlm tfu ttb trb tgr tK tV wcp wkd wsd wlm wfu wtb wrb wgr wK wV hnw hct hp pl pS ln lS mch msv mls mty mea mfa mA mL mI) (x0 : Int32) : ∃ out out2, fX6_keyAt tcp tfu tK x0 = some out ∧ fX7_keyAt mth mA x0 = some out2 ∧ (∀ k1, out = .inr k1 → k1 = 3) ∧ out2.2 = hcd [3] out ∧ (∀ v, out = .inl v → v = out2.1) ∧ Rel isv rpo rco tcp tkd tsd tlm tfu ttb trb tgr tK tV wcp wkd wsd wlm wfu wtb wrb wgr wK wV hnw hct hp pl pS ln lS mch msv mls mty mea mfa mA mL mI := by
  have h0 := h
  obtain ⟨c, kd, sd, lm, fu, tb, ⟨rfl, rfl, rfl, rfl, rfl, rfl⟩, hI, hR, g6, g7⟩ := h.1
  have h64 := hI.cok.le
  have hft := hI.ft
  by_cases hx : (0 : Int32) ≤ x0 ∧ x0 < II fu
  · obtain ⟨r, hr, rfl⟩ := n_of hx.1
    have hrf : r < fu := (n_lt hr (by omega)).mp hx.2
    have loop : ∀ n i b, i ≤ r → r - i < n → (∃ s, s < c ∧ 0 ≤ tK s ∧ tK s = b ∧ rk tK c b = i) → ∃ s, s < c ∧ 0 ≤ tK s ∧ rk tK c (tK s) = r ∧ fX6_keyAt_36 n (II c) (II fu) tK (II r) b (II i) = some (Sum.inl (tK s)) := fun n => by
      induction n with
      | zero => intro i b _ hn; omega
      | succ n ih =>
        intro i b hi hn hs
        unfold fX6_keyAt_36
        by_cases e : r ≤ i
        · have : i = r := by omega
          subst this
          obtain ⟨s, hs1, hs2, rfl, hs3⟩ := hs
          rw [if_pos ((n_le hr hr).mpr e)]
          exact ⟨s, hs1, hs2, hs3, rfl⟩
        · obtain ⟨s, hs1, hs2, e2, hs3⟩ := hs
          obtain ⟨t, ht, ht0, ht1, ht2⟩ := c_nextKey hI (j := i + 1) (b := b) (Or.inr ⟨s, hs1, hs2, e2, by omega⟩) (by omega)
          rw [if_neg (fun e3 => e ((n_le hr (by omega)).mp e3)), ht2, ob, show II i + (1 : Int32) = II (i + 1) from n_add i 1]
          exact ih (i + 1) (tK t) (by omega) (by omega) ⟨t, ht, ht0, rfl, ht1⟩
    obtain ⟨t, ht, ht0, ht1, ht2⟩ := c_nextKey hI (j := 0) (b := -1) (Or.inl ⟨rfl, rfl⟩) (by omega)
    obtain ⟨s, hs1, hs2, hs3, hs4⟩ := loop 1000 0 (tK t) (by omega) (by omega) ⟨t, ht, ht0, rfl, ht1⟩
    have e6 : fX6_keyAt (II c) (II fu) tK (II r) = some (Sum.inl (tK s)) := by
      unfold fX6_keyAt
      rw [if_neg (i_nlt.mpr hx.1), if_pos hx.2, ht2, ob]
      exact hs4
    have e1 : mA (9 + 3 * s) = tK s := by
      rcases hR.at (s := s) (by omega) with ⟨g, -⟩ | ⟨g, -⟩ | ⟨-, -, g, -⟩
      · rw [g] at hs2; exact absurd hs2 (by decide)
      · rw [g] at hs2; exact absurd hs2 (by decide)
      · exact g
    have e7 : fX7_keyAt mth mA (II r) = some (tK s, 0) := by
      unfold fX7_keyAt fX7_keyAt_16
      rw [r_rankedY hI hR hs1 hs2 hs3, ob, if_neg (n_nlt0 (by omega)), fine1, ob]
      refine (if_neg (show ¬ (1 : Int32) = 0 by decide)).trans ?_
      rw [r_at1 (by omega), ob, e1]
    exact ⟨_, _, e6, e7, fun k1 e => (no_lr e).elim, rfl, fun v e => eq_l e, h0⟩
  · have e6 : fX6_keyAt (II c) (II fu) tK x0 = some (Sum.inr 3) := by
      unfold fX6_keyAt
      by_cases h1 : x0 < 0
      · rw [if_pos h1]
      · rw [if_neg h1, if_neg (fun e => hx ⟨i_nlt.mp h1, e⟩)]
    have e7 : fX7_keyAt mth mA x0 = some (0, 1) := by
      unfold fX7_keyAt fX7_keyAt_16
      rw [r_rankedN hI hR hx, ob, if_pos (by decide), fine0, ob]
      exact if_pos rfl
    exact ⟨_, _, e6, e7, fun k1 e => eq_r e, rfl, fun v e => (no_rl e).elim, h0⟩
set_option maxHeartbeats 2000000 in
theorem k_hardestKey {isv : Int32} {rpo : Int32} {rco : Int32} {tcp : Int32} {tkd : Int32} {tsd : Int32} {tlm : Int32} {tfu : Int32} {ttb : Int32} {trb : Int32} {tgr : Int32} {tK : Nat → Int32} {tV : Nat → Int32} {wcp : Int32} {wkd : Int32} {wsd : Int32} {wlm : Int32} {wfu : Int32} {wtb : Int32} {wrb : Int32} {wgr : Int32} {wK : Nat → Int32} {wV : Nat → Int32} {hnw : Int32} {hct : Int32} {hp : Nat → hTT} {pl : Int32} {pS : Nat → Int32} {ln : Int32} {lS : Nat → Int32} {mch : Int32} {msv : Int32} {mls : Int32} {mty : Int32} {mea : Int32} {mfa : Int32} {mA : Nat → Int32} {mL : Nat → Int32} {mI : Nat → Int32} {mth : Int32} {mex : Int32} {mfr : Int32} (h : Rel isv rpo rco tcp tkd tsd tlm tfu ttb trb tgr tK tV wcp wkd wsd wlm wfu wtb wrb wgr wK wV hnw hct hp pl pS ln lS mch msv mls mty mea mfa mA mL mI) : ∃ out out2, fX6_hardestKey tcp tkd tsd tK = some out ∧ fX7_hardestKey mth mex mfr mA = some out2 ∧ (∀ k1, out = .inr k1 → k1 = 3) ∧ out2.2.1 = hcd [3] out ∧ (∀ v, out = .inl v → v = out2.1) ∧ Rel isv rpo rco tcp tkd tsd tlm tfu ttb trb tgr tK tV wcp wkd wsd wlm wfu wtb wrb wgr wK wV hnw hct hp pl pS ln lS mch msv mls mty mea mfa mA mL mI := by
  have h0 := h
  obtain ⟨c, kd, sd, lm, fu, tb, ⟨rfl, rfl, rfl, rfl, rfl, rfl⟩, hI, hR, g6, g7⟩ := h.1
  have h64 := hI.cok.le
  have loop : ∀ n i q (b mex mfr : Int32), i ≤ c → c - i < n → q ≤ 64 → (b = -1 ∨ 0 ≤ b) → ∃ b' mex' mfr', (b' = -1 ∨ 0 ≤ b') ∧ fX6_hardestKey_6 n (II c) (II kd) (II sd) tK b (II q) (II i) = some (if b' = -1 then Sum.inr 3 else Sum.inl b') ∧
      fX7_hardestKey_6 n mth mex mfr mA b (II q) (II i) = some (if b' = -1 then (0, 1, mex', mfr') else (b', 0, mex', mfr')) := fun n => by
    induction n with
    | zero => intro i q b mex mfr _ hn; omega
    | succ n ih =>
      intro i q b mex mfr hi hn hq hb
      unfold fX6_hardestKey_6 fX7_hardestKey_6
      rw [hR.c0]
      by_cases e : c ≤ i
      · have : i = c := by omega
        subst this
        rw [if_pos ((n_le hI.cok.lt hI.cok.lt).mpr e), if_pos ((n_le hI.cok.lt hI.cok.lt).mpr e)]
        refine ⟨b, mex, mfr, hb, ?_, ?_⟩
        · by_cases e1 : b = -1
          · rw [if_pos e1, if_pos e1]
          · rw [if_neg e1, if_neg e1]
        · rcases hb with e1 | e1
          · rw [if_pos (show b < 0 by rw [e1]; decide), fine0, ob, if_pos e1]
            exact if_pos rfl
          · rw [if_neg (i_nlt.mpr e1), fine1, ob, if_neg (fun e2 : b = -1 => by rw [e2] at e1; exact absurd e1 (by decide))]
            exact if_neg (show ¬ (1 : Int32) = 0 by decide)
      · have e1 : II i + (1 : Int32) = II (i + 1) := n_add i 1
        have n1 : ¬ II c ≤ II i := fun e3 => e ((n_le hI.cok.lt (by omega)).mp e3)
        rw [if_neg n1, if_neg n1, c_content (by omega), ob, c_isFull (by omega), ob, r_at0 (by omega), ob]
        rcases hR.at (s := i) (by omega) with ⟨g, g1⟩ | ⟨g, g1⟩ | ⟨g, g1, g2, -⟩
        · rw [g1, if_pos (show tK i < 0 by rw [g]; decide), if_pos rfl, if_neg (by decide)]
          unfold fX6_hardestKey_51 fX6_hardestKey_82 fX7_hardestKey_98
          rw [e1, if_neg (n_nlt0 (by omega))]
          obtain ⟨b', mex', mfr', q1, q2, q3⟩ := ih (i + 1) q b mex mfr (by omega) (by omega) hq hb
          refine ⟨b', mex', mfr', q1, ?_, q3⟩
          by_cases e2 : (0 : Int32) = II q
          · rw [if_pos e2, if_pos (by decide)]; exact q2
          · rw [if_neg e2]; exact q2
        · rw [g1, if_pos (show tK i < 0 by rw [g]; decide), if_pos rfl, if_neg (by decide)]
          unfold fX6_hardestKey_51 fX6_hardestKey_82 fX7_hardestKey_98
          rw [e1, if_neg (n_nlt0 (by omega))]
          obtain ⟨b', mex', mfr', q1, q2, q3⟩ := ih (i + 1) q b mex mfr (by omega) (by omega) hq hb
          refine ⟨b', mex', mfr', q1, ?_, q3⟩
          by_cases e2 : (0 : Int32) = II q
          · rw [if_pos e2, if_pos (by decide)]; exact q2
          · rw [if_neg e2]; exact q2
        · obtain ⟨k, hk, ek⟩ := hI.kt.pos (s := i) (by omega) g
          have hf := fs_lt (kd := kd) (sd := sd) (k := k) hI.cok hI.emp
          rw [g1, if_pos rfl, if_neg (i_nlt.mpr g), if_neg i1n0, r_at1 (by omega), ob, g2, ek, c_search hI.cok hI.kd2 hI.sd9 hk hI.emp, ob, r_exam hR hI.cok hI.kd2 hI.sd9 hk hI.kt hI.emp, ob]
          have r0 : ∀ m1 m2 L, fX7_hardestKey_68 (fX7_hardestKey_6 n) mth m1 m2 mA b (II q) (II i) L 0 = fX7_hardestKey_6 n mth m1 m2 mA b (II q) (II (i + 1)) := fun m1 m2 L => by
            unfold fX7_hardestKey_68 fX7_hardestKey_98
            rw [if_pos rfl, if_pos rfl, e1]
          have r1 : ∀ m1 m2 L, fX7_hardestKey_68 (fX7_hardestKey_6 n) mth m1 m2 mA b (II q) (II i) L 1 = fX7_hardestKey_6 n mth m1 m2 mA (II k) L (II (i + 1)) := fun m1 m2 L => by
            unfold fX7_hardestKey_68 fX7_hardestKey_98
            rw [if_neg i1n0, r_at1 (by omega), ob, if_neg i1n0, e1, g2, ek]
          have hk0 : (0 : Int32) ≤ II k := n_0le (by omega)
          generalize hl : fs c kd sd tK k + 1 = l
          have hl64 : l ≤ 64 := by omega
          show ∃ (b' mex' mfr' : Int32), (b' = -1 ∨ 0 ≤ b') ∧ fX6_hardestKey_51 (fX6_hardestKey_6 n) (II c) (II kd) (II sd) tK b (II q) (II i) (II k) (II l) = _ ∧
            (if II q < II l then fX7_hardestKey_68 (fX7_hardestKey_6 n) mth (II l) (fr c kd sd tK k l) mA b (II q) (II i) (II l) 1 else if II l = II q then ((some (II k)).bind fun r13 => if b ≤ r13 then fX7_hardestKey_68 (fX7_hardestKey_6 n) mth (II l) (fr c kd sd tK k l) mA b (II q) (II i) (II l) 0 else fX7_hardestKey_68 (fX7_hardestKey_6 n) mth (II l) (fr c kd sd tK k l) mA b (II q) (II i) (II l) 1) else fX7_hardestKey_68 (fX7_hardestKey_6 n) mth (II l) (fr c kd sd tK k l) mA b (II q) (II i) (II l) 0) = _
          rw [ob, r0, r1]
          unfold fX6_hardestKey_51 fX6_hardestKey_82
          rw [e1]
          by_cases z1 : II q < II l
          · rw [if_pos z1, if_pos z1]
            exact ih (i + 1) l (II k) _ _ (by omega) (by omega) hl64 (Or.inr hk0)
          · rw [if_neg z1, if_neg z1]
            by_cases z2 : II l = II q
            · rw [if_pos z2, if_pos z2, if_neg (fun e3 : II l ≤ (0 : Int32) => by have := (n_le (b := 0) (by omega) (by decide)).mp e3; omega)]
              by_cases z3 : b ≤ II k
              · rw [if_pos z3, if_pos z3]
                exact ih (i + 1) q b _ _ (by omega) (by omega) hq hb
              · rw [if_neg z3, if_neg z3]
                exact ih (i + 1) l (II k) _ _ (by omega) (by omega) hl64 (Or.inr hk0)
            · rw [if_neg z2, if_neg z2]
              exact ih (i + 1) q b _ _ (by omega) (by omega) hq hb
  obtain ⟨b', mex', mfr', q1, q2, q3⟩ := loop 1000 0 0 (-1) mex mfr (by omega) (by omega) (by omega) (Or.inl rfl)
  have e6 : fX6_hardestKey (II c) (II kd) (II sd) tK = some (if b' = -1 then Sum.inr 3 else Sum.inl b') := q2
  have e7 : fX7_hardestKey mth mex mfr mA = some (if b' = -1 then (0, 1, mex', mfr') else (b', 0, mex', mfr')) := q3
  by_cases e : b' = -1
  · rw [if_pos e] at e6 e7
    exact ⟨_, _, e6, e7, fun k1 e => eq_r e, rfl, fun v e => (no_rl e).elim, h0⟩
  · rw [if_neg e] at e6 e7
    exact ⟨_, _, e6, e7, fun k1 e => (no_lr e).elim, rfl, fun v e => eq_l e, h0⟩
