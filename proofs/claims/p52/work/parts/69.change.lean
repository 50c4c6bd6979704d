/-! calls of both: put remove rebuild setKind setSeed setLimit clear -/
theorem i2_of3 {x : Int32} (h : x < (3 : Int32)) : x ≤ (2 : Int32) := by
  rw [fa_lt, show (3 : Int32).toInt = 3 from by decide] at h
  rw [fa_le, show (2 : Int32).toInt = 2 from by decide]
  omega
set_option maxHeartbeats 2000000 in
theorem k_put {isv : Int32} {rpo : Int32} {rco : Int32} {tcp : Int32} {tkd : Int32} {tsd : Int32} {tlm : Int32} {tfu : Int32} {ttb : Int32} {trb : Int32} {tgr : Int32} {tK : Nat → Int32} {tV : Nat → Int32} {wcp : Int32} {wkd : Int32} {wsd : Int32} {wlm : Int32} {wfu : Int32} {wtb : Int32} {wrb : Int32} {wgr : Int32} {wK : Nat → Int32} {wV : Nat → Int32} {hnw : Int32} {hct : Int32} {hp : Nat → hTT} {pl : Int32} {pS : Nat → Int32} {ln : Int32} {lS : Nat → Int32} {mch : Int32} {msv : Int32} {mls : Int32} {mty : Int32} {mea : Int32} {mfa : Int32} {mA : Nat → Int32} {mL : Nat → Int32} {mI : Nat → Int32} {tO : Nat → Int32} {tW : Nat → Int32} {mth : Int32} {mre : Int32} {mex : Int32} {mfr : Int32} (h : Rel isv rpo rco tcp tkd tsd tlm tfu ttb trb tgr tK tV wcp wkd wsd wlm wfu wtb wrb wgr wK wV hnw hct hp pl pS ln lS mch msv mls mty mea mfa mA mL mI) (x0 x1 : Int32) : ∃ out out2, fX6_put tcp tkd tsd tlm tfu ttb trb tgr tK tV tO tW hnw hct hp x0 x1 = some out ∧ fX7_put mth mch mre mex mfr mA x0 x1 = some out2 ∧ (∀ k1, out.1 = .inr k1 → k1 = 1 ∨ k1 = 2) ∧ out2.2.1 = hkd [1, 2] out.1 ∧ (∀ v, out.1 = .inl v → v = out2.1) ∧ Rel isv rpo rco out.2.1 tkd tsd tlm out.2.2.1 out.2.2.2.1 out.2.2.2.2.1 out.2.2.2.2.2.1 out.2.2.2.2.2.2.1 out.2.2.2.2.2.2.2.1 wcp wkd wsd wlm wfu wtb wrb wgr wK wV out.2.2.2.2.2.2.2.2.2.2.1 out.2.2.2.2.2.2.2.2.2.2.2.1 out.2.2.2.2.2.2.2.2.2.2.2.2 pl pS ln lS out2.2.2.1 msv mls mty mea mfa out2.2.2.2.2.2.2 mL mI := by
  have hc := chg h
  have hcn := chgN h
  obtain ⟨c, kd, sd, lm, fu, tb, ⟨rfl, rfl, rfl, rfl, rfl, rfl⟩, hI, hR, g6, g7⟩ := h.1
  obtain ⟨hnw', hct', hp', mch', e1, e2⟩ := hc
  have bad : ∀ (mre' mex' mfr' : Int32) (m1 : Nat → Int32) (by1 k1 : Int32), k1 ≠ 0 → (by1 = 1 ∧ k1 = 1 ∨ by1 = 2 ∧ k1 = 2) → fX7_puts mre mex mfr (cpR mA 0 10) x0 x1 = some (by1, mre', mex', mfr', m1) → fX7_put mth mch mre mex mfr mA x0 x1 = some (0, k1, mch, mre', mex', mfr', cpR m1 10 0) := fun mre' mex' mfr' m1 by1 k1 hk1 hb e => by
    unfold fX7_put
    rw [r_begins, ob, e, ob]
    have e9 : fX7_ends mth mch mre' m1 by1 1 2 = some (0, k1, mch, cpR m1 10 0) := by
      unfold fX7_ends
      rcases hb with ⟨rfl, rfl⟩ | ⟨rfl, rfl⟩
      · rw [if_pos rfl]; exact r_endsF (by decide)
      · rw [if_neg (by decide), if_pos rfl]; exact r_endsF (by decide)
    show (fX7_ends mth mch mre' m1 by1 1 2).bind _ = _
    rw [e9, ob, if_neg (show ¬ (0 : Int32) = 1 by decide)]
  by_cases hx : ∃ k, k ≤ 9999 ∧ x0 = II k
  · obtain ⟨k, hk, rfl⟩ := hx
    by_cases hv : (-999 : Int32) ≤ x1 ∧ x1 ≤ (999 : Int32)
    · obtain ⟨r, d6, d7, c', fu', tb', K', V', O', W', q1, q2, q3, q4, q5⟩ := b_enter hI hk hv tO tW trb tgr
      obtain ⟨mex1, mfr1, m1, p1, p2, p3, p4, p5⟩ := q5 (cpR mA 0 10) mre mex mfr hR.begun
      have hroom := c_room hI.cok hI.lm9.2 hI.ft
      by_cases hr : r = 0
      · obtain ⟨z1, z2, z3⟩ := q4.mp hr
        have e6 : fX6_put (II c) (II kd) (II sd) (II lm) (II fu) (II tb) trb tgr tK tV tO tW hnw hct hp (II k) x1 = some (Sum.inr 2, II c, II fu, II tb, trb, tgr, tK, tV, tO, tW, hnw, hct, hp) := by
          unfold fX6_put
          rw [c_isKey hk, ob, if_neg i1n0, c_isValue hv, ob, if_neg i1n0, c_hold hI.cok hI.kd2 hI.sd9 hk hI.emp, ob, if_neg z1, if_pos rfl]
          unfold fX6_put_41
          rw [if_neg i1n0, hroom, ob, if_neg z2, if_neg z3, if_pos rfl]
        rw [hr, if_neg (by decide), if_neg z1] at p1
        have e7 := bad 1 mex1 mfr1 m1 2 2 (by decide) (Or.inr ⟨rfl, rfl⟩) p1
        exact ⟨_, _, e6, e7, fun k1 e => Or.inr (eq_r e), rfl, fun v e => (no_rl e).elim, hcn m1 p5⟩
      · have hr1 : r = 1 := q3.elim id (fun e => absurd e.1 hr)
        subst hr1
        have hn : ¬ (tK (hs c kd sd tK k) ≠ II k ∧ ¬ 100 * (fu + tb + 1) ≤ lm * c ∧ ¬ 100 * (fu + 1) ≤ lm * nc c lm fu) := fun e => hr (q4.mpr e)
        obtain ⟨m2, s1, s2⟩ := e2 m1 (II c') (II kd) (II sd) (II lm) (II fu') (II tb') (trb + d6) (tgr + d7) K' V' p5 ⟨c', kd, sd, lm, fu', tb', ⟨rfl, rfl, rfl, rfl, rfl, rfl⟩, q2, p2, by rw [show 0 + 6 = 6 from rfl, p3, cp10_low (by omega)]; exact congrArg (· + d6) g6, by rw [show 0 + 7 = 7 from rfl, p4, cp10_low (by omega)]; exact congrArg (· + d7) g7⟩
        rw [if_pos rfl] at p1
        have e66 : ∀ v3, hl_nar .boolean v3 = true → fX6_put_66 (II c) (II kd) (II sd) (II lm) (II fu) (II tb) trb tgr tK tV tO tW hnw hct hp (II k) x1 v3 = some (Sum.inl v3, II c', II fu', II tb', trb + d6, tgr + d7, K', V', O', W', hnw', hct', hp') := fun v3 h3 => by
          unfold fX6_put_66
          rw [e1, ob, q1, ob, if_pos h3]
        have e7 : ∀ re, (re = 0 ∨ re = 1) → fX7_puts mre mex mfr (cpR mA 0 10) (II k) x1 = some (0, re, mex1, mfr1, m1) → fX7_put mth mch mre mex mfr mA (II k) x1 = some (re, 0, mch', re, mex1, mfr1, m2) := fun re hre e => by
          unfold fX7_put
          rw [r_begins, ob, e, ob]
          have e9 : fX7_ends mth mch re m1 0 1 2 = some (re, 0, mch', m2) := by
            unfold fX7_ends
            rw [if_neg (by decide), if_neg (by decide)]
            exact s1 mth re
          show (fX7_ends mth mch re m1 0 1 2).bind _ = _
          rw [e9, ob]
          rcases hre with rfl | rfl
          · exact if_neg (show ¬ (0 : Int32) = 1 by decide)
          · exact if_pos rfl
        by_cases hf : tK (hs c kd sd tK k) = II k
        · have e6 : fX6_put (II c) (II kd) (II sd) (II lm) (II fu) (II tb) trb tgr tK tV tO tW hnw hct hp (II k) x1 = some (Sum.inl 0, II c', II fu', II tb', trb + d6, tgr + d7, K', V', O', W', hnw', hct', hp') := by
            unfold fX6_put
            rw [c_isKey hk, ob, if_neg i1n0, c_isValue hv, ob, if_neg i1n0, c_hold hI.cok hI.kd2 hI.sd9 hk hI.emp, ob, if_pos hf, if_neg (n_ne1 (by have := hs_64 (kd := kd) (sd := sd) (k := k) (K := tK) hI.cok; omega))]
            unfold fX6_put_41
            rw [if_pos rfl]
            exact e66 0 r_nar0
          rw [if_pos hf] at p1
          exact ⟨_, _, e6, e7 0 (Or.inl rfl) p1, fun k1 e => (no_lr e).elim, rfl, fun v e => eq_l e, s2⟩
        · have e6 : fX6_put (II c) (II kd) (II sd) (II lm) (II fu) (II tb) trb tgr tK tV tO tW hnw hct hp (II k) x1 = some (Sum.inl 1, II c', II fu', II tb', trb + d6, tgr + d7, K', V', O', W', hnw', hct', hp') := by
            unfold fX6_put
            rw [c_isKey hk, ob, if_neg i1n0, c_isValue hv, ob, if_neg i1n0, c_hold hI.cok hI.kd2 hI.sd9 hk hI.emp, ob, if_neg hf, if_pos rfl]
            unfold fX6_put_41
            rw [if_neg i1n0, hroom, ob, e66 1 r_nar1]
            by_cases z1 : 100 * (fu + tb + 1) ≤ lm * c
            · rw [if_pos z1, if_neg i1n0]
            · rw [if_neg z1]
              by_cases z2 : 100 * (fu + 1) ≤ lm * nc c lm fu
              · rw [if_pos z2, if_neg i1n0]
              · exact absurd ⟨hf, z1, z2⟩ hn
          rw [if_neg hf] at p1
          exact ⟨_, _, e6, e7 1 (Or.inr rfl) p1, fun k1 e => (no_lr e).elim, rfl, fun v e => eq_l e, s2⟩
    · have e6 : fX6_put (II c) (II kd) (II sd) (II lm) (II fu) (II tb) trb tgr tK tV tO tW hnw hct hp (II k) x1 = some (Sum.inr 1, II c, II fu, II tb, trb, tgr, tK, tV, tO, tW, hnw, hct, hp) := by
        unfold fX6_put
        rw [c_isKey hk, ob, if_neg i1n0, c_isValueN hv, ob, if_pos rfl]
      have p1 : fX7_puts mre mex mfr (cpR mA 0 10) (II k) x1 = some (1, mre, mex, mfr, cpR mA 0 10) := by
        unfold fX7_puts
        rw [r_isKey hk, ob, if_neg i1n0, r_inN hv, ob, if_pos rfl]
      exact ⟨_, _, e6, bad _ _ _ _ 1 1 (by decide) (Or.inl ⟨rfl, rfl⟩) p1, fun k1 e => Or.inl (eq_r e), rfl, fun v e => (no_rl e).elim, hcn _ (fun _ _ _ => rfl)⟩
  · have e6 : fX6_put (II c) (II kd) (II sd) (II lm) (II fu) (II tb) trb tgr tK tV tO tW hnw hct hp x0 x1 = some (Sum.inr 1, II c, II fu, II tb, trb, tgr, tK, tV, tO, tW, hnw, hct, hp) := by
      unfold fX6_put
      rw [c_isKeyN hx, ob, if_pos rfl]
    have p1 : fX7_puts mre mex mfr (cpR mA 0 10) x0 x1 = some (1, mre, mex, mfr, cpR mA 0 10) := by
      unfold fX7_puts
      rw [r_isKeyN hx, ob, if_pos rfl]
    exact ⟨_, _, e6, bad _ _ _ _ 1 1 (by decide) (Or.inl ⟨rfl, rfl⟩) p1, fun k1 e => Or.inl (eq_r e), rfl, fun v e => (no_rl e).elim, hcn _ (fun _ _ _ => rfl)⟩
set_option maxHeartbeats 2000000 in
theorem k_remove {isv : Int32} {rpo : Int32} {rco : Int32} {tcp : Int32} {tkd : Int32} {tsd : Int32} {tlm : Int32} {tfu : Int32} {ttb : Int32} {trb : Int32} {tgr : Int32} {tK : Nat → Int32} {tV : Nat → Int32} {wcp : Int32} {wkd : Int32} {wsd : Int32} {wlm : Int32} {wfu : Int32} {wtb : Int32} {wrb : Int32} {wgr : Int32} {wK : Nat → Int32} {wV : Nat → Int32} {hnw : Int32} {hct : Int32} {hp : Nat → hTT} {pl : Int32} {pS : Nat → Int32} {ln : Int32} {lS : Nat → Int32} {mch : Int32} {msv : Int32} {mls : Int32} {mty : Int32} {mea : Int32} {mfa : Int32} {mA : Nat → Int32} {mL : Nat → Int32} {mI : Nat → Int32} {mth : Int32} {mre : Int32} {mex : Int32} {mfr : Int32} (h : Rel isv rpo rco tcp tkd tsd tlm tfu ttb trb tgr tK tV wcp wkd wsd wlm wfu wtb wrb wgr wK wV hnw hct hp pl pS ln lS mch msv mls mty mea mfa mA mL mI) (x0 : Int32) : ∃ out out2, fX6_remove tcp tkd tsd tlm tfu ttb trb tgr tK tV hnw hct hp x0 = some out ∧ fX7_remove mth mch mre mex mfr mA x0 = some out2 ∧ (∀ k1, out.1 = .inr k1 → k1 = 3) ∧ out2.2.1 = hkd [3] out.1 ∧ (∀ v, out.1 = .inl v → v = out2.1) ∧ Rel isv rpo rco tcp tkd tsd tlm out.2.1 out.2.2.1 trb tgr out.2.2.2.1 tV wcp wkd wsd wlm wfu wtb wrb wgr wK wV out.2.2.2.2.1 out.2.2.2.2.2.1 out.2.2.2.2.2.2 pl pS ln lS out2.2.2.1 msv mls mty mea mfa out2.2.2.2.2.2.2 mL mI := by
  have hc := chg h
  have hcn := chgN h
  obtain ⟨c, kd, sd, lm, fu, tb, ⟨rfl, rfl, rfl, rfl, rfl, rfl⟩, hI, hR, g6, g7⟩ := h.1
  obtain ⟨hnw', hct', hp', mch', e1, e2⟩ := hc
  by_cases hx : ∃ k, k ≤ 9999 ∧ x0 = II k ∧ tK (hs c kd sd tK k) = II k
  · obtain ⟨k, hk, rfl, hf⟩ := hx
    have hs9 := hs_64 (kd := kd) (sd := sd) (k := k) (K := tK) hI.cok
    have hp0 : 0 ≤ tK (hs c kd sd tK k) := by rw [hf]; exact n_0le (by omega)
    obtain ⟨mex1, mfr1, m1, p1, p2, p3, p4, p5⟩ := r_removes hI hR.begun hk hf mre mex mfr
    obtain ⟨m2, s1, s2⟩ := e2 m1 (II c) (II kd) (II sd) (II lm) (II (fu - 1)) (II (tb + 1)) trb tgr (upd tK (hs c kd sd tK k) (-2)) tV (fun i a _ => p5 i a) ⟨c, kd, sd, lm, fu - 1, tb + 1, ⟨rfl, rfl, rfl, rfl, rfl, rfl⟩, hI.bury hs9 hp0, p2, by rw [show 0 + 6 = 6 from rfl, p3, cp10_low (by omega)]; exact g6, by rw [show 0 + 7 = 7 from rfl, p4, cp10_low (by omega)]; exact g7⟩
    have e6 : fX6_remove (II c) (II kd) (II sd) (II lm) (II fu) (II tb) trb tgr tK tV hnw hct hp (II k) = some (Sum.inl (tV (hs c kd sd tK k)), II (fu - 1), II (tb + 1), upd tK (hs c kd sd tK k) (-2), hnw', hct', hp') := by
      unfold fX6_remove
      rw [c_hold hI.cok hI.kd2 hI.sd9 hk hI.emp, ob, if_pos hf, if_neg (n_ne1 (by omega)), c_valueOf hs9, ob, e1, ob, c_bury hI hs9 hp0, ob]
    have e7 : fX7_remove mth mch mre mex mfr mA (II k) = some (tV (hs c kd sd tK k), 0, mch', tV (hs c kd sd tK k), mex1, mfr1, m2) := by
      unfold fX7_remove
      rw [r_begins, ob, p1, ob]
      have e9 : fX7_ends mth mch (tV (hs c kd sd tK k)) m1 0 0 1 = some (tV (hs c kd sd tK k), 0, mch', m2) := by
        unfold fX7_ends
        rw [if_neg (by decide), if_neg (by decide)]
        exact s1 mth _
      show (fX7_ends mth mch (tV (hs c kd sd tK k)) m1 0 0 1).bind _ = _
      rw [e9, ob]
    exact ⟨_, _, e6, e7, fun k1 e => (no_lr e).elim, rfl, fun v e => eq_l e, s2⟩
  · have e6 : fX6_remove (II c) (II kd) (II sd) (II lm) (II fu) (II tb) trb tgr tK tV hnw hct hp x0 = some (Sum.inr 3, II fu, II tb, tK, hnw, hct, hp) := by
      unfold fX6_remove
      by_cases hx2 : ∃ k, k ≤ 9999 ∧ x0 = II k
      · obtain ⟨k, hk, rfl⟩ := hx2
        rw [c_hold hI.cok hI.kd2 hI.sd9 hk hI.emp, ob, if_neg (fun e => hx ⟨k, hk, rfl, e⟩), if_pos rfl]
      · rw [c_holdN hx2, ob, if_pos rfl]
    obtain ⟨mex1, mfr1, p1⟩ := r_removesN (x := x0) hI hR.begun hx mre mex mfr
    have e7 : fX7_remove mth mch mre mex mfr mA x0 = some (0, 1, mch, mre, mex1, mfr1, cpR (cpR mA 0 10) 10 0) := by
      unfold fX7_remove
      rw [r_begins, ob, p1, ob]
      have e9 : fX7_ends mth mch mre (cpR mA 0 10) 2 0 1 = some (0, 1, mch, cpR (cpR mA 0 10) 10 0) := by
        unfold fX7_ends
        rw [if_neg (by decide), if_pos rfl]
        exact r_endsF (by decide)
      show (fX7_ends mth mch mre (cpR mA 0 10) 2 0 1).bind _ = _
      rw [e9, ob]
    exact ⟨_, _, e6, e7, fun k1 e => eq_r e, rfl, fun v e => (no_rl e).elim, hcn _ (fun _ _ _ => rfl)⟩
set_option maxHeartbeats 2000000 in
theorem k_rebuild {isv : Int32} {rpo : Int32} {rco : Int32} {tcp : Int32} {tkd : Int32} {tsd : Int32} {tlm : Int32} {tfu : Int32} {ttb : Int32} {trb : Int32} {tgr : Int32} {tK : Nat → Int32} {tV : Nat → Int32} {wcp : Int32} {wkd : Int32} {wsd : Int32} {wlm : Int32} {wfu : Int32} {wtb : Int32} {wrb : Int32} {wgr : Int32} {wK : Nat → Int32} {wV : Nat → Int32} {hnw : Int32} {hct : Int32} {hp : Nat → hTT} {pl : Int32} {pS : Nat → Int32} {ln : Int32} {lS : Nat → Int32} {mch : Int32} {msv : Int32} {mls : Int32} {mty : Int32} {mea : Int32} {mfa : Int32} {mA : Nat → Int32} {mL : Nat → Int32} {mI : Nat → Int32} {tO : Nat → Int32} {tW : Nat → Int32} {mth : Int32} {mre : Int32} {mex : Int32} {mfr : Int32} (h : Rel isv rpo rco tcp tkd tsd tlm tfu ttb trb tgr tK tV wcp wkd wsd wlm wfu wtb wrb wgr wK wV hnw hct hp pl pS ln lS mch msv mls mty mea mfa mA mL mI) : ∃ out out2, fX6_rebuild tcp tkd tsd tlm tfu ttb trb tgr tK tV tO tW hnw hct hp = some out ∧ fX7_rebuild mth mch mre mex mfr mA = some out2 ∧ out.1 = out2.1 ∧ Rel isv rpo rco out.2.1 tkd tsd tlm out.2.2.1 out.2.2.2.1 out.2.2.2.2.1 out.2.2.2.2.2.1 out.2.2.2.2.2.2.1 out.2.2.2.2.2.2.2.1 wcp wkd wsd wlm wfu wtb wrb wgr wK wV out.2.2.2.2.2.2.2.2.2.2.1 out.2.2.2.2.2.2.2.2.2.2.2.1 out.2.2.2.2.2.2.2.2.2.2.2.2 pl pS ln lS out2.2.2.1 msv mls mty mea mfa out2.2.2.2.2.2.2 mL mI := by
  have hc := chg h
  obtain ⟨c, kd, sd, lm, fu, tb, ⟨rfl, rfl, rfl, rfl, rfl, rfl⟩, hI, hR, g6, g7⟩ := h.1
  obtain ⟨hnw', hct', hp', mch', e1, e2⟩ := hc
  obtain ⟨K', V', q1, q2, -, -, q5⟩ := b_rebuild (c' := c) (kd := kd) (sd := sd) (O := tO) (W := tW) hI hI.cok hI.kd2 hI.sd9 (by have := hI.ft; omega) trb tgr
  obtain ⟨mex1, mfr1, m1, p1, p2, p3, p4, p5⟩ := q5 (cpR mA 0 10) mex mfr hR.begun
  rw [if_pos (Nat.le_refl _)] at q1 p4
  obtain ⟨m2, s1, s2⟩ := e2 m1 (II c) (II kd) (II sd) (II lm) (II fu) (II 0) (trb + 1) tgr K' V' p5 ⟨c, kd, sd, lm, fu, 0, ⟨rfl, rfl, rfl, rfl, rfl, rfl⟩, q2, p2, by rw [show 0 + 6 = 6 from rfl, p3, cp10_low (by omega)]; exact congrArg (· + 1) g6, by rw [show 0 + 7 = 7 from rfl, p4, cp10_low (by omega)]; exact g7⟩
  have e6 : fX6_rebuild (II c) (II kd) (II sd) (II lm) (II fu) (II tb) trb tgr tK tV tO tW hnw hct hp = some (II tb, II c, II fu, II 0, trb + 1, tgr, K', V', va_cpy tK tO 0 0 64, va_cpy tV tW 0 0 64, hnw', hct', hp') := by
    unfold fX6_rebuild
    rw [e1, ob, q1, ob]
  have e7 : fX7_rebuild mth mch mre mex mfr mA = some (II tb, 0, mch', II tb, mex1, mfr1, m2) := by
    unfold fX7_rebuild fX7_rebuildsNow
    rw [r_begins, ob, hR.begun.c0, p1, ob, ob, hR.begun.c2]
    have e9 : fX7_ends mth mch (II tb) m1 0 0 0 = some (II tb, 0, mch', m2) := by
      unfold fX7_ends
      rw [if_neg (by decide), if_neg (by decide)]
      exact s1 mth _
    show (fX7_ends mth mch (II tb) m1 0 0 0).bind _ = _
    rw [e9, ob]
  exact ⟨_, _, e6, e7, rfl, s2⟩
set_option maxHeartbeats 2000000 in
theorem k_setKind {isv : Int32} {rpo : Int32} {rco : Int32} {tcp : Int32} {tkd : Int32} {tsd : Int32} {tlm : Int32} {tfu : Int32} {ttb : Int32} {trb : Int32} {tgr : Int32} {tK : Nat → Int32} {tV : Nat → Int32} {wcp : Int32} {wkd : Int32} {wsd : Int32} {wlm : Int32} {wfu : Int32} {wtb : Int32} {wrb : Int32} {wgr : Int32} {wK : Nat → Int32} {wV : Nat → Int32} {hnw : Int32} {hct : Int32} {hp : Nat → hTT} {pl : Int32} {pS : Nat → Int32} {ln : Int32} {lS : Nat → Int32} {mch : Int32} {msv : Int32} {mls : Int32} {mty : Int32} {mea : Int32} {mfa : Int32} {mA : Nat → Int32} {mL : Nat → Int32} {mI : Nat → Int32} {tO : Nat → Int32} {tW : Nat → Int32} {mth : Int32} {mre : Int32} {mex : Int32} {mfr : Int32} (h : Rel isv rpo rco tcp tkd tsd tlm tfu ttb trb tgr tK tV wcp wkd wsd wlm wfu wtb wrb wgr wK wV hnw hct hp pl pS ln lS mch msv mls mty mea mfa mA mL mI) (x0 : Int32) : ∃ out out2, fX6_setKind tcp tkd tsd tlm tfu ttb trb tgr tK tV tO tW hnw hct hp x0 = some out ∧ fX7_setKind mth mch mre mex mfr mA x0 = some out2 ∧ (∀ k1, out.1 = .inr k1 → k1 = 1) ∧ out2.2.1 = hkd [1] out.1 ∧ (∀ v, out.1 = .inl v → v = out2.1) ∧ Rel isv rpo rco out.2.1 out.2.2.1 tsd tlm out.2.2.2.1 out.2.2.2.2.1 out.2.2.2.2.2.1 out.2.2.2.2.2.2.1 out.2.2.2.2.2.2.2.1 out.2.2.2.2.2.2.2.2.1 wcp wkd wsd wlm wfu wtb wrb wgr wK wV out.2.2.2.2.2.2.2.2.2.2.2.1 out.2.2.2.2.2.2.2.2.2.2.2.2.1 out.2.2.2.2.2.2.2.2.2.2.2.2.2 pl pS ln lS out2.2.2.1 msv mls mty mea mfa out2.2.2.2.2.2.2 mL mI := by
  have hc := chg h
  have hcn := chgN h
  obtain ⟨c, kd, sd, lm, fu, tb, ⟨rfl, rfl, rfl, rfl, rfl, rfl⟩, hI, hR, g6, g7⟩ := h.1
  obtain ⟨hnw', hct', hp', mch', e1, e2⟩ := hc
  by_cases hx : (0 : Int32) ≤ x0 ∧ x0 ≤ (2 : Int32)
  · obtain ⟨k, hk, rfl⟩ := n_of2 (n := 2) (by decide) hx.1 hx.2
    obtain ⟨K', V', q1, q2, -, -, q5⟩ := b_rebuild (c' := c) (kd := k) (sd := sd) (O := tO) (W := tW) hI hI.cok (by omega) hI.sd9 (by have := hI.ft; omega) trb tgr
    have hR9 : Rw 0 c k sd lm fu tb tK tV (upd (cpR mA 0 10) 3 (II k)) := by
      have hb := hR.begun
      refine ⟨?_, ?_, ?_, ?_, ?_, ?_, fun s hs => ?_⟩
      · rw [upd_ne (by omega)]; exact hb.c0
      · rw [upd_ne (by omega)]; exact hb.c1
      · rw [upd_ne (by omega)]; exact hb.c2
      · exact upd_at _ _ _
      · rw [upd_ne (by omega)]; exact hb.c4
      · rw [upd_ne (by omega)]; exact hb.c5
      · rw [upd_ne (by omega), upd_ne (by omega), upd_ne (by omega)]
        exact hb.2.2.2.2.2.2 s hs
    obtain ⟨mex1, mfr1, m1, p1, p2, p3, p4, p5⟩ := q5 (upd (cpR mA 0 10) 3 (II k)) mex mfr hR9
    rw [if_pos (Nat.le_refl _)] at q1 p4
    rw [upd_ne (by omega)] at p3 p4
    obtain ⟨m2, s1, s2⟩ := e2 m1 (II c) (II k) (II sd) (II lm) (II fu) (II 0) (trb + 1) tgr K' V' (fun i a b => by rw [p5 i a b, upd_ne (by omega)]) ⟨c, k, sd, lm, fu, 0, ⟨rfl, rfl, rfl, rfl, rfl, rfl⟩, q2, p2, by rw [show 0 + 6 = 6 from rfl, p3, cp10_low (by omega)]; exact congrArg (· + 1) g6, by rw [show 0 + 7 = 7 from rfl, p4, cp10_low (by omega)]; exact g7⟩
    have e6 : fX6_setKind (II c) (II kd) (II sd) (II lm) (II fu) (II tb) trb tgr tK tV tO tW hnw hct hp (II k) = some (Sum.inl (II kd), II c, II k, II fu, II 0, trb + 1, tgr, K', V', va_cpy tK tO 0 0 64, va_cpy tV tW 0 0 64, hnw', hct', hp') := by
      unfold fX6_setKind fX5_changeKind
      rw [show fX6_isKind (II k) = some 1 from by unfold fX6_isKind; rw [if_neg (n_nlt0 (by omega)), if_neg (fun e : (3 : Int32) ≤ II k => by have := (n_le (a := 3) (by decide) (by omega)).mp e; omega)], ob, if_neg i1n0, e1, ob, q1, ob, ob]
    have e7 : fX7_setKind mth mch mre mex mfr mA (II k) = some (II kd, 0, mch', II kd, mex1, mfr1, m2) := by
      unfold fX7_setKind fX7_turns
      rw [r_begins, ob, r_inY (x := II k) (a := 0) (b := 2) hx, ob, if_neg i1n0, show hl_in (3 : Int32) 2600 = true from by decide, if_pos rfl, if_pos rfl, show (3 : Int32).toNatClampNeg = 3 from by decide, upd_ne (f := cpR mA 0 10) (j := 0) (by omega), hR.begun.c0, p1, ob, ob, hR.begun.c3]
      have e9 : fX7_ends mth mch (II kd) m1 0 1 0 = some (II kd, 0, mch', m2) := by
        unfold fX7_ends
        rw [if_neg (by decide), if_neg (by decide)]
        exact s1 mth _
      show (fX7_ends mth mch (II kd) m1 0 1 0).bind _ = _
      rw [e9, ob]
    exact ⟨_, _, e6, e7, fun k1 e => (no_lr e).elim, rfl, fun v e => eq_l e, s2⟩
  · have e6 : fX6_setKind (II c) (II kd) (II sd) (II lm) (II fu) (II tb) trb tgr tK tV tO tW hnw hct hp x0 = some (Sum.inr 1, II c, II kd, II fu, II tb, trb, tgr, tK, tV, tO, tW, hnw, hct, hp) := by
      unfold fX6_setKind
      rw [show fX6_isKind x0 = some 0 from by
        unfold fX6_isKind
        by_cases h0 : x0 < 0
        · rw [if_pos h0]
        · rw [if_neg h0]
          by_cases h1 : (3 : Int32) ≤ x0
          · rw [if_pos h1]
          · exact absurd ⟨i_nlt.mp h0, i2_of3 (i_nle.mp h1)⟩ hx, ob, if_pos rfl]
    have e7 : fX7_setKind mth mch mre mex mfr mA x0 = some (0, 1, mch, mre, mex, mfr, cpR (cpR mA 0 10) 10 0) := by
      unfold fX7_setKind fX7_turns
      rw [r_begins, ob, r_inN hx, ob, if_pos rfl, ob]
      have e9 : fX7_ends mth mch mre (cpR mA 0 10) 1 1 0 = some (0, 1, mch, cpR (cpR mA 0 10) 10 0) := by
        unfold fX7_ends
        rw [if_pos rfl]
        exact r_endsF (by decide)
      show (fX7_ends mth mch mre (cpR mA 0 10) 1 1 0).bind _ = _
      rw [e9, ob]
    exact ⟨_, _, e6, e7, fun k1 e => eq_r e, rfl, fun v e => (no_rl e).elim, hcn _ (fun _ _ _ => rfl)⟩
set_option maxHeartbeats 2000000 in
theorem k_setSeed {isv : Int32} {rpo : Int32} {rco : Int32} {tcp : Int32} {tkd : Int32} {tsd : Int32} {tlm : Int32} {tfu : Int32} {ttb : Int32} {trb : Int32} {tgr : Int32} {tK : Nat → Int32} {tV : Nat → Int32} {wcp : Int32} {wkd : Int32} {wsd : Int32} {wlm : Int32} {wfu : Int32} {wtb : Int32} {wrb : Int32} {wgr : Int32} {wK : Nat → Int32} {wV : Nat → Int32} {hnw : Int32} {hct : Int32} {hp : Nat → hTT} {pl : Int32} {pS : Nat → Int32} {ln : Int32} {lS : Nat → Int32} {mch : Int32} {msv : Int32} {mls : Int32} {mty : Int32} {mea : Int32} {mfa : Int32} {mA : Nat → Int32} {mL : Nat → Int32} {mI : Nat → Int32} {tO : Nat → Int32} {tW : Nat → Int32} {mth : Int32} {mre : Int32} {mex : Int32} {mfr : Int32} (h : Rel isv rpo rco tcp tkd tsd tlm tfu ttb trb tgr tK tV wcp wkd wsd wlm wfu wtb wrb wgr wK wV hnw hct hp pl pS ln lS mch msv mls mty mea mfa mA mL mI) (x0 : Int32) : ∃ out out2, fX6_setSeed tcp tkd tsd tlm tfu ttb trb tgr tK tV tO tW hnw hct hp x0 = some out ∧ fX7_setSeed mth mch mre mex mfr mA x0 = some out2 ∧ (∀ k1, out.1 = .inr k1 → k1 = 1) ∧ out2.2.1 = hkd [1] out.1 ∧ (∀ v, out.1 = .inl v → v = out2.1) ∧ Rel isv rpo rco out.2.1 tkd out.2.2.1 tlm out.2.2.2.1 out.2.2.2.2.1 out.2.2.2.2.2.1 out.2.2.2.2.2.2.1 out.2.2.2.2.2.2.2.1 out.2.2.2.2.2.2.2.2.1 wcp wkd wsd wlm wfu wtb wrb wgr wK wV out.2.2.2.2.2.2.2.2.2.2.2.1 out.2.2.2.2.2.2.2.2.2.2.2.2.1 out.2.2.2.2.2.2.2.2.2.2.2.2.2 pl pS ln lS out2.2.2.1 msv mls mty mea mfa out2.2.2.2.2.2.2 mL mI := by
  have hc := chg h
  have hcn := chgN h
  obtain ⟨c, kd, sd, lm, fu, tb, ⟨rfl, rfl, rfl, rfl, rfl, rfl⟩, hI, hR, g6, g7⟩ := h.1
  obtain ⟨hnw', hct', hp', mch', e1, e2⟩ := hc
  by_cases hx : (0 : Int32) ≤ x0 ∧ x0 ≤ (999 : Int32)
  · obtain ⟨k, hk, rfl⟩ := n_of2 (n := 999) (by decide) hx.1 hx.2
    obtain ⟨K', V', q1, q2, -, -, q5⟩ := b_rebuild (c' := c) (kd := kd) (sd := k) (O := tO) (W := tW) hI hI.cok hI.kd2 (by omega) (by have := hI.ft; omega) trb tgr
    have hR9 : Rw 0 c kd k lm fu tb tK tV (upd (cpR mA 0 10) 4 (II k)) := by
      have hb := hR.begun
      refine ⟨?_, ?_, ?_, ?_, ?_, ?_, fun s hs => ?_⟩
      · rw [upd_ne (by omega)]; exact hb.c0
      · rw [upd_ne (by omega)]; exact hb.c1
      · rw [upd_ne (by omega)]; exact hb.c2
      · rw [upd_ne (by omega)]; exact hb.c3
      · exact upd_at _ _ _
      · rw [upd_ne (by omega)]; exact hb.c5
      · rw [upd_ne (by omega), upd_ne (by omega), upd_ne (by omega)]
        exact hb.2.2.2.2.2.2 s hs
    obtain ⟨mex1, mfr1, m1, p1, p2, p3, p4, p5⟩ := q5 (upd (cpR mA 0 10) 4 (II k)) mex mfr hR9
    rw [if_pos (Nat.le_refl _)] at q1 p4
    rw [upd_ne (by omega)] at p3 p4
    obtain ⟨m2, s1, s2⟩ := e2 m1 (II c) (II kd) (II k) (II lm) (II fu) (II 0) (trb + 1) tgr K' V' (fun i a b => by rw [p5 i a b, upd_ne (by omega)]) ⟨c, kd, k, lm, fu, 0, ⟨rfl, rfl, rfl, rfl, rfl, rfl⟩, q2, p2, by rw [show 0 + 6 = 6 from rfl, p3, cp10_low (by omega)]; exact congrArg (· + 1) g6, by rw [show 0 + 7 = 7 from rfl, p4, cp10_low (by omega)]; exact g7⟩
    have e6 : fX6_setSeed (II c) (II kd) (II sd) (II lm) (II fu) (II tb) trb tgr tK tV tO tW hnw hct hp (II k) = some (Sum.inl (II sd), II c, II k, II fu, II 0, trb + 1, tgr, K', V', va_cpy tK tO 0 0 64, va_cpy tV tW 0 0 64, hnw', hct', hp') := by
      unfold fX6_setSeed fX5_changeSeed
      rw [show fX6_isSeed (II k) = some 1 from by unfold fX6_isSeed; rw [if_neg (n_nlt0 (by omega)), if_neg (fun e : (999 : Int32) < II k => by have := (n_lt (a := 999) (by decide) (by omega)).mp e; omega)], ob, if_neg i1n0, e1, ob, q1, ob, ob]
    have e7 : fX7_setSeed mth mch mre mex mfr mA (II k) = some (II sd, 0, mch', II sd, mex1, mfr1, m2) := by
      unfold fX7_setSeed fX7_turns
      rw [r_begins, ob, r_inY (x := II k) (a := 0) (b := 999) hx, ob, if_neg i1n0, show hl_in (4 : Int32) 2600 = true from by decide, if_pos rfl, if_pos rfl, show (4 : Int32).toNatClampNeg = 4 from by decide, upd_ne (f := cpR mA 0 10) (j := 0) (by omega), hR.begun.c0, p1, ob, ob, hR.begun.c4]
      have e9 : fX7_ends mth mch (II sd) m1 0 1 0 = some (II sd, 0, mch', m2) := by
        unfold fX7_ends
        rw [if_neg (by decide), if_neg (by decide)]
        exact s1 mth _
      show (fX7_ends mth mch (II sd) m1 0 1 0).bind _ = _
      rw [e9, ob]
    exact ⟨_, _, e6, e7, fun k1 e => (no_lr e).elim, rfl, fun v e => eq_l e, s2⟩
  · have e6 : fX6_setSeed (II c) (II kd) (II sd) (II lm) (II fu) (II tb) trb tgr tK tV tO tW hnw hct hp x0 = some (Sum.inr 1, II c, II sd, II fu, II tb, trb, tgr, tK, tV, tO, tW, hnw, hct, hp) := by
      unfold fX6_setSeed
      rw [show fX6_isSeed x0 = some 0 from by
        unfold fX6_isSeed
        by_cases h0 : x0 < 0
        · rw [if_pos h0]
        · rw [if_neg h0]
          by_cases h1 : (999 : Int32) < x0
          · rw [if_pos h1]
          · exact absurd ⟨i_nlt.mp h0, i_nlt.mp h1⟩ hx, ob, if_pos rfl]
    have e7 : fX7_setSeed mth mch mre mex mfr mA x0 = some (0, 1, mch, mre, mex, mfr, cpR (cpR mA 0 10) 10 0) := by
      unfold fX7_setSeed fX7_turns
      rw [r_begins, ob, r_inN hx, ob, if_pos rfl, ob]
      have e9 : fX7_ends mth mch mre (cpR mA 0 10) 1 1 0 = some (0, 1, mch, cpR (cpR mA 0 10) 10 0) := by
        unfold fX7_ends
        rw [if_pos rfl]
        exact r_endsF (by decide)
      show (fX7_ends mth mch mre (cpR mA 0 10) 1 1 0).bind _ = _
      rw [e9, ob]
    exact ⟨_, _, e6, e7, fun k1 e => eq_r e, rfl, fun v e => (no_rl e).elim, hcn _ (fun _ _ _ => rfl)⟩
set_option maxHeartbeats 2000000 in
theorem k_setLimit {isv : Int32} {rpo : Int32} {rco : Int32} {tcp : Int32} {tkd : Int32} {tsd : Int32} {tlm : Int32} {tfu : Int32} {ttb : Int32} {trb : Int32} {tgr : Int32} {tK : Nat → Int32} {tV : Nat → Int32} {wcp : Int32} {wkd : Int32} {wsd : Int32} {wlm : Int32} {wfu : Int32} {wtb : Int32} {wrb : Int32} {wgr : Int32} {wK : Nat → Int32} {wV : Nat → Int32} {hnw : Int32} {hct : Int32} {hp : Nat → hTT} {pl : Int32} {pS : Nat → Int32} {ln : Int32} {lS : Nat → Int32} {mch : Int32} {msv : Int32} {mls : Int32} {mty : Int32} {mea : Int32} {mfa : Int32} {mA : Nat → Int32} {mL : Nat → Int32} {mI : Nat → Int32} {mth : Int32} {mre : Int32} (h : Rel isv rpo rco tcp tkd tsd tlm tfu ttb trb tgr tK tV wcp wkd wsd wlm wfu wtb wrb wgr wK wV hnw hct hp pl pS ln lS mch msv mls mty mea mfa mA mL mI) (x0 : Int32) : ∃ out out2, fX6_setLimit tcp tkd tsd tlm tfu ttb trb tgr tK tV hnw hct hp x0 = some out ∧ fX7_setLimit mth mch mre mA x0 = some out2 ∧ (∀ k1, out.1 = .inr k1 → k1 = 1) ∧ out2.2.1 = hkd [1] out.1 ∧ (∀ v, out.1 = .inl v → v = out2.1) ∧ Rel isv rpo rco tcp tkd tsd out.2.1 tfu ttb trb tgr tK tV wcp wkd wsd wlm wfu wtb wrb wgr wK wV out.2.2.1 out.2.2.2.1 out.2.2.2.2 pl pS ln lS out2.2.2.1 msv mls mty mea mfa out2.2.2.2.2 mL mI := by
  have hc := chg h
  have hcn := chgN h
  obtain ⟨c, kd, sd, lm, fu, tb, ⟨rfl, rfl, rfl, rfl, rfl, rfl⟩, hI, hR, g6, g7⟩ := h.1
  obtain ⟨hnw', hct', hp', mch', e1, e2⟩ := hc
  by_cases hx : (25 : Int32) ≤ x0 ∧ x0 ≤ (90 : Int32)
  · have h0 : (0 : Int32) ≤ x0 := by
      have h9 := hx.1
      rw [fa_le, show (25 : Int32).toInt = 25 from by decide] at h9
      rw [fa_le, show (0 : Int32).toInt = 0 from by decide]
      omega
    obtain ⟨k, hk, rfl⟩ := n_of2 (n := 90) (by decide) h0 hx.2
    have hk2 : 25 ≤ k := (n_le (a := 25) (by decide) (by omega)).mp hx.1
    have hb := hR.begun
    obtain ⟨m2, s1, s2⟩ := e2 (upd (cpR mA 0 10) 5 (II k)) (II c) (II kd) (II sd) (II k) (II fu) (II tb) trb tgr tK tV (fun i a b => upd_ne (by omega)) ⟨c, kd, sd, k, fu, tb, ⟨rfl, rfl, rfl, rfl, rfl, rfl⟩, ⟨hI.1, hI.2.1, hI.2.2.1, ⟨hk2, hk⟩, hI.2.2.2.2⟩,
      ⟨by rw [upd_ne (by omega)]; exact hb.c0, by rw [upd_ne (by omega)]; exact hb.c1, by rw [upd_ne (by omega)]; exact hb.c2, by rw [upd_ne (by omega)]; exact hb.c3, by rw [upd_ne (by omega)]; exact hb.c4, upd_at _ _ _, fun s hs => by rw [upd_ne (by omega), upd_ne (by omega), upd_ne (by omega)]; exact hb.2.2.2.2.2.2 s hs⟩,
      by rw [upd_ne (by omega), cp10_low (by omega)]; exact g6, by rw [upd_ne (by omega), cp10_low (by omega)]; exact g7⟩
    have e6 : fX6_setLimit (II c) (II kd) (II sd) (II lm) (II fu) (II tb) trb tgr tK tV hnw hct hp (II k) = some (Sum.inl (II lm), II k, hnw', hct', hp') := by
      unfold fX6_setLimit fX6_isLimit
      rw [if_neg (i_nlt.mpr hx.1), if_neg (i_nlt.mpr hx.2), ob, if_neg i1n0, e1, ob]
    have e7 : fX7_setLimit mth mch mre mA (II k) = some (II lm, 0, mch', II lm, m2) := by
      unfold fX7_setLimit fX7_limits
      rw [r_begins, ob, r_inY (x := II k) (a := 25) (b := 90) hx, ob, if_neg i1n0, ob, hb.c5]
      have e9 : fX7_ends mth mch (II lm) (upd (cpR mA 0 10) 5 (II k)) 0 1 0 = some (II lm, 0, mch', m2) := by
        unfold fX7_ends
        rw [if_neg (by decide), if_neg (by decide)]
        exact s1 mth _
      show (fX7_ends mth mch (II lm) (upd (cpR mA 0 10) 5 (II k)) 0 1 0).bind _ = _
      rw [e9, ob]
    exact ⟨_, _, e6, e7, fun k1 e => (no_lr e).elim, rfl, fun v e => eq_l e, s2⟩
  · have e6 : fX6_setLimit (II c) (II kd) (II sd) (II lm) (II fu) (II tb) trb tgr tK tV hnw hct hp x0 = some (Sum.inr 1, II lm, hnw, hct, hp) := by
      unfold fX6_setLimit
      rw [show fX6_isLimit x0 = some 0 from by
        unfold fX6_isLimit
        by_cases h0 : x0 < 25
        · rw [if_pos h0]
        · rw [if_neg h0]
          by_cases h1 : (90 : Int32) < x0
          · rw [if_pos h1]
          · exact absurd ⟨i_nlt.mp h0, i_nlt.mp h1⟩ hx, ob, if_pos rfl]
    have e7 : fX7_setLimit mth mch mre mA x0 = some (0, 1, mch, mre, cpR (cpR mA 0 10) 10 0) := by
      unfold fX7_setLimit fX7_limits
      rw [r_begins, ob, r_inN hx, ob, if_pos rfl, ob]
      have e9 : fX7_ends mth mch mre (cpR mA 0 10) 1 1 0 = some (0, 1, mch, cpR (cpR mA 0 10) 10 0) := by
        unfold fX7_ends
        rw [if_pos rfl]
        exact r_endsF (by decide)
      show (fX7_ends mth mch mre (cpR mA 0 10) 1 1 0).bind _ = _
      rw [e9, ob]
    exact ⟨_, _, e6, e7, fun k1 e => eq_r e, rfl, fun v e => (no_rl e).elim, hcn _ (fun _ _ _ => rfl)⟩
set_option maxHeartbeats 2000000 in
theorem k_clear {isv : Int32} {rpo : Int32} {rco : Int32} {tcp : Int32} {tkd : Int32} {tsd : Int32} {tlm : Int32} {tfu : Int32} {ttb : Int32} {trb : Int32} {tgr : Int32} {tK : Nat → Int32} {tV : Nat → Int32} {wcp : Int32} {wkd : Int32} {wsd : Int32} {wlm : Int32} {wfu : Int32} {wtb : Int32} {wrb : Int32} {wgr : Int32} {wK : Nat → Int32} {wV : Nat → Int32} {hnw : Int32} {hct : Int32} {hp : Nat → hTT} {pl : Int32} {pS : Nat → Int32} {ln : Int32} {lS : Nat → Int32} {mch : Int32} {msv : Int32} {mls : Int32} {mty : Int32} {mea : Int32} {mfa : Int32} {mA : Nat → Int32} {mL : Nat → Int32} {mI : Nat → Int32} {mth : Int32} {mre : Int32} (h : Rel isv rpo rco tcp tkd tsd tlm tfu ttb trb tgr tK tV wcp wkd wsd wlm wfu wtb wrb wgr wK wV hnw hct hp pl pS ln lS mch msv mls mty mea mfa mA mL mI) : ∃ out out2, fX6_clear tcp tkd tsd tlm tfu ttb trb tgr tK tV hnw hct hp = some out ∧ fX7_clear mth mch mre mA = some out2 ∧ out.1 = out2.1 ∧ Rel isv rpo rco out.2.1 tkd tsd tlm out.2.2.1 out.2.2.2.1 trb tgr out.2.2.2.2.1 tV wcp wkd wsd wlm wfu wtb wrb wgr wK wV out.2.2.2.2.2.1 out.2.2.2.2.2.2.1 out.2.2.2.2.2.2.2 pl pS ln lS out2.2.2.1 msv mls mty mea mfa out2.2.2.2.2 mL mI := by
  have hc := chg h
  obtain ⟨c, kd, sd, lm, fu, tb, ⟨rfl, rfl, rfl, rfl, rfl, rfl⟩, hI, hR, g6, g7⟩ := h.1
  obtain ⟨hnw', hct', hp', mch', e1, e2⟩ := hc
  have hb := hR.begun
  obtain ⟨m1, p1, p2, p3⟩ := r_empties (mA := cpR mA 0 10) (c := 8) (kd := kd) (sd := sd) (lm := lm) (K := tK) (V := tV) hb.c3 hb.c4 hb.c5
  obtain ⟨m2, s1, s2⟩ := e2 m1 (II 8) (II kd) (II sd) (II lm) (II 0) (II 0) trb tgr (eK tK) tV (fun i a b => p3 i (Or.inr a)) ⟨8, kd, sd, lm, 0, 0, ⟨rfl, rfl, rfl, rfl, rfl, rfl⟩, Inv.empty (Or.inl rfl) hI.kd2 hI.sd9 hI.lm9, p2, by rw [p3 _ (by omega), cp10_low (by omega)]; exact g6, by rw [p3 _ (by omega), cp10_low (by omega)]; exact g7⟩
  have e6 : fX6_clear (II c) (II kd) (II sd) (II lm) (II fu) (II tb) trb tgr tK tV hnw hct hp = some (II fu, II 8, II 0, II 0, eK tK, hnw', hct', hp') := by
    unfold fX6_clear
    rw [e1, ob, c_empty, ob]
    rfl
  have e7 : fX7_clear mth mch mre mA = some (II fu, 0, mch', II fu, m2) := by
    unfold fX7_clear fX7_clears
    rw [r_begins, ob, show fX7_empties (cpR mA 0 10) (8 : Int32) = some m1 from p1, ob, ob, hb.c1]
    have e9 : fX7_ends mth mch (II fu) m1 0 0 0 = some (II fu, 0, mch', m2) := by
      unfold fX7_ends
      rw [if_neg (by decide), if_neg (by decide)]
      exact s1 mth _
    show (fX7_ends mth mch (II fu) m1 0 0 0).bind _ = _
    rw [e9, ob]
  exact ⟨_, _, e6, e7, rfl, s2⟩
