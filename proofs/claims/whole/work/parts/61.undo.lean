/-! calls of both: undo save restore size capacity tombstones kind seed limit rebuilds growths isNearLimit errorPosition failedCommand -/
set_option maxHeartbeats 2000000 in
theorem k_undo {isv : Int32} {rpo : Int32} {rco : Int32} {tcp : Int32} {tkd : Int32} {tsd : Int32} {tlm : Int32} {tfu : Int32} {ttb : Int32} {trb : Int32} {tgr : Int32} {tK : Nat → Int32} {tV : Nat → Int32} {wcp : Int32} {wkd : Int32} {wsd : Int32} {wlm : Int32} {wfu : Int32} {wtb : Int32} {wrb : Int32} {wgr : Int32} {wK : Nat → Int32} {wV : Nat → Int32} {hnw : Int32} {hct : Int32} {hp : Nat → hTT} {pl : Int32} {pS : Nat → Int32} {ln : Int32} {lS : Nat → Int32} {mch : Int32} {msv : Int32} {mls : Int32} {mty : Int32} {mea : Int32} {mfa : Int32} {mA : Nat → Int32} {mL : Nat → Int32} {mI : Nat → Int32} {mth : Int32} (h : Rel isv rpo rco tcp tkd tsd tlm tfu ttb trb tgr tK tV wcp wkd wsd wlm wfu wtb wrb wgr wK wV hnw hct hp pl pS ln lS mch msv mls mty mea mfa mA mL mI) : ∃ out out2, fX6_undo tcp tkd tsd tlm tfu ttb trb tgr tK tV hnw hct hp = some out ∧ fX7_undo mth mch mA = some out2 ∧ (∀ k1, out.1 = .inr k1 → k1 = 2) ∧ out2.2.1 = hcd [2] out.1 ∧ (∀ v, out.1 = .inl v → v = out2.1) ∧ Rel isv rpo rco out.2.1 out.2.2.1 out.2.2.2.1 out.2.2.2.2.1 out.2.2.2.2.2.1 out.2.2.2.2.2.2.1 out.2.2.2.2.2.2.2.1 out.2.2.2.2.2.2.2.2.1 out.2.2.2.2.2.2.2.2.2.1 out.2.2.2.2.2.2.2.2.2.2.1 wcp wkd wsd wlm wfu wtb wrb wgr wK wV out.2.2.2.2.2.2.2.2.2.2.2.1 out.2.2.2.2.2.2.2.2.2.2.2.2 hp pl pS ln lS out2.2.2.1 msv mls mty mea mfa out2.2.2.2 mL mI := by
  obtain ⟨h1, ⟨n, k, hn, hk, rfl, rfl, rfl, hh⟩, ⟨h3, h4, h5⟩, h6, h7, h8, h9⟩ := h
  by_cases hk0 : k = 0
  · subst hk0
    have e6 : fX6_undo tcp tkd tsd tlm tfu ttb trb tgr tK tV (II n) (II 0) hp = some (Sum.inr 2, tcp, tkd, tsd, tlm, tfu, ttb, trb, tgr, tK, tV, II n, II 0) := by
      unfold fX6_undo
      rw [if_neg (by decide)]
    have e7 : fX7_undo mth (II 0) mA = some (0, 1, II 0, mA) := by
      unfold fX7_undo fX7_undo_13 fX7_isFine
      rw [if_pos (by decide), if_pos rfl, if_pos r_nar0, ob]
      exact if_pos rfl
    exact ⟨_, _, e6, e7, fun k1 e => eq_r e, rfl, fun v e => (no_rl e).elim, h1, ⟨n, 0, hn, hk, rfl, rfl, rfl, hh⟩, ⟨h3, h4, h5⟩, h6, h7, h8, h9⟩
  · have h0 := hh 0 (by omega)
    rw [show (n + 8 - 0) % 8 = n from by omega, Nat.sub_zero] at h0
    have etb : ∀ a b c d e f g i K V k0, fX2_takeBack_33 (II n) (II k) a b c d e f g i K V hp k0 = some (k0, II (k - 1), a, b, c, d, e, f, g, i, K, V) := fun a b c d e f g i K V k0 => by
      unfold fX2_takeBack_33
      rw [show II k - (1 : Int32) = II (k - 1) from n_sub (b := 1) (by omega), if_neg (show ¬ II (k - 1) < (0 : Int32) from n_nlt0 (by omega))]
    have et : fX2_takeBack (II n) (II k) tcp tkd tsd tlm tfu ttb trb tgr tK tV hp = some (II ((n + 7) % 8), II (k - 1), (hp n).2.2.2.2.1, (hp n).2.2.2.2.2.1, (hp n).2.2.2.2.2.2.1, (hp n).2.2.2.2.2.2.2.1, (hp n).2.2.2.2.2.2.2.2.1, (hp n).2.2.2.2.2.2.2.2.2.1, (hp n).2.2.2.2.2.2.2.2.2.2.1, (hp n).2.2.2.2.2.2.2.2.2.2.2, va_cpy (hp n).1 tK 0 0 64, va_cpy (hp n).2.1 tV 0 0 64) := by
      unfold fX2_takeBack
      rw [if_pos (n_in (by omega) hn), n_cl (by omega), c_copyFrom, ob, etb, etb]
      by_cases e : n = 0
      · subst e
        rw [if_pos (by decide)]
        rfl
      · rw [if_neg (fun e2 : II n ≤ (0 : Int32) => e (by have := (n_le (b := 0) (by omega) (by decide)).mp e2; omega)), show II n - (1 : Int32) = II (n - 1) from n_sub (b := 1) (by omega), show (n + 7) % 8 = n - 1 from by omega]
    have e6 : fX6_undo tcp tkd tsd tlm tfu ttb trb tgr tK tV (II n) (II k) hp = some (Sum.inl (II (k - 1)), (hp n).2.2.2.2.1, (hp n).2.2.2.2.2.1, (hp n).2.2.2.2.2.2.1, (hp n).2.2.2.2.2.2.2.1, (hp n).2.2.2.2.2.2.2.2.1, (hp n).2.2.2.2.2.2.2.2.2.1, (hp n).2.2.2.2.2.2.2.2.2.2.1, (hp n).2.2.2.2.2.2.2.2.2.2.2, va_cpy (hp n).1 tK 0 0 64, va_cpy (hp n).2.1 tV 0 0 64, II ((n + 7) % 8), II (k - 1)) := by
      unfold fX6_undo
      rw [if_pos (show (0 : Int32) < II k from (n_lt (a := 0) (by decide) (by omega)).mpr (by omega)), et, ob]
    have e7 : fX7_undo mth (II k) mA = some (II (k - 1), 0, II (k - 1), cpR mA k 0) := by
      unfold fX7_undo fX7_undo_13 fX7_isFine
      rw [if_neg (fun e2 : II k ≤ (0 : Int32) => hk0 (by have := (n_le (b := 0) (by omega) (by decide)).mp e2; omega)), if_neg i1n0, if_pos r_nar1, ob]
      refine (if_neg (show ¬ (1 : Int32) = 0 by decide)).trans ?_
      rw [show fX7_copies mA (II k) (0 : Int32) = some (cpR mA k 0) from r_copies (a := k) (b := 0) mA (by omega) (by omega) (by omega), ob, show II k - (1 : Int32) = II (k - 1) from n_sub (b := 1) (by omega)]
    refine ⟨_, _, e6, e7, fun k1 e => (no_lr e).elim, rfl, fun v e => eq_l e, ?_, ⟨(n + 7) % 8, k - 1, by omega, by omega, rfl, rfl, rfl, fun j hj => ?_⟩, ⟨h3, h4, fun e => TR.move (h5 e) (fun i hi => cpR_out (by omega))⟩, h6, h7, h8, h9⟩
    · exact TR.cong (TR.move h0 (fun i hi => by rw [show 0 + i = 200 * 0 + i from by omega]; exact cpR_in hi)) (fun s hs => cpy_at hs) (fun s hs => cpy_at hs)
    · have hj1 := hh (j + 1) (by omega)
      rw [show (n + 8 - (j + 1)) % 8 = ((n + 7) % 8 + 8 - j) % 8 from by omega, show k - (j + 1) = k - 1 - j from by omega] at hj1
      exact TR.move hj1 (fun i hi => cpR_out (by omega))
set_option maxHeartbeats 2000000 in
theorem k_save {isv : Int32} {rpo : Int32} {rco : Int32} {tcp : Int32} {tkd : Int32} {tsd : Int32} {tlm : Int32} {tfu : Int32} {ttb : Int32} {trb : Int32} {tgr : Int32} {tK : Nat → Int32} {tV : Nat → Int32} {wcp : Int32} {wkd : Int32} {wsd : Int32} {wlm : Int32} {wfu : Int32} {wtb : Int32} {wrb : Int32} {wgr : Int32} {wK : Nat → Int32} {wV : Nat → Int32} {hnw : Int32} {hct : Int32} {hp : Nat → hTT} {pl : Int32} {pS : Nat → Int32} {ln : Int32} {lS : Nat → Int32} {mch : Int32} {msv : Int32} {mls : Int32} {mty : Int32} {mea : Int32} {mfa : Int32} {mA : Nat → Int32} {mL : Nat → Int32} {mI : Nat → Int32} {mth : Int32} (h : Rel isv rpo rco tcp tkd tsd tlm tfu ttb trb tgr tK tV wcp wkd wsd wlm wfu wtb wrb wgr wK wV hnw hct hp pl pS ln lS mch msv mls mty mea mfa mA mL mI) : ∃ out out2, fX6_save isv tcp tkd tsd tlm tfu ttb trb tgr tK tV wcp wkd wsd wlm wfu wtb wrb wgr wK wV = some out ∧ fX7_save mth msv mA = some out2 ∧ out.1 = out2.1 ∧ Rel out.2.1 rpo rco tcp tkd tsd tlm tfu ttb trb tgr tK tV out.2.2.1 out.2.2.2.1 out.2.2.2.2.1 out.2.2.2.2.2.1 out.2.2.2.2.2.2.1 out.2.2.2.2.2.2.2.1 out.2.2.2.2.2.2.2.2.1 out.2.2.2.2.2.2.2.2.2.1 out.2.2.2.2.2.2.2.2.2.2.1 out.2.2.2.2.2.2.2.2.2.2.2 hnw hct hp pl pS ln lS mch out2.2.2.1 mls mty mea mfa out2.2.2.2 mL mI := by
  obtain ⟨h1, h2, ⟨h3, h4, h5⟩, h6, h7, h8, h9⟩ := h
  have hfu : cpR mA 0 9 1 = tfu := by
    obtain ⟨c, kd, sd, lm, fu, tb, ⟨rfl, rfl, rfl, rfl, rfl, rfl⟩, hI, hR, g6, g7⟩ := h1
    rw [cpR_out (by omega)]
    exact hR.c1
  have e7 : fX7_save mth msv mA = some (tfu, 0, 1, cpR mA 0 9) := by
    unfold fX7_save
    rw [show fX7_copies mA (0 : Int32) (9 : Int32) = some (cpR mA 0 9) from r_copies (a := 0) (b := 9) mA (by omega) (by omega) (by omega), ob, hfu]
  exact ⟨_, _, rfl, e7, rfl, TR.move h1 (fun i hi => cpR_out (by omega)), HR.move h2 (fun i a b => cpR_out (by omega)), ⟨rfl, Or.inr rfl, fun _ => TR.cong (TR.move h1 (fun i hi => (cpR_in (mA := mA) (a := 0) (b := 9) hi).trans (congrArg mA (by omega)))) (fun s hs => cpy_at hs) (fun s hs => cpy_at hs)⟩, h6, h7, h8, h9⟩
set_option maxHeartbeats 2000000 in
theorem k_restore {isv : Int32} {rpo : Int32} {rco : Int32} {tcp : Int32} {tkd : Int32} {tsd : Int32} {tlm : Int32} {tfu : Int32} {ttb : Int32} {trb : Int32} {tgr : Int32} {tK : Nat → Int32} {tV : Nat → Int32} {wcp : Int32} {wkd : Int32} {wsd : Int32} {wlm : Int32} {wfu : Int32} {wtb : Int32} {wrb : Int32} {wgr : Int32} {wK : Nat → Int32} {wV : Nat → Int32} {hnw : Int32} {hct : Int32} {hp : Nat → hTT} {pl : Int32} {pS : Nat → Int32} {ln : Int32} {lS : Nat → Int32} {mch : Int32} {msv : Int32} {mls : Int32} {mty : Int32} {mea : Int32} {mfa : Int32} {mA : Nat → Int32} {mL : Nat → Int32} {mI : Nat → Int32} {mth : Int32} (h : Rel isv rpo rco tcp tkd tsd tlm tfu ttb trb tgr tK tV wcp wkd wsd wlm wfu wtb wrb wgr wK wV hnw hct hp pl pS ln lS mch msv mls mty mea mfa mA mL mI) : ∃ out out2, fX6_restore isv tcp tkd tsd tlm tfu ttb trb tgr tK tV wcp wkd wsd wlm wfu wtb wrb wgr wK wV hct = some out ∧ fX7_restore mth mch msv mA = some out2 ∧ (∀ k1, out.1 = .inr k1 → k1 = 2) ∧ out2.2.1 = hcd [2] out.1 ∧ (∀ v, out.1 = .inl v → v = out2.1) ∧ Rel isv rpo rco out.2.1 out.2.2.1 out.2.2.2.1 out.2.2.2.2.1 out.2.2.2.2.2.1 out.2.2.2.2.2.2.1 out.2.2.2.2.2.2.2.1 out.2.2.2.2.2.2.2.2.1 out.2.2.2.2.2.2.2.2.2.1 out.2.2.2.2.2.2.2.2.2.2.1 wcp wkd wsd wlm wfu wtb wrb wgr wK wV hnw out.2.2.2.2.2.2.2.2.2.2.2 hp pl pS ln lS out2.2.2.1 msv mls mty mea mfa out2.2.2.2 mL mI := by
  obtain ⟨h1, ⟨n, k, hn, hk, rfl, rfl, rfl, hh⟩, ⟨rfl, h4, h5⟩, h6, h7, h8, h9⟩ := h
  rcases h4 with rfl | rfl
  · have e6 : fX6_restore 0 tcp tkd tsd tlm tfu ttb trb tgr tK tV wcp wkd wsd wlm wfu wtb wrb wgr wK wV (II k) = some (Sum.inr 2, tcp, tkd, tsd, tlm, tfu, ttb, trb, tgr, tK, tV, II k) := by
      unfold fX6_restore
      rw [if_pos rfl]
    have e7 : fX7_restore mth (II k) 0 mA = some (0, 1, II k, mA) := by
      unfold fX7_restore fX7_isFine
      rw [if_pos rfl, if_pos r_nar0, ob]
      exact if_pos rfl
    exact ⟨_, _, e6, e7, fun k1 e => eq_r e, rfl, fun v e => (no_rl e).elim, h1, ⟨n, k, hn, hk, rfl, rfl, rfl, hh⟩, ⟨rfl, Or.inl rfl, h5⟩, h6, h7, h8, h9⟩
  · have hs := h5 i1n0
    have hfu : cpR mA 9 0 1 = wfu := by
      obtain ⟨c, kd, sd, lm, fu, tb, ⟨rfl, rfl, rfl, rfl, rfl, rfl⟩, hI, hR, g6, g7⟩ := hs
      rw [show 1 = 200 * 0 + 1 from rfl, cpR_in (by omega)]
      exact hR.2.1
    have e6 : fX6_restore 1 tcp tkd tsd tlm tfu ttb trb tgr tK tV wcp wkd wsd wlm wfu wtb wrb wgr wK wV (II k) = some (Sum.inl wfu, wcp, wkd, wsd, wlm, wfu, wtb, wrb, wgr, va_cpy wK tK 0 0 64, va_cpy wV tV 0 0 64, 0) := by
      unfold fX6_restore
      rw [if_neg i1n0, c_copyFrom, ob]
      rfl
    have e7 : fX7_restore mth (II k) 1 mA = some (wfu, 0, 0, cpR mA 9 0) := by
      unfold fX7_restore fX7_isFine
      rw [if_neg i1n0, if_pos r_nar1, ob]
      refine (if_neg (show ¬ (1 : Int32) = 0 by decide)).trans ?_
      rw [show fX7_copies mA (9 : Int32) (0 : Int32) = some (cpR mA 9 0) from r_copies (a := 9) (b := 0) mA (by omega) (by omega) (by omega), ob, hfu]
    exact ⟨_, _, e6, e7, fun k1 e => (no_lr e).elim, rfl, fun v e => eq_l e, TR.cong (TR.move hs (fun i hi => by rw [show 0 + i = 200 * 0 + i from by omega]; exact (cpR_in (mA := mA) (a := 9) (b := 0) hi).trans (congrArg mA (by omega)))) (fun s hs => cpy_at hs) (fun s hs => cpy_at hs), ⟨n, 0, hn, by omega, rfl, rfl, rfl, fun j hj => absurd hj (Nat.not_lt_zero _)⟩, ⟨rfl, Or.inr rfl, fun e => TR.move (h5 e) (fun i hi => cpR_out (by omega))⟩, h6, h7, h8, h9⟩
set_option maxHeartbeats 2000000 in
theorem k_size {isv : Int32} {rpo : Int32} {rco : Int32} {tcp : Int32} {tkd : Int32} {tsd : Int32} {tlm : Int32} {tfu : Int32} {ttb : Int32} {trb : Int32} {tgr : Int32} {tK : Nat → Int32} {tV : Nat → Int32} {wcp : Int32} {wkd : Int32} {wsd : Int32} {wlm : Int32} {wfu : Int32} {wtb : Int32} {wrb : Int32} {wgr : Int32} {wK : Nat → Int32} {wV : Nat → Int32} {hnw : Int32} {hct : Int32} {hp : Nat → hTT} {pl : Int32} {pS : Nat → Int32} {ln : Int32} {lS : Nat → Int32} {mch : Int32} {msv : Int32} {mls : Int32} {mty : Int32} {mea : Int32} {mfa : Int32} {mA : Nat → Int32} {mL : Nat → Int32} {mI : Nat → Int32} {mth : Int32} (h : Rel isv rpo rco tcp tkd tsd tlm tfu ttb trb tgr tK tV wcp wkd wsd wlm wfu wtb wrb wgr wK wV hnw hct hp pl pS ln lS mch msv mls mty mea mfa mA mL mI) : ∃ out out2, fX6_size tfu = some out ∧ fX7_size mth mA = some out2 ∧ out = out2.1 ∧ Rel isv rpo rco tcp tkd tsd tlm tfu ttb trb tgr tK tV wcp wkd wsd wlm wfu wtb wrb wgr wK wV hnw hct hp pl pS ln lS mch msv mls mty mea mfa mA mL mI := by
  have h0 := h
  obtain ⟨c, kd, sd, lm, fu, tb, ⟨rfl, rfl, rfl, rfl, rfl, rfl⟩, hI, hR, g6, g7⟩ := h.1
  have e9 : mA 1 = II fu := hR.c1
  have e7 : fX7_size mth mA = some (II fu, 0) := by
    unfold fX7_size fX7_told
    rw [show hl_in (1 : Int32) 2600 = true from by decide, if_pos rfl, ob, show (1 : Int32).toNatClampNeg = 1 from by decide, e9]
  exact ⟨_, _, rfl, e7, rfl, h0⟩
set_option maxHeartbeats 2000000 in
theorem k_capacity {isv : Int32} {rpo : Int32} {rco : Int32} {tcp : Int32} {tkd : Int32} {tsd : Int32} {tlm : Int32} {tfu : Int32} {ttb : Int32} {trb : Int32} {tgr : Int32} {tK : Nat → Int32} {tV : Nat → Int32} {wcp : Int32} {wkd : Int32} {wsd : Int32} {wlm : Int32} {wfu : Int32} {wtb : Int32} {wrb : Int32} {wgr : Int32} {wK : Nat → Int32} {wV : Nat → Int32} {hnw : Int32} {hct : Int32} {hp : Nat → hTT} {pl : Int32} {pS : Nat → Int32} {ln : Int32} {lS : Nat → Int32} {mch : Int32} {msv : Int32} {mls : Int32} {mty : Int32} {mea : Int32} {mfa : Int32} {mA : Nat → Int32} {mL : Nat → Int32} {mI : Nat → Int32} {mth : Int32} (h : Rel isv rpo rco tcp tkd tsd tlm tfu ttb trb tgr tK tV wcp wkd wsd wlm wfu wtb wrb wgr wK wV hnw hct hp pl pS ln lS mch msv mls mty mea mfa mA mL mI) : ∃ out out2, fX6_capacity tcp = some out ∧ fX7_capacity mth mA = some out2 ∧ out = out2.1 ∧ Rel isv rpo rco tcp tkd tsd tlm tfu ttb trb tgr tK tV wcp wkd wsd wlm wfu wtb wrb wgr wK wV hnw hct hp pl pS ln lS mch msv mls mty mea mfa mA mL mI := by
  have h0 := h
  obtain ⟨c, kd, sd, lm, fu, tb, ⟨rfl, rfl, rfl, rfl, rfl, rfl⟩, hI, hR, g6, g7⟩ := h.1
  have e9 : mA 0 = II c := hR.c0
  have e7 : fX7_capacity mth mA = some (II c, 0) := by
    unfold fX7_capacity fX7_told
    rw [show hl_in (0 : Int32) 2600 = true from by decide, if_pos rfl, ob, show (0 : Int32).toNatClampNeg = 0 from by decide, e9]
  exact ⟨_, _, rfl, e7, rfl, h0⟩
set_option maxHeartbeats 2000000 in
theorem k_tombstones {isv : Int32} {rpo : Int32} {rco : Int32} {tcp : Int32} {tkd : Int32} {tsd : Int32} {tlm : Int32} {tfu : Int32} {ttb : Int32} {trb : Int32} {tgr : Int32} {tK : Nat → Int32} {tV : Nat → Int32} {wcp : Int32} {wkd : Int32} {wsd : Int32} {wlm : Int32} {wfu : Int32} {wtb : Int32} {wrb : Int32} {wgr : Int32} {wK : Nat → Int32} {wV : Nat → Int32} {hnw : Int32} {hct : Int32} {hp : Nat → hTT} {pl : Int32} {pS : Nat → Int32} {ln : Int32} {lS : Nat → Int32} {mch : Int32} {msv : Int32} {mls : Int32} {mty : Int32} {mea : Int32} {mfa : Int32} {mA : Nat → Int32} {mL : Nat → Int32} {mI : Nat → Int32} {mth : Int32} (h : Rel isv rpo rco tcp tkd tsd tlm tfu ttb trb tgr tK tV wcp wkd wsd wlm wfu wtb wrb wgr wK wV hnw hct hp pl pS ln lS mch msv mls mty mea mfa mA mL mI) : ∃ out out2, fX6_tombstones ttb = some out ∧ fX7_tombstones mth mA = some out2 ∧ out = out2.1 ∧ Rel isv rpo rco tcp tkd tsd tlm tfu ttb trb tgr tK tV wcp wkd wsd wlm wfu wtb wrb wgr wK wV hnw hct hp pl pS ln lS mch msv mls mty mea mfa mA mL mI := by
  have h0 := h
  obtain ⟨c, kd, sd, lm, fu, tb, ⟨rfl, rfl, rfl, rfl, rfl, rfl⟩, hI, hR, g6, g7⟩ := h.1
  have e9 : mA 2 = II tb := hR.c2
  have e7 : fX7_tombstones mth mA = some (II tb, 0) := by
    unfold fX7_tombstones fX7_told
    rw [show hl_in (2 : Int32) 2600 = true from by decide, if_pos rfl, ob, show (2 : Int32).toNatClampNeg = 2 from by decide, e9]
  exact ⟨_, _, rfl, e7, rfl, h0⟩
set_option maxHeartbeats 2000000 in
theorem k_kind {isv : Int32} {rpo : Int32} {rco : Int32} {tcp : Int32} {tkd : Int32} {tsd : Int32} {tlm : Int32} {tfu : Int32} {ttb : Int32} {trb : Int32} {tgr : Int32} {tK : Nat → Int32} {tV : Nat → Int32} {wcp : Int32} {wkd : Int32} {wsd : Int32} {wlm : Int32} {wfu : Int32} {wtb : Int32} {wrb : Int32} {wgr : Int32} {wK : Nat → Int32} {wV : Nat → Int32} {hnw : Int32} {hct : Int32} {hp : Nat → hTT} {pl : Int32} {pS : Nat → Int32} {ln : Int32} {lS : Nat → Int32} {mch : Int32} {msv : Int32} {mls : Int32} {mty : Int32} {mea : Int32} {mfa : Int32} {mA : Nat → Int32} {mL : Nat → Int32} {mI : Nat → Int32} {mth : Int32} (h : Rel isv rpo rco tcp tkd tsd tlm tfu ttb trb tgr tK tV wcp wkd wsd wlm wfu wtb wrb wgr wK wV hnw hct hp pl pS ln lS mch msv mls mty mea mfa mA mL mI) : ∃ out out2, fX6_kind tkd = some out ∧ fX7_kind mth mA = some out2 ∧ out = out2.1 ∧ Rel isv rpo rco tcp tkd tsd tlm tfu ttb trb tgr tK tV wcp wkd wsd wlm wfu wtb wrb wgr wK wV hnw hct hp pl pS ln lS mch msv mls mty mea mfa mA mL mI := by
  have h0 := h
  obtain ⟨c, kd, sd, lm, fu, tb, ⟨rfl, rfl, rfl, rfl, rfl, rfl⟩, hI, hR, g6, g7⟩ := h.1
  have e9 : mA 3 = II kd := hR.c3
  have e7 : fX7_kind mth mA = some (II kd, 0) := by
    unfold fX7_kind fX7_told
    rw [show hl_in (3 : Int32) 2600 = true from by decide, if_pos rfl, ob, show (3 : Int32).toNatClampNeg = 3 from by decide, e9]
  exact ⟨_, _, rfl, e7, rfl, h0⟩
set_option maxHeartbeats 2000000 in
theorem k_seed {isv : Int32} {rpo : Int32} {rco : Int32} {tcp : Int32} {tkd : Int32} {tsd : Int32} {tlm : Int32} {tfu : Int32} {ttb : Int32} {trb : Int32} {tgr : Int32} {tK : Nat → Int32} {tV : Nat → Int32} {wcp : Int32} {wkd : Int32} {wsd : Int32} {wlm : Int32} {wfu : Int32} {wtb : Int32} {wrb : Int32} {wgr : Int32} {wK : Nat → Int32} {wV : Nat → Int32} {hnw : Int32} {hct : Int32} {hp : Nat → hTT} {pl : Int32} {pS : Nat → Int32} {ln : Int32} {lS : Nat → Int32} {mch : Int32} {msv : Int32} {mls : Int32} {mty : Int32} {mea : Int32} {mfa : Int32} {mA : Nat → Int32} {mL : Nat → Int32} {mI : Nat → Int32} {mth : Int32} (h : Rel isv rpo rco tcp tkd tsd tlm tfu ttb trb tgr tK tV wcp wkd wsd wlm wfu wtb wrb wgr wK wV hnw hct hp pl pS ln lS mch msv mls mty mea mfa mA mL mI) : ∃ out out2, fX6_seed tsd = some out ∧ fX7_seed mth mA = some out2 ∧ out = out2.1 ∧ Rel isv rpo rco tcp tkd tsd tlm tfu ttb trb tgr tK tV wcp wkd wsd wlm wfu wtb wrb wgr wK wV hnw hct hp pl pS ln lS mch msv mls mty mea mfa mA mL mI := by
  have h0 := h
  obtain ⟨c, kd, sd, lm, fu, tb, ⟨rfl, rfl, rfl, rfl, rfl, rfl⟩, hI, hR, g6, g7⟩ := h.1
  have e9 : mA 4 = II sd := hR.c4
  have e7 : fX7_seed mth mA = some (II sd, 0) := by
    unfold fX7_seed fX7_told
    rw [show hl_in (4 : Int32) 2600 = true from by decide, if_pos rfl, ob, show (4 : Int32).toNatClampNeg = 4 from by decide, e9]
  exact ⟨_, _, rfl, e7, rfl, h0⟩
set_option maxHeartbeats 2000000 in
theorem k_limit {isv : Int32} {rpo : Int32} {rco : Int32} {tcp : Int32} {tkd : Int32} {tsd : Int32} {tlm : Int32} {tfu : Int32} {ttb : Int32} {trb : Int32} {tgr : Int32} {tK : Nat → Int32} {tV : Nat → Int32} {wcp : Int32} {wkd : Int32} {wsd : Int32} {wlm : Int32} {wfu : Int32} {wtb : Int32} {wrb : Int32} {wgr : Int32} {wK : Nat → Int32} {wV : Nat → Int32} {hnw : Int32} {hct : Int32} {hp : Nat → hTT} {pl : Int32} {pS : Nat → Int32} {ln : Int32} {lS : Nat → Int32} {mch : Int32} {msv : Int32} {mls : Int32} {mty : Int32} {mea : Int32} {mfa : Int32} {mA : Nat → Int32} {mL : Nat → Int32} {mI : Nat → Int32} {mth : Int32} (h : Rel isv rpo rco tcp tkd tsd tlm tfu ttb trb tgr tK tV wcp wkd wsd wlm wfu wtb wrb wgr wK wV hnw hct hp pl pS ln lS mch msv mls mty mea mfa mA mL mI) : ∃ out out2, fX6_limit tlm = some out ∧ fX7_limit mth mA = some out2 ∧ out = out2.1 ∧ Rel isv rpo rco tcp tkd tsd tlm tfu ttb trb tgr tK tV wcp wkd wsd wlm wfu wtb wrb wgr wK wV hnw hct hp pl pS ln lS mch msv mls mty mea mfa mA mL mI := by
  have h0 := h
  obtain ⟨c, kd, sd, lm, fu, tb, ⟨rfl, rfl, rfl, rfl, rfl, rfl⟩, hI, hR, g6, g7⟩ := h.1
  have e9 : mA 5 = II lm := hR.c5
  have e7 : fX7_limit mth mA = some (II lm, 0) := by
    unfold fX7_limit fX7_told
    rw [show hl_in (5 : Int32) 2600 = true from by decide, if_pos rfl, ob, show (5 : Int32).toNatClampNeg = 5 from by decide, e9]
  exact ⟨_, _, rfl, e7, rfl, h0⟩
set_option maxHeartbeats 2000000 in
theorem k_rebuilds {isv : Int32} {rpo : Int32} {rco : Int32} {tcp : Int32} {tkd : Int32} {tsd : Int32} {tlm : Int32} {tfu : Int32} {ttb : Int32} {trb : Int32} {tgr : Int32} {tK : Nat → Int32} {tV : Nat → Int32} {wcp : Int32} {wkd : Int32} {wsd : Int32} {wlm : Int32} {wfu : Int32} {wtb : Int32} {wrb : Int32} {wgr : Int32} {wK : Nat → Int32} {wV : Nat → Int32} {hnw : Int32} {hct : Int32} {hp : Nat → hTT} {pl : Int32} {pS : Nat → Int32} {ln : Int32} {lS : Nat → Int32} {mch : Int32} {msv : Int32} {mls : Int32} {mty : Int32} {mea : Int32} {mfa : Int32} {mA : Nat → Int32} {mL : Nat → Int32} {mI : Nat → Int32} {mth : Int32} (h : Rel isv rpo rco tcp tkd tsd tlm tfu ttb trb tgr tK tV wcp wkd wsd wlm wfu wtb wrb wgr wK wV hnw hct hp pl pS ln lS mch msv mls mty mea mfa mA mL mI) : ∃ out out2, fX6_rebuilds trb = some out ∧ fX7_rebuilds mth mA = some out2 ∧ out = out2.1 ∧ Rel isv rpo rco tcp tkd tsd tlm tfu ttb trb tgr tK tV wcp wkd wsd wlm wfu wtb wrb wgr wK wV hnw hct hp pl pS ln lS mch msv mls mty mea mfa mA mL mI := by
  have h0 := h
  obtain ⟨c, kd, sd, lm, fu, tb, ⟨rfl, rfl, rfl, rfl, rfl, rfl⟩, hI, hR, g6, g7⟩ := h.1
  have e9 : mA 6 = trb := g6
  have e7 : fX7_rebuilds mth mA = some (trb, 0) := by
    unfold fX7_rebuilds fX7_told
    rw [show hl_in (6 : Int32) 2600 = true from by decide, if_pos rfl, ob, show (6 : Int32).toNatClampNeg = 6 from by decide, e9]
  exact ⟨_, _, rfl, e7, rfl, h0⟩
set_option maxHeartbeats 2000000 in
theorem k_growths {isv : Int32} {rpo : Int32} {rco : Int32} {tcp : Int32} {tkd : Int32} {tsd : Int32} {tlm : Int32} {tfu : Int32} {ttb : Int32} {trb : Int32} {tgr : Int32} {tK : Nat → Int32} {tV : Nat → Int32} {wcp : Int32} {wkd : Int32} {wsd : Int32} {wlm : Int32} {wfu : Int32} {wtb : Int32} {wrb : Int32} {wgr : Int32} {wK : Nat → Int32} {wV : Nat → Int32} {hnw : Int32} {hct : Int32} {hp : Nat → hTT} {pl : Int32} {pS : Nat → Int32} {ln : Int32} {lS : Nat → Int32} {mch : Int32} {msv : Int32} {mls : Int32} {mty : Int32} {mea : Int32} {mfa : Int32} {mA : Nat → Int32} {mL : Nat → Int32} {mI : Nat → Int32} {mth : Int32} (h : Rel isv rpo rco tcp tkd tsd tlm tfu ttb trb tgr tK tV wcp wkd wsd wlm wfu wtb wrb wgr wK wV hnw hct hp pl pS ln lS mch msv mls mty mea mfa mA mL mI) : ∃ out out2, fX6_growths tgr = some out ∧ fX7_growths mth mA = some out2 ∧ out = out2.1 ∧ Rel isv rpo rco tcp tkd tsd tlm tfu ttb trb tgr tK tV wcp wkd wsd wlm wfu wtb wrb wgr wK wV hnw hct hp pl pS ln lS mch msv mls mty mea mfa mA mL mI := by
  have h0 := h
  obtain ⟨c, kd, sd, lm, fu, tb, ⟨rfl, rfl, rfl, rfl, rfl, rfl⟩, hI, hR, g6, g7⟩ := h.1
  have e9 : mA 7 = tgr := g7
  have e7 : fX7_growths mth mA = some (tgr, 0) := by
    unfold fX7_growths fX7_told
    rw [show hl_in (7 : Int32) 2600 = true from by decide, if_pos rfl, ob, show (7 : Int32).toNatClampNeg = 7 from by decide, e9]
  exact ⟨_, _, rfl, e7, rfl, h0⟩
set_option maxHeartbeats 2000000 in
theorem k_isNearLimit {isv : Int32} {rpo : Int32} {rco : Int32} {tcp : Int32} {tkd : Int32} {tsd : Int32} {tlm : Int32} {tfu : Int32} {ttb : Int32} {trb : Int32} {tgr : Int32} {tK : Nat → Int32} {tV : Nat → Int32} {wcp : Int32} {wkd : Int32} {wsd : Int32} {wlm : Int32} {wfu : Int32} {wtb : Int32} {wrb : Int32} {wgr : Int32} {wK : Nat → Int32} {wV : Nat → Int32} {hnw : Int32} {hct : Int32} {hp : Nat → hTT} {pl : Int32} {pS : Nat → Int32} {ln : Int32} {lS : Nat → Int32} {mch : Int32} {msv : Int32} {mls : Int32} {mty : Int32} {mea : Int32} {mfa : Int32} {mA : Nat → Int32} {mL : Nat → Int32} {mI : Nat → Int32} {mth : Int32} (h : Rel isv rpo rco tcp tkd tsd tlm tfu ttb trb tgr tK tV wcp wkd wsd wlm wfu wtb wrb wgr wK wV hnw hct hp pl pS ln lS mch msv mls mty mea mfa mA mL mI) : ∃ out out2, fX6_isNearLimit tcp tlm tfu ttb = some out ∧ fX7_isNearLimit mth mA = some out2 ∧ out = out2.1 ∧ Rel isv rpo rco tcp tkd tsd tlm tfu ttb trb tgr tK tV wcp wkd wsd wlm wfu wtb wrb wgr wK wV hnw hct hp pl pS ln lS mch msv mls mty mea mfa mA mL mI := by
  have h0 := h
  obtain ⟨c, kd, sd, lm, fu, tb, ⟨rfl, rfl, rfl, rfl, rfl, rfl⟩, hI, hR, g6, g7⟩ := h.1
  have hb : (if 100 * (fu + tb + 1) ≤ lm * c then (0 : Int32) else 1) = 0 ∨ (if 100 * (fu + tb + 1) ≤ lm * c then (0 : Int32) else 1) = 1 := by
    by_cases z : 100 * (fu + tb + 1) ≤ lm * c
    · rw [if_pos z]; exact Or.inl rfl
    · rw [if_neg z]; exact Or.inr rfl
  have hn : hl_nar .boolean (if 100 * (fu + tb + 1) ≤ lm * c then (0 : Int32) else 1) = true := by
    rcases hb with e | e
    · rw [e]; exact r_nar0
    · rw [e]; exact r_nar1
  have h64 := hI.cok.le
  have hft := hI.ft
  have e6 : fX6_isNearLimit (II c) (II lm) (II fu) (II tb) = some (if 100 * (fu + tb + 1) ≤ lm * c then 0 else 1) := by
    unfold fX6_isNearLimit
    rw [c_need hI.cok hI.lm9.2 hI.ft, ob, if_pos hn]
  have e7 : fX7_isNearLimit mth mA = some (if 100 * (fu + tb + 1) ≤ lm * c then 0 else 1, 0) := by
    unfold fX7_isNearLimit
    rw [hR.c0, hR.c1, hR.c2, show (II fu + II tb) + (1 : Int32) = II (fu + tb + 1) from by rw [n_add]; exact n_add _ 1, r_exc hR.c5 hI.lm9.2 (by omega) h64, ob, if_pos hn]
  exact ⟨_, _, e6, e7, rfl, h0⟩
set_option maxHeartbeats 2000000 in
theorem k_errorPosition {isv : Int32} {rpo : Int32} {rco : Int32} {tcp : Int32} {tkd : Int32} {tsd : Int32} {tlm : Int32} {tfu : Int32} {ttb : Int32} {trb : Int32} {tgr : Int32} {tK : Nat → Int32} {tV : Nat → Int32} {wcp : Int32} {wkd : Int32} {wsd : Int32} {wlm : Int32} {wfu : Int32} {wtb : Int32} {wrb : Int32} {wgr : Int32} {wK : Nat → Int32} {wV : Nat → Int32} {hnw : Int32} {hct : Int32} {hp : Nat → hTT} {pl : Int32} {pS : Nat → Int32} {ln : Int32} {lS : Nat → Int32} {mch : Int32} {msv : Int32} {mls : Int32} {mty : Int32} {mea : Int32} {mfa : Int32} {mA : Nat → Int32} {mL : Nat → Int32} {mI : Nat → Int32} {mth : Int32} (h : Rel isv rpo rco tcp tkd tsd tlm tfu ttb trb tgr tK tV wcp wkd wsd wlm wfu wtb wrb wgr wK wV hnw hct hp pl pS ln lS mch msv mls mty mea mfa mA mL mI) : ∃ out out2, fX6_errorPosition rpo = some out ∧ fX7_errorPosition mth mea = some out2 ∧ (∀ k1, out = .inr k1 → k1 = 3) ∧ out2.2 = hcd [3] out ∧ (∀ v, out = .inl v → v = out2.1) ∧ Rel isv rpo rco tcp tkd tsd tlm tfu ttb trb tgr tK tV wcp wkd wsd wlm wfu wtb wrb wgr wK wV hnw hct hp pl pS ln lS mch msv mls mty mea mfa mA mL mI := by
  have e : mea = rpo := h.2.2.2.2.2.1
  by_cases h1 : rpo = -1
  · have e6 : fX6_errorPosition rpo = some (Sum.inr 3) := by
      unfold fX6_errorPosition
      rw [if_pos h1]
    have e7 : fX7_errorPosition mth mea = some (0, 1) := by
      unfold fX7_errorPosition fX7_isFine
      rw [e, if_pos h1, if_pos rfl, if_pos r_nar0, ob]
      exact if_pos rfl
    exact ⟨_, _, e6, e7, fun k1 e => eq_r e, rfl, fun v e => (no_rl e).elim, h⟩
  · have e6 : fX6_errorPosition rpo = some (Sum.inl rpo) := by
      unfold fX6_errorPosition
      rw [if_neg h1]
    have e7 : fX7_errorPosition mth mea = some (rpo, 0) := by
      unfold fX7_errorPosition fX7_isFine
      rw [e, if_neg h1, if_neg i1n0, if_pos r_nar1, ob]
      exact if_neg (show ¬ (1 : Int32) = 0 by decide)
    exact ⟨_, _, e6, e7, fun k1 e => (no_lr e).elim, rfl, fun v e => eq_l e, h⟩
set_option maxHeartbeats 2000000 in
theorem k_failedCommand {isv : Int32} {rpo : Int32} {rco : Int32} {tcp : Int32} {tkd : Int32} {tsd : Int32} {tlm : Int32} {tfu : Int32} {ttb : Int32} {trb : Int32} {tgr : Int32} {tK : Nat → Int32} {tV : Nat → Int32} {wcp : Int32} {wkd : Int32} {wsd : Int32} {wlm : Int32} {wfu : Int32} {wtb : Int32} {wrb : Int32} {wgr : Int32} {wK : Nat → Int32} {wV : Nat → Int32} {hnw : Int32} {hct : Int32} {hp : Nat → hTT} {pl : Int32} {pS : Nat → Int32} {ln : Int32} {lS : Nat → Int32} {mch : Int32} {msv : Int32} {mls : Int32} {mty : Int32} {mea : Int32} {mfa : Int32} {mA : Nat → Int32} {mL : Nat → Int32} {mI : Nat → Int32} {mth : Int32} (h : Rel isv rpo rco tcp tkd tsd tlm tfu ttb trb tgr tK tV wcp wkd wsd wlm wfu wtb wrb wgr wK wV hnw hct hp pl pS ln lS mch msv mls mty mea mfa mA mL mI) : ∃ out out2, fX6_failedCommand rco = some out ∧ fX7_failedCommand mth mfa = some out2 ∧ (∀ k1, out = .inr k1 → k1 = 3) ∧ out2.2 = hcd [3] out ∧ (∀ v, out = .inl v → v = out2.1) ∧ Rel isv rpo rco tcp tkd tsd tlm tfu ttb trb tgr tK tV wcp wkd wsd wlm wfu wtb wrb wgr wK wV hnw hct hp pl pS ln lS mch msv mls mty mea mfa mA mL mI := by
  have e : mfa = rco := h.2.2.2.2.2.2
  by_cases h1 : rco = -1
  · have e6 : fX6_failedCommand rco = some (Sum.inr 3) := by
      unfold fX6_failedCommand
      rw [if_pos h1]
    have e7 : fX7_failedCommand mth mfa = some (0, 1) := by
      unfold fX7_failedCommand fX7_isFine
      rw [e, if_pos h1, if_pos rfl, if_pos r_nar0, ob]
      exact if_pos rfl
    exact ⟨_, _, e6, e7, fun k1 e => eq_r e, rfl, fun v e => (no_rl e).elim, h⟩
  · have e6 : fX6_failedCommand rco = some (Sum.inl rco) := by
      unfold fX6_failedCommand
      rw [if_neg h1]
    have e7 : fX7_failedCommand mth mfa = some (rco, 0) := by
      unfold fX7_failedCommand fX7_isFine
      rw [e, if_neg h1, if_neg i1n0, if_pos r_nar1, ob]
      exact if_neg (show ¬ (1 : Int32) = 0 by decide)
    exact ⟨_, _, e6, e7, fun k1 e => (no_lr e).elim, rfl, fun v e => eq_l e, h⟩
