/-! calls of both: contains get slotOf probe step probes probesBySlot isFull isTombstone keyIn charAt type -/
/-- both look a key up -/
theorem b_find {c kd sd lm fu tb : Nat} {K V mA : Nat → Int32} (hI : Inv c kd sd lm fu tb K V) (hR : Rw 0 c kd sd lm fu tb K V mA) (x mex mfr : Int32) :
    (∃ k s mex' mfr', k ≤ 9999 ∧ s < 64 ∧ x = II k ∧ K s = II k ∧ s = hs c kd sd K k ∧ fX5_slotHolding (II c) (II kd) (II sd) K x = some (II s) ∧ fX7_find mex mfr mA x = some (II s, mex', mfr')) ∨
    (∃ mex' mfr', fX5_slotHolding (II c) (II kd) (II sd) K x = some (-1) ∧ fX7_find mex mfr mA x = some (-1, mex', mfr')) := by
  unfold fX7_find
  by_cases hx : ∃ k, k ≤ 9999 ∧ x = II k
  · obtain ⟨k, hk, rfl⟩ := hx
    rw [c_hold hI.cok hI.kd2 hI.sd9 hk hI.emp, r_isKey hk, ob, if_neg i1n0, r_search hR hI.cok hI.kd2 hI.sd9 hk hI.kt hI.emp, ob]
    by_cases e : K (hs c kd sd K k) = II k
    · rw [if_pos e]
      exact Or.inl ⟨k, hs c kd sd K k, _, _, hk, hs_64 hI.cok, rfl, e, rfl, rfl, rfl⟩
    · rw [if_neg e]
      exact Or.inr ⟨_, _, rfl, rfl⟩
  · rw [c_holdN hx, r_isKeyN hx, ob, if_pos rfl]
    exact Or.inr ⟨_, _, rfl, rfl⟩
theorem i_sub1 {c : Nat} (hc : cOK c) : II c - (1 : Int32) = II (c - 1) := n_sub (b := 1) (by have := hc.ge; omega)
/-- both look a slot's number up -/
theorem b_slot {c : Nat} {mA : Nat → Int32} (hc : cOK c) (h0 : mA 0 = II c) (x : Int32) :
    (∃ i, i < c ∧ i < 64 ∧ x = II i ∧ fX5_hasSlot (II c) x = some 1 ∧ fX7_in x (0 : Int32) ((mA 0) - (1 : Int32)) = some 1 ∧ fX7_isSlot mA x = some 1) ∨
    (fX5_hasSlot (II c) x = some 0 ∧ fX7_in x (0 : Int32) ((mA 0) - (1 : Int32)) = some 0 ∧ fX7_isSlot mA x = some 0) := by
  have h64 := hc.le
  have h8 := hc.ge
  unfold fX7_isSlot fX5_hasSlot
  rw [h0, i_sub1 hc]
  by_cases hx : (0 : Int32) ≤ x ∧ x ≤ II (c - 1)
  · obtain ⟨i, hi, rfl⟩ := n_of2 (by omega) hx.1 hx.2
    rw [r_inY hx, ob, if_pos r_nar1, if_neg (i_nlt.mpr hx.1), if_neg (fun e : II c ≤ II i => by have := (n_le hc.lt (by omega)).mp e; omega)]
    exact Or.inl ⟨i, by omega, by omega, rfl, rfl, rfl, rfl⟩
  · rw [r_inN hx, ob, if_pos r_nar0]
    refine Or.inr ⟨?_, rfl, rfl⟩
    by_cases h1 : x < 0
    · rw [if_pos h1]
    · rw [if_neg h1]
      by_cases h2 : II c ≤ x
      · rw [if_pos h2]
      · obtain ⟨i, hi, rfl⟩ := n_of (i_nlt.mp h1)
        exact absurd ⟨i_nlt.mp h1, (n_le hi (by omega)).mpr (by
          have h3 : ¬ c ≤ i := fun e => h2 ((n_le hc.lt hi).mpr e)
          omega)⟩ hx
/-- both look whether it's a key -/
theorem b_key (x : Int32) : (∃ k, k ≤ 9999 ∧ x = II k ∧ fX6_isKey x = some 1 ∧ fX7_isKey x = some 1) ∨ (fX6_isKey x = some 0 ∧ fX7_isKey x = some 0) := by
  by_cases hx : ∃ k, k ≤ 9999 ∧ x = II k
  · obtain ⟨k, hk, rfl⟩ := hx
    exact Or.inl ⟨k, hk, rfl, c_isKey hk, r_isKey hk⟩
  · exact Or.inr ⟨c_isKeyN hx, r_isKeyN hx⟩
theorem fine0 (mth : Int32) : fX7_isFine mth 0 = some (0, 1) := by
  unfold fX7_isFine
  rw [if_pos rfl, if_pos r_nar0]
theorem fine1 (mth : Int32) : fX7_isFine mth 1 = some (1, 0) := by
  unfold fX7_isFine
  rw [if_neg i1n0, if_pos r_nar1]
theorem c_dist_29 {c kd sd f k : Nat} (hc : cOK c) (hkd : kd ≤ 2) (hf : f < c) : ∀ n i, i ≤ f → f - i < n →
    fX5_distanceTo_29 n (II c) (II kd) (II sd) (II (ofN kd f (stN c kd (hN k sd)) % c)) (II (stN c kd (hN k sd))) (II i) = some (II (f + 1))
  | 0, i, _, hn => by omega
  | n + 1, i, hi, hn => by
    have h64 := hc.le
    have hlt : ∀ x, x % c < 2147483648 := fun x => by
      have := Nat.mod_lt x (by have := hc.ge; omega : 0 < c)
      omega
    unfold fX5_distanceTo_29
    rw [if_neg (fun e : II c ≤ II i => by have := (n_le hc.lt (by omega)).mp e; omega), c_offset hkd (by omega), ob, c_wrap hc, ob, show II i + (1 : Int32) = II (i + 1) from n_add i 1]
    by_cases e : i = f
    · rw [e, if_pos rfl]
    · rw [if_neg (fun e2 => e (of_inj (kd := kd) hc (stN_lt hc (kd := kd) (h := hN k sd)) (stN_odd _ _ _) (by omega) hf ((n_eq (hlt _) (hlt _)).mp e2)))]
      exact c_dist_29 hc hkd hf n (i + 1) (by omega) (by omega)
theorem c_dist {c kd sd f k : Nat} (hc : cOK c) (hkd : kd ≤ 2) (hsd : sd ≤ 999) (hk : k ≤ 9999) (hf : f < c) : fX5_distanceTo (II c) (II kd) (II sd) (II (sq c kd sd k f)) (II k) = some (II (f + 1)) := by
  have h64 := hc.le
  have h0 : 0 < c := by have := hc.ge; omega
  unfold fX5_distanceTo
  rw [c_hash hk hsd, ob, c_wrap hc, ob, c_wrapN hc (Nat.le_of_lt (Nat.mod_lt _ h0)), ob, c_stride hc hkd (hN_lt k sd), ob]
  have e : (sq c kd sd k f + c - hN k sd % c) % c = ofN kd f (stN c kd (hN k sd)) % c := by
    unfold sq
    rcases hc with rfl | rfl | rfl | rfl <;> omega
  rw [e]
  exact c_dist_29 hc hkd hf 1000 0 (Nat.zero_le _) (by omega)
theorem nar_nar (x : Int32) : hl_nar .char (vp_nar .char x) = true := by
  have h : vp_nar .char (vp_nar .char x) = vp_nar .char x := by
    rw [vp_nar_char, vp_nar_char]
    simp
    exact congrArg UInt32.toInt32 (UInt32.toNat_inj.mp (by rw [UInt32.toNat_mod, UInt32.toNat_mod, Nat.mod_mod]))
  unfold hl_nar
  refine decide_eq_true ?_
  show Value.int ((vp_nar .char x).toUInt32.toUInt16.toUInt32.toInt32) = .int (vp_nar .char x)
  exact congrArg Value.int ((vp_nar_char _).symm.trans h)
set_option maxHeartbeats 2000000 in
theorem k_contains {isv : Int32} {rpo : Int32} {rco : Int32} {tcp : Int32} {tkd : Int32} {tsd : Int32} {tlm : Int32} {tfu : Int32} {ttb : Int32} {trb : Int32} {tgr : Int32} {tK : Nat → Int32} {tV : Nat → Int32} {wcp : Int32} {wkd : Int32} {wsd : Int32} {wlm : Int32} {wfu : Int32} {wtb : Int32} {wrb : Int32} {wgr : Int32} {wK : Nat → Int32} {wV : Nat → Int32} {hnw : Int32} {hct : Int32} {hp : Nat → hTT} {pl : Int32} {pS : Nat → Int32} {ln : Int32} {lS : Nat → Int32} {mch : Int32} {msv : Int32} {mls : Int32} {mty : Int32} {mea : Int32} {mfa : Int32} {mA : Nat → Int32} {mL : Nat → Int32} {mI : Nat → Int32} {mth : Int32} {mex : Int32} {mfr : Int32} (h : Rel isv rpo rco tcp tkd tsd tlm tfu ttb trb tgr tK tV wcp wkd wsd wlm wfu wtb wrb wgr wK wV hnw hct hp pl pS ln lS mch msv mls mty mea mfa mA mL mI) (x0 : Int32) : ∃ out out2, fX6_contains tcp tkd tsd tK x0 = some out ∧ fX7_contains mth mex mfr mA x0 = some out2 ∧ out = out2.1 ∧ Rel isv rpo rco tcp tkd tsd tlm tfu ttb trb tgr tK tV wcp wkd wsd wlm wfu wtb wrb wgr wK wV hnw hct hp pl pS ln lS mch msv mls mty mea mfa mA mL mI := by
  have h0 := h
  obtain ⟨c, kd, sd, lm, fu, tb, ⟨rfl, rfl, rfl, rfl, rfl, rfl⟩, hI, hR, g6, g7⟩ := h.1
  rcases b_find hI hR x0 mex mfr with ⟨k, s, mex', mfr', hk, hs9, rfl, e, es, q1, q2⟩ | ⟨mex', mfr', q1, q2⟩
  · have e6 : fX6_contains (II c) (II kd) (II sd) tK (II k) = some 1 := by
      unfold fX6_contains
      rw [q1, ob, if_neg (n_ne1 (by omega))]
    have e7 : fX7_contains mth mex mfr mA (II k) = some (1, 0, mex', mfr') := by
      unfold fX7_contains
      rw [q2, ob]
      exact if_neg (n_nlt0 (by omega))
    exact ⟨_, _, e6, e7, rfl, h0⟩
  · have e6 : fX6_contains (II c) (II kd) (II sd) tK x0 = some 0 := by
      unfold fX6_contains
      rw [q1, ob, if_pos rfl]
    have e7 : fX7_contains mth mex mfr mA x0 = some (0, 0, mex', mfr') := by
      unfold fX7_contains
      rw [q2, ob]
      exact if_pos (show (-1 : Int32) < 0 by decide)
    exact ⟨_, _, e6, e7, rfl, h0⟩
set_option maxHeartbeats 2000000 in
theorem k_get {isv : Int32} {rpo : Int32} {rco : Int32} {tcp : Int32} {tkd : Int32} {tsd : Int32} {tlm : Int32} {tfu : Int32} {ttb : Int32} {trb : Int32} {tgr : Int32} {tK : Nat → Int32} {tV : Nat → Int32} {wcp : Int32} {wkd : Int32} {wsd : Int32} {wlm : Int32} {wfu : Int32} {wtb : Int32} {wrb : Int32} {wgr : Int32} {wK : Nat → Int32} {wV : Nat → Int32} {hnw : Int32} {hct : Int32} {hp : Nat → hTT} {pl : Int32} {pS : Nat → Int32} {ln : Int32} {lS : Nat → Int32} {mch : Int32} {msv : Int32} {mls : Int32} {mty : Int32} {mea : Int32} {mfa : Int32} {mA : Nat → Int32} {mL : Nat → Int32} {mI : Nat → Int32} {mth : Int32} {mex : Int32} {mfr : Int32} (h : Rel isv rpo rco tcp tkd tsd tlm tfu ttb trb tgr tK tV wcp wkd wsd wlm wfu wtb wrb wgr wK wV hnw hct hp pl pS ln lS mch msv mls mty mea mfa mA mL mI) (x0 : Int32) : ∃ out out2, fX6_get tcp tkd tsd tK tV x0 = some out ∧ fX7_get mth mex mfr mA x0 = some out2 ∧ (∀ k1, out = .inr k1 → k1 = 3) ∧ out2.2.1 = hkd [3] out ∧ (∀ v, out = .inl v → v = out2.1) ∧ Rel isv rpo rco tcp tkd tsd tlm tfu ttb trb tgr tK tV wcp wkd wsd wlm wfu wtb wrb wgr wK wV hnw hct hp pl pS ln lS mch msv mls mty mea mfa mA mL mI := by
  have h0 := h
  obtain ⟨c, kd, sd, lm, fu, tb, ⟨rfl, rfl, rfl, rfl, rfl, rfl⟩, hI, hR, g6, g7⟩ := h.1
  rcases b_find hI hR x0 mex mfr with ⟨k, s, mex', mfr', hk, hs9, rfl, e, es, q1, q2⟩ | ⟨mex', mfr', q1, q2⟩
  · have e6 : fX6_get (II c) (II kd) (II sd) tK tV (II k) = some (Sum.inl (tV s)) := by
      unfold fX6_get
      rw [q1, ob, if_neg (n_ne1 (by omega)), c_valueOf hs9, ob]
    have e7 : fX7_get mth mex mfr mA (II k) = some (tV s, 0, mex', mfr') := by
      unfold fX7_get fX7_get_16
      rw [q2, ob]
      refine (if_neg (show ¬ II s < (0 : Int32) from n_nlt0 (by omega))).trans ?_
      rw [fine1, ob]
      refine (if_neg (show ¬ (1 : Int32) = 0 by decide)).trans ?_
      have hv : mA (10 + 3 * s) = tV s := by
        rcases hR.at hs9 with ⟨g, -⟩ | ⟨g, -⟩ | ⟨-, -, -, g⟩
        · rw [e] at g; exact absurd g (n_ne1 (by omega))
        · rw [e] at g; exact absurd g (n_ne2 (by omega))
        · exact g
      rw [r_at2 hs9, ob, hv]
    exact ⟨_, _, e6, e7, fun k1 e => (no_lr e).elim, rfl, fun v e => eq_l e, h0⟩
  · have e6 : fX6_get (II c) (II kd) (II sd) tK tV x0 = some (Sum.inr 3) := by
      unfold fX6_get
      rw [q1, ob, if_pos rfl]
    have e7 : fX7_get mth mex mfr mA x0 = some (0, 1, mex', mfr') := by
      unfold fX7_get fX7_get_16
      rw [q2, ob]
      refine (if_pos (show (-1 : Int32) < 0 by decide)).trans ?_
      rw [fine0, ob]
      exact if_pos rfl
    exact ⟨_, _, e6, e7, fun k1 e => eq_r e, rfl, fun v e => (no_rl e).elim, h0⟩
set_option maxHeartbeats 2000000 in
theorem k_slotOf {isv : Int32} {rpo : Int32} {rco : Int32} {tcp : Int32} {tkd : Int32} {tsd : Int32} {tlm : Int32} {tfu : Int32} {ttb : Int32} {trb : Int32} {tgr : Int32} {tK : Nat → Int32} {tV : Nat → Int32} {wcp : Int32} {wkd : Int32} {wsd : Int32} {wlm : Int32} {wfu : Int32} {wtb : Int32} {wrb : Int32} {wgr : Int32} {wK : Nat → Int32} {wV : Nat → Int32} {hnw : Int32} {hct : Int32} {hp : Nat → hTT} {pl : Int32} {pS : Nat → Int32} {ln : Int32} {lS : Nat → Int32} {mch : Int32} {msv : Int32} {mls : Int32} {mty : Int32} {mea : Int32} {mfa : Int32} {mA : Nat → Int32} {mL : Nat → Int32} {mI : Nat → Int32} {mth : Int32} {mex : Int32} {mfr : Int32} (h : Rel isv rpo rco tcp tkd tsd tlm tfu ttb trb tgr tK tV wcp wkd wsd wlm wfu wtb wrb wgr wK wV hnw hct hp pl pS ln lS mch msv mls mty mea mfa mA mL mI) (x0 : Int32) : ∃ out out2, fX6_slotOf tcp tkd tsd tK x0 = some out ∧ fX7_slotOf mth mex mfr mA x0 = some out2 ∧ (∀ k1, out = .inr k1 → k1 = 3) ∧ out2.2.1 = hkd [3] out ∧ (∀ v, out = .inl v → v = out2.1) ∧ Rel isv rpo rco tcp tkd tsd tlm tfu ttb trb tgr tK tV wcp wkd wsd wlm wfu wtb wrb wgr wK wV hnw hct hp pl pS ln lS mch msv mls mty mea mfa mA mL mI := by
  have h0 := h
  obtain ⟨c, kd, sd, lm, fu, tb, ⟨rfl, rfl, rfl, rfl, rfl, rfl⟩, hI, hR, g6, g7⟩ := h.1
  rcases b_find hI hR x0 mex mfr with ⟨k, s, mex', mfr', hk, hs9, rfl, e, es, q1, q2⟩ | ⟨mex', mfr', q1, q2⟩
  · have e6 : fX6_slotOf (II c) (II kd) (II sd) tK (II k) = some (Sum.inl (II s)) := by
      unfold fX6_slotOf
      rw [q1, ob, if_neg (n_ne1 (by omega))]
    have e7 : fX7_slotOf mth mex mfr mA (II k) = some (II s, 0, mex', mfr') := by
      unfold fX7_slotOf
      rw [q2, ob]
      refine (if_neg (show ¬ II s < (0 : Int32) from n_nlt0 (by omega))).trans ?_
      rw [fine1, ob]
      refine (if_neg (show ¬ (1 : Int32) = 0 by decide)).trans ?_
      rfl
    exact ⟨_, _, e6, e7, fun k1 e => (no_lr e).elim, rfl, fun v e => eq_l e, h0⟩
  · have e6 : fX6_slotOf (II c) (II kd) (II sd) tK x0 = some (Sum.inr 3) := by
      unfold fX6_slotOf
      rw [q1, ob, if_pos rfl]
    have e7 : fX7_slotOf mth mex mfr mA x0 = some (0, 1, mex', mfr') := by
      unfold fX7_slotOf
      rw [q2, ob]
      refine (if_pos (show (-1 : Int32) < 0 by decide)).trans ?_
      rw [fine0, ob]
      exact if_pos rfl
    exact ⟨_, _, e6, e7, fun k1 e => eq_r e, rfl, fun v e => (no_rl e).elim, h0⟩
set_option maxHeartbeats 2000000 in
theorem k_probe {isv : Int32} {rpo : Int32} {rco : Int32} {tcp : Int32} {tkd : Int32} {tsd : Int32} {tlm : Int32} {tfu : Int32} {ttb : Int32} {trb : Int32} {tgr : Int32} {tK : Nat → Int32} {tV : Nat → Int32} {wcp : Int32} {wkd : Int32} {wsd : Int32} {wlm : Int32} {wfu : Int32} {wtb : Int32} {wrb : Int32} {wgr : Int32} {wK : Nat → Int32} {wV : Nat → Int32} {hnw : Int32} {hct : Int32} {hp : Nat → hTT} {pl : Int32} {pS : Nat → Int32} {ln : Int32} {lS : Nat → Int32} {mch : Int32} {msv : Int32} {mls : Int32} {mty : Int32} {mea : Int32} {mfa : Int32} {mA : Nat → Int32} {mL : Nat → Int32} {mI : Nat → Int32} {mth : Int32} (h : Rel isv rpo rco tcp tkd tsd tlm tfu ttb trb tgr tK tV wcp wkd wsd wlm wfu wtb wrb wgr wK wV hnw hct hp pl pS ln lS mch msv mls mty mea mfa mA mL mI) (x0 x1 : Int32) : ∃ out out2, fX6_probe tcp tkd tsd x0 x1 = some out ∧ fX7_probe mth mA x0 x1 = some out2 ∧ (∀ k1, out = .inr k1 → k1 = 1 ∨ k1 = 4) ∧ out2.2 = hkd [1, 4] out ∧ (∀ v, out = .inl v → v = out2.1) ∧ Rel isv rpo rco tcp tkd tsd tlm tfu ttb trb tgr tK tV wcp wkd wsd wlm wfu wtb wrb wgr wK wV hnw hct hp pl pS ln lS mch msv mls mty mea mfa mA mL mI := by
  have h0 := h
  obtain ⟨c, kd, sd, lm, fu, tb, ⟨rfl, rfl, rfl, rfl, rfl, rfl⟩, hI, hR, g6, g7⟩ := h.1
  have h64 := hI.cok.le
  rcases b_key x0 with ⟨k, hk, rfl, q1, q2⟩ | ⟨q1, q2⟩
  · rcases b_slot hI.cok hR.c0 x1 with ⟨i, hi, hi6, rfl, p1, p2, p3⟩ | ⟨p1, p2, p3⟩
    · have e6 : fX6_probe (II c) (II kd) (II sd) (II k) (II i) = some (Sum.inl (II (sq c kd sd k i))) := by
        unfold fX6_probe
        rw [q1, ob, if_neg i1n0, p1, ob, if_neg i1n0, c_slotIn hI.cok hI.kd2 hI.sd9 hk (by omega), ob]
      have e7 : fX7_probe mth mA (II k) (II i) = some (II (sq c kd sd k i), 0) := by
        unfold fX7_probe fX7_probe_33
        rw [q2, ob, if_neg i1n0, p2, ob, if_neg i1n0, if_pos rfl, r_slotAt hR.c0 hR.c3 hR.c4 hI.cok hI.kd2 hk hI.sd9 (by omega), ob]
      exact ⟨_, _, e6, e7, fun k1 e => (no_lr e).elim, rfl, fun v e => eq_l e, h0⟩
    · have e6 : fX6_probe (II c) (II kd) (II sd) (II k) x1 = some (Sum.inr 4) := by
        unfold fX6_probe
        rw [q1, ob, if_neg i1n0, p1, ob, if_pos rfl]
      have e7 : fX7_probe mth mA (II k) x1 = some (0, 2) := by
        unfold fX7_probe fX7_probe_33
        rw [q2, ob, if_neg i1n0, p2, ob, if_pos rfl, if_neg (by decide)]
      exact ⟨_, _, e6, e7, fun k1 e => Or.inr (eq_r e), rfl, fun v e => (no_rl e).elim, h0⟩
  · have e6 : fX6_probe (II c) (II kd) (II sd) x0 x1 = some (Sum.inr 1) := by
      unfold fX6_probe
      rw [q1, ob, if_pos rfl]
    have e7 : fX7_probe mth mA x0 x1 = some (0, 1) := by
      unfold fX7_probe fX7_probe_33
      rw [q2, ob, if_pos rfl, if_neg i1n0]
    exact ⟨_, _, e6, e7, fun k1 e => Or.inl (eq_r e), rfl, fun v e => (no_rl e).elim, h0⟩
set_option maxHeartbeats 2000000 in
theorem k_step {isv : Int32} {rpo : Int32} {rco : Int32} {tcp : Int32} {tkd : Int32} {tsd : Int32} {tlm : Int32} {tfu : Int32} {ttb : Int32} {trb : Int32} {tgr : Int32} {tK : Nat → Int32} {tV : Nat → Int32} {wcp : Int32} {wkd : Int32} {wsd : Int32} {wlm : Int32} {wfu : Int32} {wtb : Int32} {wrb : Int32} {wgr : Int32} {wK : Nat → Int32} {wV : Nat → Int32} {hnw : Int32} {hct : Int32} {hp : Nat → hTT} {pl : Int32} {pS : Nat → Int32} {ln : Int32} {lS : Nat → Int32} {mch : Int32} {msv : Int32} {mls : Int32} {mty : Int32} {mea : Int32} {mfa : Int32} {mA : Nat → Int32} {mL : Nat → Int32} {mI : Nat → Int32} {mth : Int32} (h : Rel isv rpo rco tcp tkd tsd tlm tfu ttb trb tgr tK tV wcp wkd wsd wlm wfu wtb wrb wgr wK wV hnw hct hp pl pS ln lS mch msv mls mty mea mfa mA mL mI) (x0 : Int32) : ∃ out out2, fX6_step tcp tkd tsd x0 = some out ∧ fX7_step mth mA x0 = some out2 ∧ (∀ k1, out = .inr k1 → k1 = 1) ∧ out2.2 = hkd [1] out ∧ (∀ v, out = .inl v → v = out2.1) ∧ Rel isv rpo rco tcp tkd tsd tlm tfu ttb trb tgr tK tV wcp wkd wsd wlm wfu wtb wrb wgr wK wV hnw hct hp pl pS ln lS mch msv mls mty mea mfa mA mL mI := by
  have h0 := h
  obtain ⟨c, kd, sd, lm, fu, tb, ⟨rfl, rfl, rfl, rfl, rfl, rfl⟩, hI, hR, g6, g7⟩ := h.1
  rcases b_key x0 with ⟨k, hk, rfl, q1, q2⟩ | ⟨q1, q2⟩
  · have e6 : fX6_step (II c) (II kd) (II sd) (II k) = some (Sum.inl (II (stN c kd (hN k sd)))) := by
      unfold fX6_step
      rw [q1, ob, if_neg i1n0, c_hash hk hI.sd9, ob, c_stride hI.cok hI.kd2 (hN_lt k sd), ob]
    have e7 : fX7_step mth mA (II k) = some (II (stN c kd (hN k sd)), 0) := by
      unfold fX7_step
      rw [q2, ob, fine1, ob]
      refine (if_neg (show ¬ (1 : Int32) = 0 by decide)).trans ?_
      rw [r_step hR.c0 hR.c3 hR.c4 hI.cok hI.kd2 hk hI.sd9, ob]
    exact ⟨_, _, e6, e7, fun k1 e => (no_lr e).elim, rfl, fun v e => eq_l e, h0⟩
  · have e6 : fX6_step (II c) (II kd) (II sd) x0 = some (Sum.inr 1) := by
      unfold fX6_step
      rw [q1, ob, if_pos rfl]
    have e7 : fX7_step mth mA x0 = some (0, 1) := by
      unfold fX7_step
      rw [q2, ob, fine0, ob]
      exact if_pos rfl
    exact ⟨_, _, e6, e7, fun k1 e => eq_r e, rfl, fun v e => (no_rl e).elim, h0⟩
set_option maxHeartbeats 2000000 in
theorem k_probes {isv : Int32} {rpo : Int32} {rco : Int32} {tcp : Int32} {tkd : Int32} {tsd : Int32} {tlm : Int32} {tfu : Int32} {ttb : Int32} {trb : Int32} {tgr : Int32} {tK : Nat → Int32} {tV : Nat → Int32} {wcp : Int32} {wkd : Int32} {wsd : Int32} {wlm : Int32} {wfu : Int32} {wtb : Int32} {wrb : Int32} {wgr : Int32} {wK : Nat → Int32} {wV : Nat → Int32} {hnw : Int32} {hct : Int32} {hp : Nat → hTT} {pl : Int32} {pS : Nat → Int32} {ln : Int32} {lS : Nat → Int32} {mch : Int32} {msv : Int32} {mls : Int32} {mty : Int32} {mea : Int32} {mfa : Int32} {mA : Nat → Int32} {mL : Nat → Int32} {mI : Nat → Int32} {mth : Int32} {mex : Int32} {mfr : Int32} (h : Rel isv rpo rco tcp tkd tsd tlm tfu ttb trb tgr tK tV wcp wkd wsd wlm wfu wtb wrb wgr wK wV hnw hct hp pl pS ln lS mch msv mls mty mea mfa mA mL mI) (x0 : Int32) : ∃ out out2, fX6_probes tcp tkd tsd tK x0 = some out ∧ fX7_probes mth mex mfr mA x0 = some out2 ∧ (∀ k1, out = .inr k1 → k1 = 1) ∧ out2.2.1 = hkd [1] out ∧ (∀ v, out = .inl v → v = out2.1) ∧ Rel isv rpo rco tcp tkd tsd tlm tfu ttb trb tgr tK tV wcp wkd wsd wlm wfu wtb wrb wgr wK wV hnw hct hp pl pS ln lS mch msv mls mty mea mfa mA mL mI := by
  have h0 := h
  obtain ⟨c, kd, sd, lm, fu, tb, ⟨rfl, rfl, rfl, rfl, rfl, rfl⟩, hI, hR, g6, g7⟩ := h.1
  rcases b_key x0 with ⟨k, hk, rfl, q1, q2⟩ | ⟨q1, q2⟩
  · have e6 : fX6_probes (II c) (II kd) (II sd) tK (II k) = some (Sum.inl (II (fs c kd sd tK k + 1))) := by
      unfold fX6_probes
      rw [q1, ob, if_neg i1n0, c_search hI.cok hI.kd2 hI.sd9 hk hI.emp, ob]
    have e7 : fX7_probes mth mex mfr mA (II k) = some (II (fs c kd sd tK k + 1), 0, II (fs c kd sd tK k + 1), fr c kd sd tK k (fs c kd sd tK k + 1)) := by
      unfold fX7_probes
      rw [q2, ob, fine1, ob]
      refine (if_neg (show ¬ (1 : Int32) = 0 by decide)).trans ?_
      rw [r_exam hR hI.cok hI.kd2 hI.sd9 hk hI.kt hI.emp, ob]
    exact ⟨_, _, e6, e7, fun k1 e => (no_lr e).elim, rfl, fun v e => eq_l e, h0⟩
  · have e6 : fX6_probes (II c) (II kd) (II sd) tK x0 = some (Sum.inr 1) := by
      unfold fX6_probes
      rw [q1, ob, if_pos rfl]
    have e7 : fX7_probes mth mex mfr mA x0 = some (0, 1, mex, mfr) := by
      unfold fX7_probes
      rw [q2, ob, fine0, ob]
      exact if_pos rfl
    exact ⟨_, _, e6, e7, fun k1 e => eq_r e, rfl, fun v e => (no_rl e).elim, h0⟩
set_option maxHeartbeats 2000000 in
theorem k_probesBySlot {isv : Int32} {rpo : Int32} {rco : Int32} {tcp : Int32} {tkd : Int32} {tsd : Int32} {tlm : Int32} {tfu : Int32} {ttb : Int32} {trb : Int32} {tgr : Int32} {tK : Nat → Int32} {tV : Nat → Int32} {wcp : Int32} {wkd : Int32} {wsd : Int32} {wlm : Int32} {wfu : Int32} {wtb : Int32} {wrb : Int32} {wgr : Int32} {wK : Nat → Int32} {wV : Nat → Int32} {hnw : Int32} {hct : Int32} {hp : Nat → hTT} {pl : Int32} {pS : Nat → Int32} {ln : Int32} {lS : Nat → Int32} {mch : Int32} {msv : Int32} {mls : Int32} {mty : Int32} {mea : Int32} {mfa : Int32} {mA : Nat → Int32} {mL : Nat → Int32} {mI : Nat → Int32} {mth : Int32} {mex : Int32} {mfr : Int32} (h : Rel isv rpo rco tcp tkd tsd tlm tfu ttb trb tgr tK tV wcp wkd wsd wlm wfu wtb wrb wgr wK wV hnw hct hp pl pS ln lS mch msv mls mty mea mfa mA mL mI) (x0 : Int32) : ∃ out out2, fX6_probesBySlot tcp tkd tsd tK x0 = some out ∧ fX7_probesBySlot mth mex mfr mA x0 = some out2 ∧ (∀ k1, out = .inr k1 → k1 = 3) ∧ out2.2.1 = hkd [3] out ∧ (∀ v, out = .inl v → v = out2.1) ∧ Rel isv rpo rco tcp tkd tsd tlm tfu ttb trb tgr tK tV wcp wkd wsd wlm wfu wtb wrb wgr wK wV hnw hct hp pl pS ln lS mch msv mls mty mea mfa mA mL mI := by
  have h0 := h
  obtain ⟨c, kd, sd, lm, fu, tb, ⟨rfl, rfl, rfl, rfl, rfl, rfl⟩, hI, hR, g6, g7⟩ := h.1
  rcases b_find hI hR x0 mex mfr with ⟨k, s, mex', mfr', hk, hs9, rfl, e, es, q1, q2⟩ | ⟨mex', mfr', q1, q2⟩
  · have hf := fs_lt (kd := kd) (sd := sd) (k := k) hI.cok hI.emp
    have e6 : fX6_probesBySlot (II c) (II kd) (II sd) tK (II k) = some (Sum.inl (II (fs c kd sd tK k + 1))) := by
      unfold fX6_probesBySlot
      rw [q1, ob, if_neg (n_ne1 (by omega)), es]
      unfold hs
      rw [c_dist hI.cok hI.kd2 hI.sd9 hk hf, ob]
    have e7 : fX7_probesBySlot mth mex mfr mA (II k) = some (II (fs c kd sd tK k + 1), 0, II (fs c kd sd tK k + 1), fr c kd sd tK k (fs c kd sd tK k + 1)) := by
      unfold fX7_probesBySlot fX7_probesBySlot_14
      rw [q2, ob]
      refine (if_neg (show ¬ II s < (0 : Int32) from n_nlt0 (by omega))).trans ?_
      rw [fine1, ob]
      refine (if_neg (show ¬ (1 : Int32) = 0 by decide)).trans ?_
      rw [r_exam hR hI.cok hI.kd2 hI.sd9 hk hI.kt hI.emp, ob]
    exact ⟨_, _, e6, e7, fun k1 e => (no_lr e).elim, rfl, fun v e => eq_l e, h0⟩
  · have e6 : fX6_probesBySlot (II c) (II kd) (II sd) tK x0 = some (Sum.inr 3) := by
      unfold fX6_probesBySlot
      rw [q1, ob, if_pos rfl]
    have e7 : fX7_probesBySlot mth mex mfr mA x0 = some (0, 1, mex', mfr') := by
      unfold fX7_probesBySlot fX7_probesBySlot_14
      rw [q2, ob]
      refine (if_pos (show (-1 : Int32) < 0 by decide)).trans ?_
      rw [fine0, ob]
      exact if_pos rfl
    exact ⟨_, _, e6, e7, fun k1 e => eq_r e, rfl, fun v e => (no_rl e).elim, h0⟩
set_option maxHeartbeats 2000000 in
theorem k_isFull {isv : Int32} {rpo : Int32} {rco : Int32} {tcp : Int32} {tkd : Int32} {tsd : Int32} {tlm : Int32} {tfu : Int32} {ttb : Int32} {trb : Int32} {tgr : Int32} {tK : Nat → Int32} {tV : Nat → Int32} {wcp : Int32} {wkd : Int32} {wsd : Int32} {wlm : Int32} {wfu : Int32} {wtb : Int32} {wrb : Int32} {wgr : Int32} {wK : Nat → Int32} {wV : Nat → Int32} {hnw : Int32} {hct : Int32} {hp : Nat → hTT} {pl : Int32} {pS : Nat → Int32} {ln : Int32} {lS : Nat → Int32} {mch : Int32} {msv : Int32} {mls : Int32} {mty : Int32} {mea : Int32} {mfa : Int32} {mA : Nat → Int32} {mL : Nat → Int32} {mI : Nat → Int32} {mth : Int32} (h : Rel isv rpo rco tcp tkd tsd tlm tfu ttb trb tgr tK tV wcp wkd wsd wlm wfu wtb wrb wgr wK wV hnw hct hp pl pS ln lS mch msv mls mty mea mfa mA mL mI) (x0 : Int32) : ∃ out out2, fX6_isFull tcp tK x0 = some out ∧ fX7_isFull mth mA x0 = some out2 ∧ (∀ k1, out = .inr k1 → k1 = 4) ∧ out2.2 = hkd [4] out ∧ (∀ v, out = .inl v → v = out2.1) ∧ Rel isv rpo rco tcp tkd tsd tlm tfu ttb trb tgr tK tV wcp wkd wsd wlm wfu wtb wrb wgr wK wV hnw hct hp pl pS ln lS mch msv mls mty mea mfa mA mL mI := by
  have h0 := h
  obtain ⟨c, kd, sd, lm, fu, tb, ⟨rfl, rfl, rfl, rfl, rfl, rfl⟩, hI, hR, g6, g7⟩ := h.1
  rcases b_slot hI.cok hR.c0 x0 with ⟨i, hi, hi6, rfl, p1, p2, p3⟩ | ⟨p1, p2, p3⟩
  · have e6 : fX6_isFull (II c) tK (II i) = some (Sum.inl (if tK i < 0 then 0 else 1)) := by
      unfold fX6_isFull
      rw [p1, ob, if_neg i1n0, c_isFull hi6, ob]
      by_cases z : tK i < 0
      · rw [if_pos z, if_pos r_nar0]
      · rw [if_neg z, if_pos r_nar1]
    have e7 : fX7_isFull mth mA (II i) = some (if tK i < 0 then 0 else 1, 0) := by
      unfold fX7_isFull
      rw [p3, ob, fine1, ob]
      refine (if_neg (show ¬ (1 : Int32) = 0 by decide)).trans ?_
      rw [r_at0 hi6, ob]
      rcases hR.at hi6 with ⟨g, g1⟩ | ⟨g, g1⟩ | ⟨g, g1, -⟩
      · rw [g1, g, if_neg (by decide), if_pos (by decide)]
      · rw [g1, g, if_neg (by decide), if_pos (by decide)]
      · rw [g1, if_pos rfl, if_neg (i_nlt.mpr g)]
    exact ⟨_, _, e6, e7, fun k1 e => (no_lr e).elim, rfl, fun v e => eq_l e, h0⟩
  · have e6 : fX6_isFull (II c) tK x0 = some (Sum.inr 4) := by
      unfold fX6_isFull
      rw [p1, ob, if_pos rfl]
    have e7 : fX7_isFull mth mA x0 = some (0, 1) := by
      unfold fX7_isFull
      rw [p3, ob, fine0, ob]
      exact if_pos rfl
    exact ⟨_, _, e6, e7, fun k1 e => eq_r e, rfl, fun v e => (no_rl e).elim, h0⟩
set_option maxHeartbeats 2000000 in
theorem k_isTombstone {isv : Int32} {rpo : Int32} {rco : Int32} {tcp : Int32} {tkd : Int32} {tsd : Int32} {tlm : Int32} {tfu : Int32} {ttb : Int32} {trb : Int32} {tgr : Int32} {tK : Nat → Int32} {tV : Nat → Int32} {wcp : Int32} {wkd : Int32} {wsd : Int32} {wlm : Int32} {wfu : Int32} {wtb : Int32} {wrb : Int32} {wgr : Int32} {wK : Nat → Int32} {wV : Nat → Int32} {hnw : Int32} {hct : Int32} {hp : Nat → hTT} {pl : Int32} {pS : Nat → Int32} {ln : Int32} {lS : Nat → Int32} {mch : Int32} {msv : Int32} {mls : Int32} {mty : Int32} {mea : Int32} {mfa : Int32} {mA : Nat → Int32} {mL : Nat → Int32} {mI : Nat → Int32} {mth : Int32} (h : Rel isv rpo rco tcp tkd tsd tlm tfu ttb trb tgr tK tV wcp wkd wsd wlm wfu wtb wrb wgr wK wV hnw hct hp pl pS ln lS mch msv mls mty mea mfa mA mL mI) (x0 : Int32) : ∃ out out2, fX6_isTombstone tcp tK x0 = some out ∧ fX7_isTombstone mth mA x0 = some out2 ∧ (∀ k1, out = .inr k1 → k1 = 4) ∧ out2.2 = hkd [4] out ∧ (∀ v, out = .inl v → v = out2.1) ∧ Rel isv rpo rco tcp tkd tsd tlm tfu ttb trb tgr tK tV wcp wkd wsd wlm wfu wtb wrb wgr wK wV hnw hct hp pl pS ln lS mch msv mls mty mea mfa mA mL mI := by
  have h0 := h
  obtain ⟨c, kd, sd, lm, fu, tb, ⟨rfl, rfl, rfl, rfl, rfl, rfl⟩, hI, hR, g6, g7⟩ := h.1
  rcases b_slot hI.cok hR.c0 x0 with ⟨i, hi, hi6, rfl, p1, p2, p3⟩ | ⟨p1, p2, p3⟩
  · have e6 : fX6_isTombstone (II c) tK (II i) = some (Sum.inl (if tK i = -2 then 1 else 0)) := by
      unfold fX6_isTombstone
      rw [p1, ob, if_neg i1n0, c_content hi6, ob]
      by_cases z : tK i = -2
      · rw [if_pos z, if_pos z]
      · rw [if_neg z, if_neg z]
    have e7 : fX7_isTombstone mth mA (II i) = some (if tK i = -2 then 1 else 0, 0) := by
      unfold fX7_isTombstone
      rw [p3, ob, fine1, ob]
      refine (if_neg (show ¬ (1 : Int32) = 0 by decide)).trans ?_
      rw [r_at0 hi6, ob]
      rcases hR.at hi6 with ⟨g, g1⟩ | ⟨g, g1⟩ | ⟨g, g1, -⟩
      · rw [g1, g, if_neg (by decide), if_neg (by decide)]
      · rw [g1, g, if_pos rfl, if_pos rfl]
      · rw [g1, if_neg (by decide), if_neg (fun e => by rw [e] at g; exact absurd g (by decide))]
    exact ⟨_, _, e6, e7, fun k1 e => (no_lr e).elim, rfl, fun v e => eq_l e, h0⟩
  · have e6 : fX6_isTombstone (II c) tK x0 = some (Sum.inr 4) := by
      unfold fX6_isTombstone
      rw [p1, ob, if_pos rfl]
    have e7 : fX7_isTombstone mth mA x0 = some (0, 1) := by
      unfold fX7_isTombstone
      rw [p3, ob, fine0, ob]
      exact if_pos rfl
    exact ⟨_, _, e6, e7, fun k1 e => eq_r e, rfl, fun v e => (no_rl e).elim, h0⟩
set_option maxHeartbeats 2000000 in
theorem k_keyIn {isv : Int32} {rpo : Int32} {rco : Int32} {tcp : Int32} {tkd : Int32} {tsd : Int32} {tlm : Int32} {tfu : Int32} {ttb : Int32} {trb : Int32} {tgr : Int32} {tK : Nat → Int32} {tV : Nat → Int32} {wcp : Int32} {wkd : Int32} {wsd : Int32} {wlm : Int32} {wfu : Int32} {wtb : Int32} {wrb : Int32} {wgr : Int32} {wK : Nat → Int32} {wV : Nat → Int32} {hnw : Int32} {hct : Int32} {hp : Nat → hTT} {pl : Int32} {pS : Nat → Int32} {ln : Int32} {lS : Nat → Int32} {mch : Int32} {msv : Int32} {mls : Int32} {mty : Int32} {mea : Int32} {mfa : Int32} {mA : Nat → Int32} {mL : Nat → Int32} {mI : Nat → Int32} {mth : Int32} (h : Rel isv rpo rco tcp tkd tsd tlm tfu ttb trb tgr tK tV wcp wkd wsd wlm wfu wtb wrb wgr wK wV hnw hct hp pl pS ln lS mch msv mls mty mea mfa mA mL mI) (x0 : Int32) : ∃ out out2, fX6_keyIn tcp tK x0 = some out ∧ fX7_keyIn mth mA x0 = some out2 ∧ (∀ k1, out = .inr k1 → k1 = 4 ∨ k1 = 3) ∧ out2.2 = hkd [4, 3] out ∧ (∀ v, out = .inl v → v = out2.1) ∧ Rel isv rpo rco tcp tkd tsd tlm tfu ttb trb tgr tK tV wcp wkd wsd wlm wfu wtb wrb wgr wK wV hnw hct hp pl pS ln lS mch msv mls mty mea mfa mA mL mI := by
  have h0 := h
  obtain ⟨c, kd, sd, lm, fu, tb, ⟨rfl, rfl, rfl, rfl, rfl, rfl⟩, hI, hR, g6, g7⟩ := h.1
  rcases b_slot hI.cok hR.c0 x0 with ⟨i, hi, hi6, rfl, p1, p2, p3⟩ | ⟨p1, p2, p3⟩
  · by_cases z : tK i < 0
    · have e6 : fX6_keyIn (II c) tK (II i) = some (Sum.inr 3) := by
        unfold fX6_keyIn
        rw [p1, ob, if_neg i1n0, c_isFull hi6, ob, if_pos z, if_pos rfl]
      have e7 : fX7_keyIn mth mA (II i) = some (0, 2) := by
        unfold fX7_keyIn fX7_keyIn_28
        rw [p3, ob, if_neg i1n0, r_at0 hi6, ob]
        rcases hR.at hi6 with ⟨g, g1⟩ | ⟨g, g1⟩ | ⟨g, g1, -⟩
        · rw [g1, if_neg (by decide), if_neg (by decide)]
        · rw [g1, if_neg (by decide), if_neg (by decide)]
        · exact absurd z (i_nlt.mpr g)
      exact ⟨_, _, e6, e7, fun k1 e => Or.inr (eq_r e), rfl, fun v e => (no_rl e).elim, h0⟩
    · have e6 : fX6_keyIn (II c) tK (II i) = some (Sum.inl (tK i)) := by
        unfold fX6_keyIn
        rw [p1, ob, if_neg i1n0, c_isFull hi6, ob, if_neg z, if_neg i1n0, c_content hi6, ob]
      have e7 : fX7_keyIn mth mA (II i) = some (tK i, 0) := by
        unfold fX7_keyIn fX7_keyIn_28
        rw [p3, ob, if_neg i1n0, r_at0 hi6, ob]
        rcases hR.at hi6 with ⟨g, g1⟩ | ⟨g, g1⟩ | ⟨g, g1, g2, -⟩
        · rw [g] at z; exact absurd (by decide) z
        · rw [g] at z; exact absurd (by decide) z
        · rw [g1, if_pos rfl, if_pos rfl, r_at1 hi6, ob, g2]
      exact ⟨_, _, e6, e7, fun k1 e => (no_lr e).elim, rfl, fun v e => eq_l e, h0⟩
  · have e6 : fX6_keyIn (II c) tK x0 = some (Sum.inr 4) := by
      unfold fX6_keyIn
      rw [p1, ob, if_pos rfl]
    have e7 : fX7_keyIn mth mA x0 = some (0, 1) := by
      unfold fX7_keyIn fX7_keyIn_28
      rw [p3, ob, if_pos rfl, if_neg i1n0]
    exact ⟨_, _, e6, e7, fun k1 e => Or.inl (eq_r e), rfl, fun v e => (no_rl e).elim, h0⟩
