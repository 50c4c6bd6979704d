/-! the relation of the laboratory and its reference -/
def Rel (isv : Int32) (rpo : Int32) (rco : Int32) (tcp : Int32) (tkd : Int32) (tsd : Int32) (tlm : Int32) (tfu : Int32) (ttb : Int32) (trb : Int32) (tgr : Int32) (tK : Nat → Int32) (tV : Nat → Int32) (wcp : Int32) (wkd : Int32) (wsd : Int32) (wlm : Int32) (wfu : Int32) (wtb : Int32) (wrb : Int32) (wgr : Int32) (wK : Nat → Int32) (wV : Nat → Int32) (hnw : Int32) (hct : Int32) (hp : Nat → hTT) (pl : Int32) (pS : Nat → Int32) (ln : Int32) (lS : Nat → Int32) (mch : Int32) (msv : Int32) (mls : Int32) (mty : Int32) (mea : Int32) (mfa : Int32) (mA : Nat → Int32) (mL : Nat → Int32) (mI : Nat → Int32) : Prop := TR 0 mA tcp tkd tsd tlm tfu ttb trb tgr tK tV ∧ HR mA mch hnw hct hp ∧ (msv = isv ∧ (isv = 0 ∨ isv = 1) ∧ (isv ≠ 0 → TR 1800 mA wcp wkd wsd wlm wfu wtb wrb wgr wK wV)) ∧ (∃ n, n ≤ 640 ∧ ln = II n ∧ mls = II n ∧ ∀ i, i < n → mL i = lS i ∧ hl_nar .char (lS i) = true) ∧ (∃ n, n ≤ 60 ∧ pl = II n ∧ mty = II n ∧ ∀ i, i < n → mI i = pS i ∧ hl_nar .char (pS i) = true) ∧ mea = rpo ∧ mfa = rco
/-- a change that succeeds -/
theorem chg {isv : Int32} {rpo : Int32} {rco : Int32} {tcp : Int32} {tkd : Int32} {tsd : Int32} {tlm : Int32} {tfu : Int32} {ttb : Int32} {trb : Int32} {tgr : Int32} {tK : Nat → Int32} {tV : Nat → Int32} {wcp : Int32} {wkd : Int32} {wsd : Int32} {wlm : Int32} {wfu : Int32} {wtb : Int32} {wrb : Int32} {wgr : Int32} {wK : Nat → Int32} {wV : Nat → Int32} {hnw : Int32} {hct : Int32} {hp : Nat → hTT} {pl : Int32} {pS : Nat → Int32} {ln : Int32} {lS : Nat → Int32} {mch : Int32} {msv : Int32} {mls : Int32} {mty : Int32} {mea : Int32} {mfa : Int32} {mA : Nat → Int32} {mL : Nat → Int32} {mI : Nat → Int32} (h : Rel isv rpo rco tcp tkd tsd tlm tfu ttb trb tgr tK tV wcp wkd wsd wlm wfu wtb wrb wgr wK wV hnw hct hp pl pS ln lS mch msv mls mty mea mfa mA mL mI) : ∃ hnw' hct' hp' mch', fX2_record hnw hct tcp tkd tsd tlm tfu ttb trb tgr tK tV hp = some (hnw', hct', hp') ∧
    ∀ (m1 : Nat → Int32) (ucp : Int32) (ukd : Int32) (usd : Int32) (ulm : Int32) (ufu : Int32) (utb : Int32) (urb : Int32) (ugr : Int32) (uK : Nat → Int32) (uV : Nat → Int32), (∀ i, 200 ≤ i → i < 2400 → m1 i = cpR mA 0 10 i) → TR 0 m1 ucp ukd usd ulm ufu utb urb ugr uK uV →
      ∃ m2, (∀ mth mre : Int32, fX7_ends_20 mth mch mre m1 0 = some (mre, 0, mch', m2)) ∧ Rel isv rpo rco ucp ukd usd ulm ufu utb urb ugr uK uV wcp wkd wsd wlm wfu wtb wrb wgr wK wV hnw' hct' hp' pl pS ln lS mch' msv mls mty mea mfa m2 mL mI := by
  obtain ⟨h1, h2, ⟨h3, h4, h5⟩, h6, h7, h8, h9⟩ := h
  obtain ⟨hnw', hct', hp', mch', g1, g2⟩ := b_change h2 tcp tkd tsd tlm tfu ttb trb tgr tK tV
  refine ⟨hnw', hct', hp', mch', g1, fun m1 ucp ukd usd ulm ufu utb urb ugr uK uV hm hT => ?_⟩
  obtain ⟨m2, q1, q2, q3⟩ := g2 m1 (fun i a b => by rw [hm i a (by omega)]; exact cpR_out (by omega)) (TR.move h1 (fun i hi => by rw [hm _ (by omega) (by omega), show 2000 + i = 200 * 10 + i from by omega, cpR_in hi]))
  refine ⟨m2, q1, TR.move hT (fun i hi => q3 _ (by omega)), q2, ⟨h3, h4, fun e => TR.move (h5 e) (fun i hi => ?_)⟩, h6, h7, h8, h9⟩
  rw [q3 _ (by omega), hm _ (by omega) (by omega)]
  exact cpR_out (by omega)
/-- a change that fails -/
theorem chgN {isv : Int32} {rpo : Int32} {rco : Int32} {tcp : Int32} {tkd : Int32} {tsd : Int32} {tlm : Int32} {tfu : Int32} {ttb : Int32} {trb : Int32} {tgr : Int32} {tK : Nat → Int32} {tV : Nat → Int32} {wcp : Int32} {wkd : Int32} {wsd : Int32} {wlm : Int32} {wfu : Int32} {wtb : Int32} {wrb : Int32} {wgr : Int32} {wK : Nat → Int32} {wV : Nat → Int32} {hnw : Int32} {hct : Int32} {hp : Nat → hTT} {pl : Int32} {pS : Nat → Int32} {ln : Int32} {lS : Nat → Int32} {mch : Int32} {msv : Int32} {mls : Int32} {mty : Int32} {mea : Int32} {mfa : Int32} {mA : Nat → Int32} {mL : Nat → Int32} {mI : Nat → Int32} (h : Rel isv rpo rco tcp tkd tsd tlm tfu ttb trb tgr tK tV wcp wkd wsd wlm wfu wtb wrb wgr wK wV hnw hct hp pl pS ln lS mch msv mls mty mea mfa mA mL mI) (m1 : Nat → Int32) (hm : ∀ i, 200 ≤ i → i < 2400 → m1 i = cpR mA 0 10 i) : Rel isv rpo rco tcp tkd tsd tlm tfu ttb trb tgr tK tV wcp wkd wsd wlm wfu wtb wrb wgr wK wV hnw hct hp pl pS ln lS mch msv mls mty mea mfa (cpR m1 10 0) mL mI := by
  obtain ⟨h1, h2, ⟨h3, h4, h5⟩, h6, h7, h8, h9⟩ := h
  refine ⟨TR.move h1 (fun i hi => ?_), HR.move h2 (fun i a b => ?_), ⟨h3, h4, fun e => TR.move (h5 e) (fun i hi => ?_)⟩, h6, h7, h8, h9⟩
  · rw [show 0 + i = 200 * 0 + i from by omega, cpR_in hi, hm _ (by omega) (by omega), cpR_in hi]
  · rw [cpR_out (by omega), hm _ (by omega) (by omega)]
    exact cpR_out (by omega)
  · rw [cpR_out (by omega), hm _ (by omega) (by omega)]
    exact cpR_out (by omega)
theorem Rw.off {c kd sd lm fu tb : Nat} {K V mA mA' : Nat → Int32} (h : Rw 0 c kd sd lm fu tb K V mA) (hm : ∀ i, i < 200 → mA' i = mA i) : Rw 0 c kd sd lm fu tb K V mA' := h.move (fun i hi => hm _ (by omega))
theorem cp10_low {mA : Nat → Int32} {i : Nat} (h : i < 200) : cpR mA 0 10 i = mA i := cpR_out (by omega)
theorem Rw.begun {c kd sd lm fu tb : Nat} {K V mA : Nat → Int32} (h : Rw 0 c kd sd lm fu tb K V mA) : Rw 0 c kd sd lm fu tb K V (cpR mA 0 10) := h.off (fun i hi => cp10_low hi)
theorem c_isValue {v : Int32} (h : (-999 : Int32) ≤ v ∧ v ≤ (999 : Int32)) : fX6_isValue v = some 1 := by
  unfold fX6_isValue
  rw [if_neg (i_nlt.mpr h.1), if_neg (i_nlt.mpr h.2)]
theorem c_isValueN {v : Int32} (h : ¬ ((-999 : Int32) ≤ v ∧ v ≤ (999 : Int32))) : fX6_isValue v = some 0 := by
  unfold fX6_isValue
  by_cases h0 : v < -999
  · rw [if_pos h0]
  · rw [if_neg h0]
    by_cases h1 : (999 : Int32) < v
    · rw [if_pos h1]
    · exact absurd ⟨i_nlt.mp h0, i_nlt.mp h1⟩ h
theorem hcd_l (ks : List Nat) (v : Int32) : hkd ks (.inl v : Int32 ⊕ Nat) = 0 := rfl
theorem no_rl {α : Type} {k : Nat} {v : α} (h : (Sum.inr k : α ⊕ Nat) = .inl v) : False := by cases h
theorem no_lr {α : Type} {k : Nat} {v : α} (h : (Sum.inl v : α ⊕ Nat) = .inr k) : False := by cases h
theorem eq_l {α : Type} {v w : α} (h : (Sum.inl v : α ⊕ Nat) = .inl w) : w = v := by cases h; rfl
theorem eq_r {α : Type} {k j : Nat} (h : (Sum.inr k : α ⊕ Nat) = .inr j) : j = k := by cases h; rfl
