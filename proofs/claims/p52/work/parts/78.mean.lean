/-! calls of both: meanProbes meanProbesBits load loadBits -/
/-- both add up the lengths of the searches -/
theorem b_sum {c kd sd lm fu tb : Nat} {K V mA : Nat → Int32} (hI : Inv c kd sd lm fu tb K V) (hR : Rw 0 c kd sd lm fu tb K V mA) (hfu : 0 < fu) : ∀ n i S (mex mfr : Int32), i ≤ c → c - i < n → cnt (fl K) i ≤ S → S ≤ 64 * i → ∃ S' mex' mfr', fu ≤ S' ∧ S' ≤ 4096 ∧ fX5_meanSearchLength_4 n (II c) (II kd) (II sd) (II fu) K (II S) (II i) = some (FP.ddiv (FP.i2d (II S')) (FP.i2d (II fu))) ∧
    fX7_mean_4 n mex mfr mA (II S) (II i) = some (FP.ddiv (FP.i2d (II S')) (FP.i2d (II fu)), mex', mfr')
  | 0, i, _, _, _, _, hn, _, _ => by omega
  | n + 1, i, S, mex, mfr, hi, hn, hS, hS2 => by
    have h64 := hI.cok.le
    have hft := hI.ft
    unfold fX5_meanSearchLength_4 fX5_meanSearchLength_32 fX7_mean_4 fX7_mean_39
    rw [hR.c0, hR.c1]
    by_cases e : c ≤ i
    · have : i = c := by omega
      subst this
      rw [hI.fuc] at hS
      have hb := (fn_all (S := S) (F := fu) (by omega) hS (by omega)).1
      rw [if_pos ((n_le hI.cok.lt hI.cok.lt).mpr e), if_pos ((n_le hI.cok.lt hI.cok.lt).mpr e), if_neg (fun e2 : II fu ≤ (0 : Int32) => by have := (n_le (b := 0) (by omega) (by decide)).mp e2; omega), if_pos hb, if_pos hb]
      exact ⟨S, mex, mfr, hS, by omega, rfl, rfl⟩
    · have n1 : ¬ II c ≤ II i := fun e3 => e ((n_le hI.cok.lt (by omega)).mp e3)
      rw [if_neg n1, if_neg n1, c_isFull (by omega), ob, r_at0 (by omega), ob, show II i + (1 : Int32) = II (i + 1) from n_add i 1]
      have hcn := cnt_s (fl K) i
      rcases hR.at (s := i) (by omega) with ⟨g, g1⟩ | ⟨g, g1⟩ | ⟨g, g1, g2, -⟩
      · have hf : fl K i = false := by unfold fl; rw [g]; rfl
        rw [hf, if_neg (by decide)] at hcn
        rw [if_pos (show K i < 0 by rw [g]; decide), if_pos rfl, g1, if_neg (by decide), Int32.add_zero]
        exact b_sum hI hR hfu n (i + 1) S mex mfr (by omega) (by omega) (by omega) (by omega)
      · have hf : fl K i = false := by unfold fl; rw [g]; rfl
        rw [hf, if_neg (by decide)] at hcn
        rw [if_pos (show K i < 0 by rw [g]; decide), if_pos rfl, g1, if_neg (by decide), Int32.add_zero]
        exact b_sum hI hR hfu n (i + 1) S mex mfr (by omega) (by omega) (by omega) (by omega)
      · have hf : fl K i = true := decide_eq_true g
        rw [hf, if_pos rfl] at hcn
        obtain ⟨k, hk, ek⟩ := hI.kt.pos (s := i) (by omega) g
        have hfl := fs_lt (kd := kd) (sd := sd) (k := k) hI.cok hI.emp
        rw [if_neg (i_nlt.mpr g), if_neg i1n0, c_content (by omega), ob, ek, c_search hI.cok hI.kd2 hI.sd9 hk hI.emp, ob, g1, if_pos rfl, r_at1 (by omega), ob, g2, ek, r_exam hR hI.cok hI.kd2 hI.sd9 hk hI.kt hI.emp, ob, n_add]
        exact b_sum hI hR hfu n (i + 1) (S + (fs c kd sd K k + 1)) _ _ (by omega) (by omega) (by omega) (by omega)
set_option maxHeartbeats 2000000 in
theorem k_meanProbes {isv : Int32} {rpo : Int32} {rco : Int32} {tcp : Int32} {tkd : Int32} {tsd : Int32} {tlm : Int32} {tfu : Int32} {ttb : Int32} {trb : Int32} {tgr : Int32} {tK : Nat → Int32} {tV : Nat → Int32} {wcp : Int32} {wkd : Int32} {wsd : Int32} {wlm : Int32} {wfu : Int32} {wtb : Int32} {wrb : Int32} {wgr : Int32} {wK : Nat → Int32} {wV : Nat → Int32} {hnw : Int32} {hct : Int32} {hp : Nat → hTT} {pl : Int32} {pS : Nat → Int32} {ln : Int32} {lS : Nat → Int32} {mch : Int32} {msv : Int32} {mls : Int32} {mty : Int32} {mea : Int32} {mfa : Int32} {mA : Nat → Int32} {mL : Nat → Int32} {mI : Nat → Int32} {mth : Int32} {mex : Int32} {mfr : Int32} (h : Rel isv rpo rco tcp tkd tsd tlm tfu ttb trb tgr tK tV wcp wkd wsd wlm wfu wtb wrb wgr wK wV hnw hct hp pl pS ln lS mch msv mls mty mea mfa mA mL mI) : ∃ out out2, fX6_meanProbes tcp tkd tsd tfu tK = some out ∧ fX7_meanProbes mth mex mfr mA = some out2 ∧ (∀ k1, out = .inr k1 → k1 = 5) ∧ out2.2.1 = hkd [5] out ∧ (∀ v, out = .inl v → v = out2.1) ∧ Rel isv rpo rco tcp tkd tsd tlm tfu ttb trb tgr tK tV wcp wkd wsd wlm wfu wtb wrb wgr wK wV hnw hct hp pl pS ln lS mch msv mls mty mea mfa mA mL mI := by
  have h0 := h
  obtain ⟨c, kd, sd, lm, fu, tb, ⟨rfl, rfl, rfl, rfl, rfl, rfl⟩, hI, hR, g6, g7⟩ := h.1
  have h64 := hI.cok.le
  have hft := hI.ft
  by_cases hfu : 0 < fu
  · obtain ⟨S, mex', mfr', s1, s2, q1, q2⟩ := b_sum hI hR hfu 1000 0 0 mex mfr (by omega) (by omega) (Nat.zero_le _) (by omega)
    have e6 : fX6_meanProbes (II c) (II kd) (II sd) (II fu) tK = some (Sum.inl (FP.ddiv (FP.i2d (II S)) (FP.i2d (II fu)))) := by
      unfold fX6_meanProbes fX5_meanSearchLength
      rw [if_pos (show (0 : Int32) < II fu from (n_lt (a := 0) (by decide) (by omega)).mpr hfu)]
      rw [show fX5_meanSearchLength_4 1000 (II c) (II kd) (II sd) (II fu) tK (0 : Int32) (0 : Int32) = _ from q1, ob]
    have e7 : fX7_meanProbes mth mex mfr mA = some (FP.ddiv (FP.i2d (II S)) (FP.i2d (II fu)), 0, mex', mfr') := by
      unfold fX7_meanProbes fX7_meanProbes_15 fX7_mean
      rw [hR.c1, if_neg (fun e2 : II fu ≤ (0 : Int32) => by have := (n_le (b := 0) (by omega) (by decide)).mp e2; omega), fine1, ob]
      refine (if_neg (show ¬ (1 : Int32) = 0 by decide)).trans ?_
      rw [show fX7_mean_4 1000 mex mfr mA (0 : Int32) (0 : Int32) = _ from q2, ob]
    exact ⟨_, _, e6, e7, fun k1 e => (no_lr e).elim, rfl, fun v e => eq_l e, h0⟩
  · have e6 : fX6_meanProbes (II c) (II kd) (II sd) (II fu) tK = some (Sum.inr 5) := by
      unfold fX6_meanProbes
      rw [if_neg (fun e2 : (0 : Int32) < II fu => hfu ((n_lt (a := 0) (by decide) (by omega)).mp e2))]
    have e7 : fX7_meanProbes mth mex mfr mA = some (FP.dconst0, 1, mex, mfr) := by
      unfold fX7_meanProbes fX7_meanProbes_15
      rw [hR.c1, if_pos (show II fu ≤ (0 : Int32) from (n_le (b := 0) (by omega) (by decide)).mpr (by omega)), fine0, ob]
      exact if_pos rfl
    exact ⟨_, _, e6, e7, fun k1 e => eq_r e, rfl, fun v e => (no_rl e).elim, h0⟩
set_option maxHeartbeats 2000000 in
theorem k_meanProbesBits {isv : Int32} {rpo : Int32} {rco : Int32} {tcp : Int32} {tkd : Int32} {tsd : Int32} {tlm : Int32} {tfu : Int32} {ttb : Int32} {trb : Int32} {tgr : Int32} {tK : Nat → Int32} {tV : Nat → Int32} {wcp : Int32} {wkd : Int32} {wsd : Int32} {wlm : Int32} {wfu : Int32} {wtb : Int32} {wrb : Int32} {wgr : Int32} {wK : Nat → Int32} {wV : Nat → Int32} {hnw : Int32} {hct : Int32} {hp : Nat → hTT} {pl : Int32} {pS : Nat → Int32} {ln : Int32} {lS : Nat → Int32} {mch : Int32} {msv : Int32} {mls : Int32} {mty : Int32} {mea : Int32} {mfa : Int32} {mA : Nat → Int32} {mL : Nat → Int32} {mI : Nat → Int32} {mth : Int32} {mex : Int32} {mfr : Int32} (h : Rel isv rpo rco tcp tkd tsd tlm tfu ttb trb tgr tK tV wcp wkd wsd wlm wfu wtb wrb wgr wK wV hnw hct hp pl pS ln lS mch msv mls mty mea mfa mA mL mI) : ∃ out out2, fX6_meanProbesBits tcp tkd tsd tfu tK = some out ∧ fX7_meanProbesBits mth mex mfr mA = some out2 ∧ (∀ k1, out = .inr k1 → k1 = 5) ∧ out2.2.1 = hkd [5] out ∧ (∀ v, out = .inl v → v = out2.1) ∧ Rel isv rpo rco tcp tkd tsd tlm tfu ttb trb tgr tK tV wcp wkd wsd wlm wfu wtb wrb wgr wK wV hnw hct hp pl pS ln lS mch msv mls mty mea mfa mA mL mI := by
  have h0 := h
  obtain ⟨c, kd, sd, lm, fu, tb, ⟨rfl, rfl, rfl, rfl, rfl, rfl⟩, hI, hR, g6, g7⟩ := h.1
  have h64 := hI.cok.le
  have hft := hI.ft
  by_cases hfu : 0 < fu
  · obtain ⟨S, mex', mfr', s1, s2, q1, q2⟩ := b_sum hI hR hfu 1000 0 0 mex mfr (by omega) (by omega) (Nat.zero_le _) (by omega)
    obtain ⟨-, z1, z2⟩ := fn_all (S := S) (F := fu) (by omega) s1 s2
    generalize FP.ddiv (FP.i2d (II S)) (FP.i2d (II fu)) = d at q1 q2 z1 z2
    have e6 : fX6_meanProbesBits (II c) (II kd) (II sd) (II fu) tK = some (Sum.inl d.toInt64) := by
      unfold fX6_meanProbesBits fX5_meanSearchLength
      rw [if_pos (show (0 : Int32) < II fu from (n_lt (a := 0) (by decide) (by omega)).mpr hfu)]
      rw [show fX5_meanSearchLength_4 1000 (II c) (II kd) (II sd) (II fu) tK (0 : Int32) (0 : Int32) = _ from q1, ob, z1, ob]
    have e7 : fX7_meanProbesBits mth mex mfr mA = some (d.toInt64, 0, mex', mfr') := by
      unfold fX7_meanProbesBits fX7_meanProbesBits_15 fX7_mean fJxe99ae_doubleToLongBits_ccdee
      rw [hR.c1, if_neg (fun e2 : II fu ≤ (0 : Int32) => by have := (n_le (b := 0) (by omega) (by decide)).mp e2; omega), fine1, ob]
      refine (if_neg (show ¬ (1 : Int32) = 0 by decide)).trans ?_
      rw [show fX7_mean_4 1000 mex mfr mA (0 : Int32) (0 : Int32) = _ from q2, ob]
      show (((fJxe99ae_isNaN_b9ae7 d).bind _).bind _) = _
      rw [z2, ob, if_pos rfl, ob]
    exact ⟨_, _, e6, e7, fun k1 e => (no_lr e).elim, rfl, fun v e => eq_l e, h0⟩
  · have e6 : fX6_meanProbesBits (II c) (II kd) (II sd) (II fu) tK = some (Sum.inr 5) := by
      unfold fX6_meanProbesBits
      rw [if_neg (fun e2 : (0 : Int32) < II fu => hfu ((n_lt (a := 0) (by decide) (by omega)).mp e2))]
    have e7 : fX7_meanProbesBits mth mex mfr mA = some (0, 1, mex, mfr) := by
      unfold fX7_meanProbesBits fX7_meanProbesBits_15
      rw [hR.c1, if_pos (show II fu ≤ (0 : Int32) from (n_le (b := 0) (by omega) (by decide)).mpr (by omega)), fine0, ob]
      exact if_pos rfl
    exact ⟨_, _, e6, e7, fun k1 e => eq_r e, rfl, fun v e => (no_rl e).elim, h0⟩
set_option maxHeartbeats 2000000 in
theorem k_load {isv : Int32} {rpo : Int32} {rco : Int32} {tcp : Int32} {tkd : Int32} {tsd : Int32} {tlm : Int32} {tfu : Int32} {ttb : Int32} {trb : Int32} {tgr : Int32} {tK : Nat → Int32} {tV : Nat → Int32} {wcp : Int32} {wkd : Int32} {wsd : Int32} {wlm : Int32} {wfu : Int32} {wtb : Int32} {wrb : Int32} {wgr : Int32} {wK : Nat → Int32} {wV : Nat → Int32} {hnw : Int32} {hct : Int32} {hp : Nat → hTT} {pl : Int32} {pS : Nat → Int32} {ln : Int32} {lS : Nat → Int32} {mch : Int32} {msv : Int32} {mls : Int32} {mty : Int32} {mea : Int32} {mfa : Int32} {mA : Nat → Int32} {mL : Nat → Int32} {mI : Nat → Int32} {mth : Int32} (h : Rel isv rpo rco tcp tkd tsd tlm tfu ttb trb tgr tK tV wcp wkd wsd wlm wfu wtb wrb wgr wK wV hnw hct hp pl pS ln lS mch msv mls mty mea mfa mA mL mI) : ∃ out out2, fX6_load tcp tfu = some out ∧ fX7_load mth mA = some out2 ∧ out = out2.1 ∧ Rel isv rpo rco tcp tkd tsd tlm tfu ttb trb tgr tK tV wcp wkd wsd wlm wfu wtb wrb wgr wK wV hnw hct hp pl pS ln lS mch msv mls mty mea mfa mA mL mI := by
  have h0 := h
  obtain ⟨c, kd, sd, lm, fu, tb, ⟨rfl, rfl, rfl, rfl, rfl, rfl⟩, hI, hR, g6, g7⟩ := h.1
  have hb := (fl_all (c := c) (f := fu) hI.cok (by have := hI.ft; omega))
  have es : fX5_share (II c) (II fu) = some (FP.fdiv (FP.i2f (II fu)) (FP.i2f (II c))) := by
    unfold fX5_share
    rw [if_neg (fun e2 : II c ≤ (0 : Int32) => by have := (n_le (b := 0) hI.cok.lt (by decide)).mp e2; have := hI.cok.ge; omega), if_pos hb.1]
  have e6 : fX6_load (II c) (II fu) = some (FP.fdiv (FP.i2f (II fu)) (FP.i2f (II c))) := by
    unfold fX6_load
    rw [es, ob]
  have e7 : fX7_load mth mA = some (FP.fdiv (FP.i2f (II fu)) (FP.i2f (II c)), 0) := by
    unfold fX7_load
    rw [hR.c0, hR.c1, if_pos hb.1]
  exact ⟨_, _, e6, e7, rfl, h0⟩
set_option maxHeartbeats 2000000 in
theorem k_loadBits {isv : Int32} {rpo : Int32} {rco : Int32} {tcp : Int32} {tkd : Int32} {tsd : Int32} {tlm : Int32} {tfu : Int32} {ttb : Int32} {trb : Int32} {tgr : Int32} {tK : Nat → Int32} {tV : Nat → Int32} {wcp : Int32} {wkd : Int32} {wsd : Int32} {wlm : Int32} {wfu : Int32} {wtb : Int32} {wrb : Int32} {wgr : Int32} {wK : Nat → Int32} {wV : Nat → Int32} {hnw : Int32} {hct : Int32} {hp : Nat → hTT} {pl : Int32} {pS : Nat → Int32} {ln : Int32} {lS : Nat → Int32} {mch : Int32} {msv : Int32} {mls : Int32} {mty : Int32} {mea : Int32} {mfa : Int32} {mA : Nat → Int32} {mL : Nat → Int32} {mI : Nat → Int32} {mth : Int32} (h : Rel isv rpo rco tcp tkd tsd tlm tfu ttb trb tgr tK tV wcp wkd wsd wlm wfu wtb wrb wgr wK wV hnw hct hp pl pS ln lS mch msv mls mty mea mfa mA mL mI) : ∃ out out2, fX6_loadBits tcp tfu = some out ∧ fX7_loadBits mth mA = some out2 ∧ out = out2.1 ∧ Rel isv rpo rco tcp tkd tsd tlm tfu ttb trb tgr tK tV wcp wkd wsd wlm wfu wtb wrb wgr wK wV hnw hct hp pl pS ln lS mch msv mls mty mea mfa mA mL mI := by
  have h0 := h
  obtain ⟨c, kd, sd, lm, fu, tb, ⟨rfl, rfl, rfl, rfl, rfl, rfl⟩, hI, hR, g6, g7⟩ := h.1
  have hb := (fl_all (c := c) (f := fu) hI.cok (by have := hI.ft; omega))
  have es : fX5_share (II c) (II fu) = some (FP.fdiv (FP.i2f (II fu)) (FP.i2f (II c))) := by
    unfold fX5_share
    rw [if_neg (fun e2 : II c ≤ (0 : Int32) => by have := (n_le (b := 0) hI.cok.lt (by decide)).mp e2; have := hI.cok.ge; omega), if_pos hb.1]
  obtain ⟨b1, b2, b3⟩ := hb
  cases e9 : fJxf58ca_floatToIntBits_5c35a (FP.fdiv (FP.i2f (II fu)) (FP.i2f (II c))) with
  | none => exact absurd e9 b3
  | some r =>
    rw [e9] at b2
    have e6 : fX6_loadBits (II c) (II fu) = some r := by
      unfold fX6_loadBits
      rw [es, ob, b2, ob]
    have e7 : fX7_loadBits mth mA = some (r, 0) := by
      unfold fX7_loadBits
      rw [hR.c0, hR.c1, if_pos b1, e9, ob]
    exact ⟨_, _, e6, e7, rfl, h0⟩
