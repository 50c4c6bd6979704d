/-! calls of both: isConsistent -/
/-! the invariants hold -/
theorem bit1 : ∀ s, s < 64 → ((1 : Int64) <<< ((II s).toInt64 &&& 63)).toBitVec = 1#64 <<< s := by decide +kernel
theorem bit2 : ∀ s, s < 64 → ∀ b, b < 64 → (1#64 <<< s).getLsbD b = decide (b = s) := by decide +kernel
theorem bit3 : ∀ b, b < 64 → ((BitVec.ofNat 64 (2 ^ 8 - 1)).getLsbD b = decide (b < 8) ∧ (BitVec.ofNat 64 (2 ^ 16 - 1)).getLsbD b = decide (b < 16) ∧ (BitVec.ofNat 64 (2 ^ 32 - 1)).getLsbD b = decide (b < 32) ∧ (BitVec.ofNat 64 (2 ^ 64 - 1)).getLsbD b = decide (b < 64)) := by decide +kernel
theorem bit4 {c : Nat} (hc : cOK c) {b : Nat} (hb : b < 64) : (BitVec.ofNat 64 (2 ^ c - 1)).getLsbD b = decide (b < c) := by
  have h := bit3 b hb
  rcases hc with rfl | rfl | rfl | rfl
  · exact h.1
  · exact h.2.1
  · exact h.2.2.1
  · exact h.2.2.2
theorem bit5 {c : Nat} (hc : cOK c) : fJ13_bitCount_95d88 (Int64.ofBitVec (BitVec.ofNat 64 (2 ^ c - 1))) = some (II c) := by
  rcases hc with rfl | rfl | rfl | rfl
  · decide +kernel
  · decide +kernel
  · decide +kernel
  · decide +kernel
theorem c_visit_5 {c kd sd k : Nat} (hc : cOK c) (hkd : kd ≤ 2) (hsd : sd ≤ 999) (hk : k ≤ 9999) : ∀ n i (v : Int64), i ≤ c → c - i < n → (∀ b, b < 64 → (v.toBitVec.getLsbD b = true ↔ ∃ j, j < i ∧ sq c kd sd k j = b)) → fX5_numberVisited_5 n (II c) (II kd) (II sd) (II k) v (II i) = some (II c)
  | 0, i, _, _, hn, _ => by omega
  | n + 1, i, v, hi, hn, hv => by
    have h64 := hc.le
    unfold fX5_numberVisited_5
    by_cases e : c ≤ i
    · have : i = c := by omega
      subst this
      have ev : v = Int64.ofBitVec (BitVec.ofNat 64 (2 ^ i - 1)) := by
        refine Int64.toBitVec_inj.mp (BitVec.eq_of_getLsbD_eq (fun b hb => ?_))
        have h1 := hv b hb
        have h2 := bit4 hc hb
        show v.toBitVec.getLsbD b = (BitVec.ofNat 64 (2 ^ i - 1)).getLsbD b
        rw [h2]
        by_cases hbi : b < i
        · rw [decide_eq_true hbi]
          obtain ⟨j, hj, h3⟩ := sq_sur (kd := kd) (sd := sd) (k := k) hc hbi
          exact h1.mpr ⟨j, hj, h3⟩
        · rw [decide_eq_false hbi]
          refine Bool.eq_false_iff.mpr (fun h3 => ?_)
          obtain ⟨j, hj, h4⟩ := h1.mp h3
          have := sq_lt (kd := kd) (sd := sd) (k := k) (i := j) hc
          omega
      rw [if_pos ((n_le hc.lt hc.lt).mpr e), ev, bit5 hc, ob]
    · rw [if_neg (fun e3 => e ((n_le hc.lt (by omega)).mp e3)), c_slotIn hc hkd hsd hk (by omega), ob, show II i + (1 : Int32) = II (i + 1) from n_add i 1]
      refine c_visit_5 hc hkd hsd hk n (i + 1) _ (by omega) (by omega) (fun b hb => ?_)
      rw [Int64.toBitVec_or, BitVec.getLsbD_or, bit1 _ (sq_64 hc), bit2 _ (sq_64 hc) b hb, Bool.or_eq_true, hv b hb]
      constructor
      · rintro (⟨j, hj, h1⟩ | h1)
        · exact ⟨j, by omega, h1⟩
        · exact ⟨i, by omega, (of_decide_eq_true h1).symm⟩
      · rintro ⟨j, hj, h1⟩
        by_cases e2 : j = i
        · exact Or.inr (decide_eq_true (by rw [← h1, e2]))
        · exact Or.inl ⟨j, by omega, h1⟩
theorem c_visit {c kd sd k : Nat} (hc : cOK c) (hkd : kd ≤ 2) (hsd : sd ≤ 999) (hk : k ≤ 9999) : fX5_numberVisited (II c) (II kd) (II sd) (II k) = some (II c) :=
  c_visit_5 hc hkd hsd hk 1000 0 0 (by omega) (by have := hc.le; omega) (fun b hb => ⟨fun h => by
    rw [show (0 : Int64).toBitVec = 0#64 from rfl, BitVec.getLsbD_zero] at h
    exact Bool.noConfusion h, fun ⟨j, hj, _⟩ => absurd hj (Nat.not_lt_zero _)⟩)
theorem c_agree_2 {c kd sd lm fu tb : Nat} {K V : Nat → Int32} (hI : Inv c kd sd lm fu tb K V) : ∀ n i, i ≤ c → c - i < n → fX5_bothCountsAgree_2 n (II c) (II kd) (II sd) K (II i) = some 1
  | 0, i, _, hn => by omega
  | n + 1, i, hi, hn => by
    have hc := hI.cok
    have h64 := hc.le
    unfold fX5_bothCountsAgree_2 fX5_bothCountsAgree_40
    by_cases e : c ≤ i
    · rw [if_pos ((n_le hc.lt (by omega)).mpr e)]
    · have ih := c_agree_2 hI n (i + 1) (by omega) (by omega)
      rw [if_neg (fun e3 => e ((n_le hc.lt (by omega)).mp e3)), c_content (by omega), ob, c_isFull (by omega), ob, show II i + (1 : Int32) = II (i + 1) from n_add i 1]
      by_cases hf : K i < 0
      · rw [if_pos hf, if_pos rfl]; exact ih
      · obtain ⟨k, hk, ek⟩ := hI.kt.pos (s := i) (by omega) (i_nlt.mp hf)
        have hsi := hs_of hI (s := i) (by omega) hk ek
        have hfl := fs_lt (kd := kd) (sd := sd) (k := k) hc hI.emp
        have hd := c_dist (kd := kd) (sd := sd) (k := k) (f := fs c kd sd K k) hc hI.kd2 hI.sd9 hk hfl
        rw [show sq c kd sd k (fs c kd sd K k) = i from hsi] at hd
        rw [if_neg hf, if_neg i1n0, ek, c_search hc hI.kd2 hI.sd9 hk hI.emp, ob, hd, ob, if_pos rfl]
        exact ih
theorem c_seqs_2 {c kd sd lm fu tb : Nat} {K V : Nat → Int32} (hI : Inv c kd sd lm fu tb K V) : ∀ n i, i ≤ c → c - i < n → fX5_sequencesVisitAllSlots_2 n (II c) (II kd) (II sd) K (II i) = some 1
  | 0, i, _, hn => by omega
  | n + 1, i, hi, hn => by
    have hc := hI.cok
    have h64 := hc.le
    unfold fX5_sequencesVisitAllSlots_2 fX5_sequencesVisitAllSlots_36
    by_cases e : c ≤ i
    · rw [if_pos ((n_le hc.lt (by omega)).mpr e)]
    · have ih := c_seqs_2 hI n (i + 1) (by omega) (by omega)
      rw [if_neg (fun e3 => e ((n_le hc.lt (by omega)).mp e3)), c_isFull (by omega), ob, show II i + (1 : Int32) = II (i + 1) from n_add i 1]
      by_cases hf : K i < 0
      · rw [if_pos hf, if_pos rfl]; exact ih
      · obtain ⟨k, hk, ek⟩ := hI.kt.pos (s := i) (by omega) (i_nlt.mp hf)
        rw [if_neg hf, if_neg i1n0, c_content (by omega), ob, ek, c_visit hc hI.kd2 hI.sd9 hk, ob, if_pos rfl]
        exact ih
theorem c_keeps_2 {c kd kd' sd lm fu tb tb' : Nat} {K V K' V' : Nat → Int32} (hI : Inv c kd sd lm fu tb K V) (hI' : Inv c kd' sd lm fu tb' K' V') (hk : ∀ t, t < 64 → 0 ≤ K t → ∃ s, s < 64 ∧ K' s = K t) : ∀ n i, i ≤ c → c - i < n → fX5_hasKeysOf_2 n (II c) (II kd') (II sd) (II fu) K' (II c) (II fu) K (II i) = some 1
  | 0, i, _, hn => by omega
  | n + 1, i, hi, hn => by
    have hc := hI.cok
    have h64 := hc.le
    unfold fX5_hasKeysOf_2 fX5_hasKeysOf_33
    by_cases e : c ≤ i
    · rw [if_pos ((n_le hc.lt (by omega)).mpr e), if_pos rfl]
    · have ih := c_keeps_2 hI hI' hk n (i + 1) (by omega) (by omega)
      rw [if_neg (fun e3 => e ((n_le hc.lt (by omega)).mp e3)), c_isFull (by omega), ob, show II i + (1 : Int32) = II (i + 1) from n_add i 1]
      by_cases hf : K i < 0
      · rw [if_pos hf, if_pos rfl]; exact ih
      · obtain ⟨k, hk9, ek⟩ := hI.kt.pos (s := i) (by omega) (i_nlt.mp hf)
        obtain ⟨s, hs1, hs2⟩ := hk i (by omega) (i_nlt.mp hf)
        have hs3 := hs_of hI' hs1 hk9 (hs2.trans ek)
        rw [if_neg hf, if_neg i1n0, c_content (by omega), ob, ek, c_hold hI'.cok hI'.kd2 hI'.sd9 hk9 hI'.emp, ob, hs3, if_pos (hs2.trans ek), if_neg (n_ne1 (by omega))]
        exact ih
theorem c_every_2 {c kd sd lm fu tb : Nat} {K V : Nat → Int32} (hI : Inv c kd sd lm fu tb K V) (rb gr : Int32) : ∀ n k (ecp ekd esd elm efu etb erb egr : Int32) (eK eV eO eW : Nat → Int32), k ≤ 3 → 3 - k < n → ∃ o', fX6_everyKindKeepsTheKeys_2 n (II c) (II kd) (II sd) (II lm) (II fu) (II tb) rb gr K V ecp ekd esd elm efu etb erb egr eK eV eO eW (II k) = some (1, o')
  | 0, k, _, _, _, _, _, _, _, _, _, _, _, _, _, hn => by omega
  | n + 1, k, ecp, ekd, esd, elm, efu, etb, erb, egr, eK, eV, eO, eW, hk, hn => by
    unfold fX6_everyKindKeepsTheKeys_2
    by_cases e : 3 ≤ k
    · have : k = 3 := by omega
      subst this
      rw [if_pos (by decide)]
      exact ⟨_, rfl⟩
    · have n1 : ¬ (3 : Int32) ≤ II k := fun e3 => e ((n_le (a := 3) (by decide) (by omega)).mp e3)
      have hI2 : Inv c kd sd lm fu tb (va_cpy K eK 0 0 64) (va_cpy V eV 0 0 64) := hI.cong (fun s hs => cpy_at hs) (fun s hs => cpy_at hs)
      obtain ⟨K', V', q1, q2, q3, -, -⟩ := b_rebuild (c' := c) (kd := k) (sd := sd) (O := eO) (W := eW) hI2 hI.cok (by omega) hI.sd9 (by have := hI.ft; omega) rb gr
      have hkeep : ∀ t, t < 64 → 0 ≤ K t → ∃ s, s < 64 ∧ K' s = K t := fun t ht h0 => by
        obtain ⟨s, hs, h1⟩ := q3 t ht (by rw [cpy_at ht]; exact h0)
        exact ⟨s, hs, by rw [h1, cpy_at ht]⟩
      have hh := c_keeps_2 hI q2 hkeep 1000 0 (by omega) (by have := hI.cok.le; omega)
      rw [if_neg n1, c_copyFrom, ob]
      unfold fX5_changeKind
      show ∃ o', (((fX5_rebuildWith (II c) (II k) (II sd) (II fu) (II tb) rb gr (va_cpy K eK 0 0 64) (va_cpy V eV 0 0 64) eO eW (II c)).bind _).bind _) = _
      rw [q1, ob, ob]
      unfold fX5_hasKeysOf
      rw [show fX5_hasKeysOf_2 1000 (II c) (II k) (II sd) (II fu) K' (II c) (II fu) K (0 : Int32) = some 1 from hh, ob, if_neg i1n0, show II k + (1 : Int32) = II (k + 1) from n_add k 1]
      exact c_every_2 hI rb gr n (k + 1) _ _ _ _ _ _ _ _ _ _ _ _ (by omega) (by omega)
set_option maxHeartbeats 2000000 in
theorem k_isConsistent {isv : Int32} {rpo : Int32} {rco : Int32} {tcp : Int32} {tkd : Int32} {tsd : Int32} {tlm : Int32} {tfu : Int32} {ttb : Int32} {trb : Int32} {tgr : Int32} {tK : Nat → Int32} {tV : Nat → Int32} {wcp : Int32} {wkd : Int32} {wsd : Int32} {wlm : Int32} {wfu : Int32} {wtb : Int32} {wrb : Int32} {wgr : Int32} {wK : Nat → Int32} {wV : Nat → Int32} {hnw : Int32} {hct : Int32} {hp : Nat → hTT} {pl : Int32} {pS : Nat → Int32} {ln : Int32} {lS : Nat → Int32} {mch : Int32} {msv : Int32} {mls : Int32} {mty : Int32} {mea : Int32} {mfa : Int32} {mA : Nat → Int32} {mL : Nat → Int32} {mI : Nat → Int32} {ecp : Int32} {ekd : Int32} {esd : Int32} {elm : Int32} {efu : Int32} {etb : Int32} {erb : Int32} {egr : Int32} {eK : Nat → Int32} {eV : Nat → Int32} {eO : Nat → Int32} {eW : Nat → Int32} {mth : Int32} (h : Rel isv rpo rco tcp tkd tsd tlm tfu ttb trb tgr tK tV wcp wkd wsd wlm wfu wtb wrb wgr wK wV hnw hct hp pl pS ln lS mch msv mls mty mea mfa mA mL mI) : ∃ out out2, fX6_isConsistent tcp tkd tsd tlm tfu ttb trb tgr tK tV ecp ekd esd elm efu etb erb egr eK eV eO eW = some out ∧ fX7_isConsistent mth = some out2 ∧ out.1 = out2.1 ∧ Rel isv rpo rco tcp tkd tsd tlm tfu ttb trb tgr tK tV wcp wkd wsd wlm wfu wtb wrb wgr wK wV hnw hct hp pl pS ln lS mch msv mls mty mea mfa mA mL mI := by
  have h0 := h
  obtain ⟨c, kd, sd, lm, fu, tb, ⟨rfl, rfl, rfl, rfl, rfl, rfl⟩, hI, hR, g6, g7⟩ := h.1
  have h64 := hI.cok.le
  have z1 := c_agree_2 hI 1000 0 (by omega) (by omega)
  have z2 := c_seqs_2 hI 1000 0 (by omega) (by omega)
  obtain ⟨r, q1, q2⟩ := c_around (K := tK) hI.cok hI.wE
  obtain ⟨r', q3, q4⟩ := c_halves (K := tK) hI.cok hI.wE
  cases w_max1 q2 q4
  obtain ⟨o', z3⟩ := c_every_2 hI trb tgr 1000 0 ecp ekd esd elm efu etb erb egr eK eV eO eW (by omega) (by omega)
  have e6 : fX6_isConsistent (II c) (II kd) (II sd) (II lm) (II fu) (II tb) trb tgr tK tV ecp ekd esd elm efu etb erb egr eK eV eO eW = some (1, o'.1, o'.2.1, o'.2.2.1, o'.2.2.2.1, o'.2.2.2.2.1, o'.2.2.2.2.2.1, o'.2.2.2.2.2.2.1, o'.2.2.2.2.2.2.2.1, o'.2.2.2.2.2.2.2.2.1, o'.2.2.2.2.2.2.2.2.2.1, o'.2.2.2.2.2.2.2.2.2.2.1, o'.2.2.2.2.2.2.2.2.2.2.2) := by
    unfold fX6_isConsistent fX5_bothCountsAgree fX5_sequencesVisitAllSlots fX6_everyKindKeepsTheKeys
    rw [show fX5_bothCountsAgree_2 1000 (II c) (II kd) (II sd) tK (0 : Int32) = some 1 from z1, ob, if_neg i1n0, q1, ob, q3, ob, if_pos rfl, show fX5_sequencesVisitAllSlots_2 1000 (II c) (II kd) (II sd) tK (0 : Int32) = some 1 from z2, ob, if_neg i1n0]
    rw [show fX6_everyKindKeepsTheKeys_2 1000 (II c) (II kd) (II sd) (II lm) (II fu) (II tb) trb tgr tK tV ecp ekd esd elm efu etb erb egr eK eV eO eW (0 : Int32) = some (1, o') from z3, ob]
    exact if_neg (show ¬ (1 : Int32) = 0 by decide)
  exact ⟨_, _, e6, rfl, rfl, h0⟩
