/-! calls of both: writeSlots writeKeys -/
/-! the output line -/
def LN (n : Nat) (lS mL : Nat → Int32) : Prop := ∀ i, i < n → mL i = lS i ∧ hl_nar .char (lS i) = true
theorem LN.step {n : Nat} {lS mL : Nat → Int32} {x y : Int32} (h : LN n lS mL) (e : vp_nar .char x = vp_nar .char y) : LN (n + 1) (upd lS n (vp_nar .char x)) (upd mL n (vp_nar .char y)) := fun i hi => by
  by_cases e1 : i = n
  · subst e1
    rw [upd_at, upd_at]
    exact ⟨e.symm, nar_nar x⟩
  · rw [upd_ne e1, upd_ne e1]
    exact h i (by omega)
theorem c_add {n : Nat} (hn : n < 640) (lS : Nat → Int32) (x : Int32) : fX3_add (II n) lS x = some (II (n + 1), upd lS n (vp_nar .char x)) := by
  unfold fX3_add
  rw [if_neg (n_nlt0 (by omega)), if_neg (fun e : (640 : Int32) ≤ II n => by have := (n_le (a := 640) (by decide) (by omega)).mp e; omega), if_pos (n_in (by omega) hn), n_cl (by omega), show II n + (1 : Int32) = II (n + 1) from n_add n 1]
theorem r_writes {n : Nat} (hn : n < 720) (mL : Nat → Int32) (x : Int32) : fX7_writes (II n) mL x = some (II (n + 1), upd mL n (vp_nar .char (hl_c x))) := by
  unfold fX7_writes
  rw [if_pos (n_in (by omega) hn), n_cl (by omega), show II n + (1 : Int32) = II (n + 1) from n_add n 1]
theorem nar_dig : ∀ d, d < 10 → vp_nar .char (hl_c ((48 : Int32) + II d)) = vp_nar .char (hl_c ((48 : Int32) + II d)) ∧ hl_nar .char (hl_c ((48 : Int32) + II d)) = true ∧ vp_nar .char (hl_c (hl_c ((48 : Int32) + II d))) = vp_nar .char (hl_c ((48 : Int32) + II d)) := by decide +kernel
theorem c_dig {n a u : Nat} (hn : n < 640) (lS : Nat → Int32) (ha : a ≤ 9999) (hu : 1 ≤ u) (hu2 : u ≤ 1000) (rec19 : Int32 → (Nat → Int32) → Int32 → Int32 → Option (Int32 × (Nat → Int32))) : fX3_addNumber_33 rec19 (II n) lS (II a) (II u) = rec19 (II (n + 1)) (upd lS n (vp_nar .char (hl_c ((48 : Int32) + II (a / u % 10))))) (II a) (II (u / 10)) := by
  unfold fX3_addNumber_33 fX3_addNumber_47
  rw [if_neg (fun e : II u = (0 : Int32) => by have := (n_eq (b := 0) (by omega) (by decide)).mp e; omega), n_div (by omega) (by omega), show hl_rem (II (a / u)) (10 : Int32) = II (a / u % 10) from n_rem (b := 10) (by have := Nat.div_le_self a u; omega) (by decide), c_add hn, ob, show II u / (10 : Int32) = II (u / 10) from n_div (b := 10) (by omega) (by decide)]
theorem c_add19 {f : Nat} {n a u : Nat} (lS : Nat → Int32) (ha : a ≤ 9999) (hu : 1 ≤ u) (hu2 : u ≤ 1000) : fX3_addNumber_19 (f + 1) (II n) lS (II a) (II u) = if u ≤ a ∨ u = 1 then fX3_addNumber_33 (fX3_addNumber_19 f) (II n) lS (II a) (II u) else fX3_addNumber_19 f (II n) lS (II a) (II (u / 10)) := by
  rw [fX3_addNumber_19]
  rw [if_neg (fun e : II u ≤ (0 : Int32) => by have := (n_le (b := 0) (by omega) (by decide)).mp e; omega)]
  by_cases h1 : u ≤ a
  · rw [if_pos ((n_le (by omega) (by omega)).mpr h1), if_pos (Or.inl h1)]
  · rw [if_neg (fun e => h1 ((n_le (by omega) (by omega)).mp e))]
    by_cases h2 : u = 1
    · rw [if_pos (show II u = (1 : Int32) from by rw [h2]; rfl), if_pos (Or.inr h2)]
    · rw [if_neg (fun e : II u = (1 : Int32) => h2 ((n_eq (b := 1) (by omega) (by decide)).mp e)), if_neg (by omega)]
      unfold fX3_addNumber_47
      rw [show II u / (10 : Int32) = II (u / 10) from n_div (b := 10) (by omega) (by decide)]
theorem c_add0 {f : Nat} (x : Int32) (lS : Nat → Int32) (a : Int32) : fX3_addNumber_19 (f + 1) x lS a (II 0) = some (x, lS) := by
  unfold fX3_addNumber_19
  rw [if_pos (by decide)]
theorem r_num {f n a : Nat} (ha : a ≤ 9999) (mL : Nat → Int32) : fX7_writesNumber (f + 1) (II n) mL (II a) = if a ≤ 9 then fX7_writes (II n) mL ((48 : Int32) + II (a % 10)) else (fX7_writesNumber f (II n) mL (II (a / 10))).bind fun r3 => fX7_writes r3.1 r3.2 ((48 : Int32) + II (a % 10)) := by
  have hb : ∀ (o : Option (Int32 × (Nat → Int32))), (o.bind fun r => some (r.1, r.2)) = o := fun o => by cases o <;> rfl
  have hr : hl_rem (II a) (10 : Int32) = II (a % 10) := n_rem (b := 10) (by omega) (by decide)
  rw [fX7_writesNumber]
  rw [hr, show II a / (10 : Int32) = II (a / 10) from n_div (b := 10) (by omega) (by decide)]
  by_cases h : a ≤ 9
  · rw [if_pos (show II a ≤ (9 : Int32) from (n_le (b := 9) (by omega) (by decide)).mpr h), if_pos h, hb]
  · rw [if_neg (fun e : II a ≤ (9 : Int32) => h ((n_le (b := 9) (by omega) (by decide)).mp e)), if_neg h]
    exact congrArg _ (funext fun r3 => hb _)
theorem b_num {n a : Nat} {lS mL : Nat → Int32} (h : LN n lS mL) (hn : n + 4 ≤ 640) (ha : a ≤ 9999) :
    ∃ k lS' mL', (k ≤ 4 ∧ (a ≤ 999 → k ≤ 3)) ∧ fX3_addNumber_10 (II n) lS (II a) = some (II (n + k), lS') ∧ fX7_writesNumber 12 (II n) mL (II a) = some (II (n + k), mL') ∧ LN (n + k) lS' mL' := by
  have e1000 : fX3_addNumber_10 (II n) lS (II a) = fX3_addNumber_19 1000 (II n) lS (II a) (II 1000) := by
    unfold fX3_addNumber_10
    rw [if_pos (n_0le (by omega))]
    rfl
  have dg := fun d (hd : d < 10) => (nar_dig d hd).1
  rw [e1000]
  by_cases h1 : a ≤ 9
  · rw [c_add19 lS ha (by omega) (by omega), if_neg (by omega), c_add19 lS ha (by omega) (by omega), if_neg (by omega), c_add19 lS ha (by omega) (by omega), if_neg (by omega), c_add19 lS ha (by omega) (by omega), if_pos (by omega), c_dig (by omega) lS ha (by omega) (by omega), c_add0,
      r_num ha, if_pos h1, r_writes (by omega), show a / (1000 / 10 / 10 / 10) % 10 = a % 10 from by omega]
    exact ⟨1, _, _, ⟨by omega, fun _ => by omega⟩, rfl, rfl, h.step rfl⟩
  · by_cases h2 : a ≤ 99
    · rw [c_add19 lS ha (by omega) (by omega), if_neg (by omega), c_add19 lS ha (by omega) (by omega), if_neg (by omega), c_add19 lS ha (by omega) (by omega), if_pos (by omega), c_dig (by omega) lS ha (by omega) (by omega), c_add19 _ ha (by omega) (by omega), if_pos (by omega), c_dig (by omega) _ ha (by omega) (by omega), c_add0,
        r_num ha, if_neg h1, r_num (by omega), if_pos (by omega), r_writes (by omega), ob, r_writes (by omega), show a / (1000 / 10 / 10) % 10 = a / 10 % 10 from by omega, show a / (1000 / 10 / 10 / 10) % 10 = a % 10 from by omega]
      exact ⟨2, _, _, ⟨by omega, fun _ => by omega⟩, rfl, rfl, (h.step rfl).step rfl⟩
    · by_cases h3 : a ≤ 999
      · rw [c_add19 lS ha (by omega) (by omega), if_neg (by omega), c_add19 lS ha (by omega) (by omega), if_pos (by omega), c_dig (by omega) lS ha (by omega) (by omega), c_add19 _ ha (by omega) (by omega), if_pos (by omega), c_dig (by omega) _ ha (by omega) (by omega), c_add19 _ ha (by omega) (by omega), if_pos (by omega), c_dig (by omega) _ ha (by omega) (by omega), c_add0,
          r_num ha, if_neg h1, r_num (by omega), if_neg (by omega), r_num (by omega), if_pos (by omega), r_writes (by omega), ob, r_writes (by omega), ob, r_writes (by omega), show a / (1000 / 10) % 10 = a / 10 / 10 % 10 from by omega, show a / (1000 / 10 / 10) % 10 = a / 10 % 10 from by omega, show a / (1000 / 10 / 10 / 10) % 10 = a % 10 from by omega]
        exact ⟨3, _, _, ⟨by omega, fun _ => by omega⟩, rfl, rfl, ((h.step rfl).step rfl).step rfl⟩
      · rw [c_add19 lS ha (by omega) (by omega), if_pos (by omega), c_dig (by omega) lS ha (by omega) (by omega), c_add19 _ ha (by omega) (by omega), if_pos (by omega), c_dig (by omega) _ ha (by omega) (by omega), c_add19 _ ha (by omega) (by omega), if_pos (by omega), c_dig (by omega) _ ha (by omega) (by omega), c_add19 _ ha (by omega) (by omega), if_pos (by omega), c_dig (by omega) _ ha (by omega) (by omega), c_add0,
          r_num ha, if_neg h1, r_num (by omega), if_neg (by omega), r_num (by omega), if_neg (by omega), r_num (by omega), if_pos (by omega), r_writes (by omega), ob, r_writes (by omega), ob, r_writes (by omega), ob, r_writes (by omega), show a / 1000 % 10 = a / 10 / 10 / 10 % 10 from by omega, show a / (1000 / 10) % 10 = a / 10 / 10 % 10 from by omega, show a / (1000 / 10 / 10) % 10 = a / 10 % 10 from by omega, show a / (1000 / 10 / 10 / 10) % 10 = a % 10 from by omega]
        exact ⟨4, _, _, ⟨by omega, fun _ => by omega⟩, rfl, rfl, (((h.step rfl).step rfl).step rfl).step rfl⟩
theorem i_negOf {v : Int32} (h : v < 0) (h2 : (-999 : Int32) ≤ v) : ∃ a, a ≤ 999 ∧ v = -(II a) := by
  rw [fa_lt, show (0 : Int32).toInt = 0 from by decide] at h
  rw [fa_le, show (-999 : Int32).toInt = -999 from by decide] at h2
  refine ⟨(-v.toInt).toNat, by omega, ?_⟩
  rw [show II (-v.toInt).toNat = Int32.ofNat (-v.toInt).toNat from rfl, Int32.neg_ofNat, show -(((-v.toInt).toNat : Nat) : Int) = v.toInt from by omega, Int32.ofInt_toInt]
theorem n_45 : vp_nar .char (45 : Int32) = vp_nar .char (hl_c (45 : Int32)) ∧ vp_nar .char (61 : Int32) = vp_nar .char (hl_c (61 : Int32)) ∧ vp_nar .char (44 : Int32) = vp_nar .char (hl_c (44 : Int32)) ∧ vp_nar .char (46 : Int32) = vp_nar .char (hl_c (46 : Int32)) ∧ vp_nar .char (120 : Int32) = vp_nar .char (hl_c (120 : Int32)) ∧ vp_nar .char (43 : Int32) = vp_nar .char (hl_c (43 : Int32)) := by decide +kernel
/-- a value, written by both -/
theorem b_val {n : Nat} {lS mL : Nat → Int32} {v : Int32} (h : LN n lS mL) (hn : n + 5 ≤ 640) (h1 : (-999 : Int32) ≤ v) (h2 : v ≤ (999 : Int32)) (rec12 : Int32 → Int32 → (Nat → Int32) → (Nat → Int32) → Int32 → Option (Int32 × Int32 × Int32 × (Nat → Int32))) (mth : Int32) (mA : Nat → Int32) (j : Nat) :
    ∃ k lS' mL', k ≤ 4 ∧ fX3_addNumber (II n) lS v = some (II (n + k), lS') ∧
      (if 0 ≤ v then (if 0 ≤ v then (fX7_writeKeys_82 rec12 mth (II n) mA mL (II j) v) else (fX7_writeKeys_82 rec12 mth (II n) mA mL (II j) (-v))) else ((fX7_writes (II n) mL (45 : Int32)).bind fun r11 => (if 0 ≤ v then (fX7_writeKeys_82 rec12 mth r11.1 mA r11.2 (II j) v) else (fX7_writeKeys_82 rec12 mth r11.1 mA r11.2 (II j) (-v))))) = rec12 mth (II (n + k)) mA mL' (II (j + 1)) ∧ LN (n + k) lS' mL' := by
  unfold fX3_addNumber
  by_cases h0 : 0 ≤ v
  · obtain ⟨a, ha, rfl⟩ := n_of2 (n := 999) (by decide) h0 h2
    obtain ⟨k, lS', mL', q1, q2, q3, q4⟩ := b_num h (by omega) (a := a) (by omega)
    rw [if_pos h0, if_pos h0, if_pos h0]
    unfold fX7_writeKeys_82
    rw [q3, ob, show II j + (1 : Int32) = II (j + 1) from n_add j 1]
    exact ⟨k, lS', mL', q1.1, q2, rfl, q4⟩
  · obtain ⟨a, ha, rfl⟩ := i_negOf (i_nle.mp h0) h1
    obtain ⟨k, lS', mL', q1, q2, q3, q4⟩ := b_num (n := n + 1) (h.step n_45.1) (by omega) (a := a) (by omega)
    rw [if_neg h0, if_neg h0, c_add (by omega), ob, r_writes (by omega), ob, if_neg h0, Int32.neg_neg]
    unfold fX7_writeKeys_82
    rw [q3, ob, show II j + (1 : Int32) = II (j + 1) from n_add j 1]
    refine ⟨k + 1, lS', mL', by have := q1.2 ha; omega, ?_, by rw [show n + (k + 1) = n + 1 + k from by omega], by rw [show n + (k + 1) = n + 1 + k from by omega]; exact q4⟩
    show fX3_addNumber_10 (II (n + 1)) (upd lS n (vp_nar .char 45)) (-(II a)) = _
    have e10 : fX3_addNumber_10 (II (n + 1)) (upd lS n (vp_nar .char 45)) (-(II a)) = fX3_addNumber_10 (II (n + 1)) (upd lS n (vp_nar .char 45)) (II a) := by
      unfold fX3_addNumber_10
      rw [if_neg h0, if_pos (n_0le (by omega)), show (0 : Int32) - -(II a) = II a from by rw [Int32.zero_sub, Int32.neg_neg]]
    rw [e10, q2, show n + 1 + k = n + (k + 1) from by omega]
set_option maxHeartbeats 2000000 in
theorem k_writeSlots {isv : Int32} {rpo : Int32} {rco : Int32} {tcp : Int32} {tkd : Int32} {tsd : Int32} {tlm : Int32} {tfu : Int32} {ttb : Int32} {trb : Int32} {tgr : Int32} {tK : Nat → Int32} {tV : Nat → Int32} {wcp : Int32} {wkd : Int32} {wsd : Int32} {wlm : Int32} {wfu : Int32} {wtb : Int32} {wrb : Int32} {wgr : Int32} {wK : Nat → Int32} {wV : Nat → Int32} {hnw : Int32} {hct : Int32} {hp : Nat → hTT} {pl : Int32} {pS : Nat → Int32} {ln : Int32} {lS : Nat → Int32} {mch : Int32} {msv : Int32} {mls : Int32} {mty : Int32} {mea : Int32} {mfa : Int32} {mA : Nat → Int32} {mL : Nat → Int32} {mI : Nat → Int32} {mth : Int32} {mex : Int32} {mfr : Int32} (h : Rel isv rpo rco tcp tkd tsd tlm tfu ttb trb tgr tK tV wcp wkd wsd wlm wfu wtb wrb wgr wK wV hnw hct hp pl pS ln lS mch msv mls mty mea mfa mA mL mI) : ∃ out out2, fX6_writeSlots tcp tkd tsd tK ln lS = some out ∧ fX7_writeSlots mth mex mfr mls mA mL = some out2 ∧ out.1 = out2.1 ∧ Rel isv rpo rco tcp tkd tsd tlm tfu ttb trb tgr tK tV wcp wkd wsd wlm wfu wtb wrb wgr wK wV hnw hct hp pl pS out.2.1 out.2.2 mch msv out2.2.2.2.2.1 mty mea mfa mA out2.2.2.2.2.2 mI := by
  obtain ⟨⟨c, kd, sd, lm, fu, tb, ⟨rfl, rfl, rfl, rfl, rfl, rfl⟩, hI, hR, g6, g7⟩, h2, h3, h6, h7⟩ := h
  have h64 := hI.cok.le
  have loop : ∀ n i (mex mfr : Int32) (lS mL : Nat → Int32), i ≤ c → c - i < n → LN i lS mL → ∃ mex' mfr' lS' mL', fX6_writeSlots_9 n (II c) (II kd) (II sd) tK (II i) lS (II i) = some (II c, II c, lS') ∧ fX7_writeSlots_12 n 0 mex mfr (II i) mA mL (II i) = some (II c, 0, mex', mfr', II c, mL') ∧ LN c lS' mL' := fun n => by
    induction n with
    | zero => intro i _ _ _ _ _ hn; omega
    | succ n ih =>
      intro i mex mfr lS mL hi hn hL
      unfold fX6_writeSlots_9 fX7_writeSlots_12
      rw [hR.c0]
      by_cases e : c ≤ i
      · have : i = c := by omega
        subst this
        rw [if_pos ((n_le hI.cok.lt hI.cok.lt).mpr e), if_pos ((n_le hI.cok.lt hI.cok.lt).mpr e)]
        exact ⟨_, _, _, _, rfl, rfl, hL⟩
      · have n1 : ¬ II c ≤ II i := fun e3 => e ((n_le hI.cok.lt (by omega)).mp e3)
        have ei : II i + (1 : Int32) = II (i + 1) := n_add i 1
        have fin : ∀ (mex mfr x y : Int32), fX6_signOf (II c) (II kd) (II sd) tK (II i) = some x → vp_nar .char x = vp_nar .char (hl_c y) → ∃ mex' mfr' lS' mL', ((fX6_signOf (II c) (II kd) (II sd) tK (II i)).bind fun r3 => ((fX3_add (II i) lS r3).bind fun r4 => (fX6_writeSlots_9 n (II c) (II kd) (II sd) tK r4.1 r4.2 (II i + (1 : Int32))))) = some (II c, II c, lS') ∧ fX7_writeSlots_92 (fX7_writeSlots_12 n) 0 mex mfr (II i) mA mL (II i) y = some (II c, 0, mex', mfr', II c, mL') ∧ LN c lS' mL' := fun mex mfr x y e1 e2 => by
          unfold fX7_writeSlots_92
          rw [e1, ob, c_add (by omega), ob, r_writes (by omega), ob, ei]
          exact ih (i + 1) mex mfr _ _ (by omega) (by omega) (hL.step e2)
        rw [if_neg n1, if_neg n1, r_at0 (by omega), ob]
        rcases hR.at (s := i) (by omega) with ⟨g, g1⟩ | ⟨g, g1⟩ | ⟨g, g1, g2, -⟩
        · rw [g1, if_neg (by decide)]
          unfold fX7_writeSlots_46
          rw [r_at0 (by omega), ob, g1, if_pos rfl]
          refine fin mex mfr 46 46 ?_ n_45.2.2.2.1
          unfold fX6_signOf
          rw [c_content (by omega), ob, g, if_pos rfl, if_pos (by decide)]
        · rw [g1, if_neg (by decide)]
          unfold fX7_writeSlots_46
          rw [r_at0 (by omega), ob, g1, if_neg (by decide), ob, if_pos rfl]
          refine fin mex mfr 120 120 ?_ n_45.2.2.2.2.1
          unfold fX6_signOf
          rw [c_content (by omega), ob, g, if_neg (by decide), ob, if_pos rfl, if_pos (by decide)]
        · obtain ⟨k, hk, ek⟩ := hI.kt.pos (s := i) (by omega) g
          have hfl := fs_lt (kd := kd) (sd := sd) (k := k) hI.cok hI.emp
          rw [g1, if_pos rfl, r_at1 (by omega), ob, g2, ek, r_exam hR hI.cok hI.kd2 hI.sd9 hk hI.kt hI.emp, ob]
          unfold fX7_writeSlots_46
          rw [r_at0 (by omega), ob, g1, if_neg (by decide), ob, if_neg (by decide)]
          by_cases z : fs c kd sd tK k + 1 ≤ 9
          · have zz : II (fs c kd sd tK k + 1) ≤ (9 : Int32) := (n_le (b := 9) (by omega) (by decide)).mpr z
            refine Exists.imp (fun _ => Exists.imp (fun _ => Exists.imp (fun _ => Exists.imp (fun _ h9 => ⟨h9.1, (if_pos zz).trans h9.2.1, h9.2.2⟩)))) (fin _ _ (hl_c ((48 : Int32) + II (fs c kd sd tK k + 1))) ((48 : Int32) + II (fs c kd sd tK k + 1)) ?_ rfl)
            unfold fX6_signOf
            rw [c_content (by omega), ob, ek, if_neg (n_ne1 (by omega)), ob, if_neg (n_ne2 (by omega)), ob, c_search hI.cok hI.kd2 hI.sd9 hk hI.emp, ob, if_pos zz, if_pos (nar_dig _ (by omega)).2.1]
          · have zz : ¬ II (fs c kd sd tK k + 1) ≤ (9 : Int32) := fun e9 => z ((n_le (b := 9) (by omega) (by decide)).mp e9)
            refine Exists.imp (fun _ => Exists.imp (fun _ => Exists.imp (fun _ => Exists.imp (fun _ h9 => ⟨h9.1, (if_neg zz).trans h9.2.1, h9.2.2⟩)))) (fin _ _ 43 43 ?_ n_45.2.2.2.2.2)
            unfold fX6_signOf
            rw [c_content (by omega), ob, ek, if_neg (n_ne1 (by omega)), ob, if_neg (n_ne2 (by omega)), ob, c_search hI.cok hI.kd2 hI.sd9 hk hI.emp, ob, if_neg zz, if_pos (by decide)]
  obtain ⟨mex', mfr', lS', mL', q1, q2, q3⟩ := loop 1000 0 mex mfr lS mL (by omega) (by omega) (fun i hi => absurd hi (Nat.not_lt_zero _))
  exact ⟨_, _, q1, q2, rfl, ⟨c, kd, sd, lm, fu, tb, ⟨rfl, rfl, rfl, rfl, rfl, rfl⟩, hI, hR, g6, g7⟩, h2, h3, ⟨c, by omega, rfl, rfl, q3⟩, h7⟩
set_option maxHeartbeats 2000000 in
theorem k_writeKeys {isv : Int32} {rpo : Int32} {rco : Int32} {tcp : Int32} {tkd : Int32} {tsd : Int32} {tlm : Int32} {tfu : Int32} {ttb : Int32} {trb : Int32} {tgr : Int32} {tK : Nat → Int32} {tV : Nat → Int32} {wcp : Int32} {wkd : Int32} {wsd : Int32} {wlm : Int32} {wfu : Int32} {wtb : Int32} {wrb : Int32} {wgr : Int32} {wK : Nat → Int32} {wV : Nat → Int32} {hnw : Int32} {hct : Int32} {hp : Nat → hTT} {pl : Int32} {pS : Nat → Int32} {ln : Int32} {lS : Nat → Int32} {mch : Int32} {msv : Int32} {mls : Int32} {mty : Int32} {mea : Int32} {mfa : Int32} {mA : Nat → Int32} {mL : Nat → Int32} {mI : Nat → Int32} {mth : Int32} (h : Rel isv rpo rco tcp tkd tsd tlm tfu ttb trb tgr tK tV wcp wkd wsd wlm wfu wtb wrb wgr wK wV hnw hct hp pl pS ln lS mch msv mls mty mea mfa mA mL mI) : ∃ out out2, fX6_writeKeys tcp tkd tsd tfu tK tV ln lS = some out ∧ fX7_writeKeys mth mls mA mL = some out2 ∧ out.1 = out2.1 ∧ Rel isv rpo rco tcp tkd tsd tlm tfu ttb trb tgr tK tV wcp wkd wsd wlm wfu wtb wrb wgr wK wV hnw hct hp pl pS out.2.1 out.2.2 mch msv out2.2.2.1 mty mea mfa mA out2.2.2.2 mI := by
  obtain ⟨⟨c, kd, sd, lm, fu, tb, ⟨rfl, rfl, rfl, rfl, rfl, rfl⟩, hI, hR, g6, g7⟩, h2, h3, h6, h7⟩ := h
  have h64 := hI.cok.le
  have hft := hI.ft
  have loop : ∀ n j l (b : Int32) (lS mL : Nat → Int32), j ≤ fu → fu - j < n → l ≤ 10 * j → kPrev tK c j b → LN l lS mL → ∃ l' lS' mL', l' ≤ 640 ∧ fX6_writeKeys_11 n (II c) (II kd) (II sd) (II fu) tK tV (II l) lS b (II j) = some (II l', II l', lS') ∧ fX7_writeKeys_12 n 0 (II l) mA mL (II j) = some (II l', 0, II l', mL') ∧ LN l' lS' mL' := fun n => by
    induction n with
    | zero => intro j _ _ _ _ _ hn; omega
    | succ n ih =>
      intro j l b lS mL hj hn hl hP hL
      unfold fX6_writeKeys_11 fX7_writeKeys_12
      rw [hR.c1]
      by_cases e : fu ≤ j
      · rw [if_pos ((n_le (by omega) (by omega)).mpr e), if_pos ((n_le (by omega) (by omega)).mpr e)]
        exact ⟨l, _, _, by omega, rfl, rfl, hL⟩
      · have n1 : ¬ II fu ≤ II j := fun e3 => e ((n_le (by omega) (by omega)).mp e3)
        obtain ⟨s, hs, hs0, hrk, hka⟩ := c_nextKey hI hP (by omega)
        have hs6 : s < 64 := by omega
        obtain ⟨k, hk, ek⟩ := hI.kt.pos (s := s) hs6 hs0
        have hsi := hs_of hI hs6 hk ek
        obtain ⟨v1, v2⟩ := hI.vals s hs6 hs0
        have a1 : mA (9 + 3 * s) = tK s ∧ mA (10 + 3 * s) = tV s := by
          rcases hR.at (s := s) hs6 with ⟨g, -⟩ | ⟨g, -⟩ | ⟨-, -, g, g2⟩
          · rw [g] at hs0; exact absurd hs0 (by decide)
          · rw [g] at hs0; exact absurd hs0 (by decide)
          · exact ⟨g, g2⟩
        have main : ∀ l1 (lS1 mL1 : Nat → Int32), l1 ≤ 10 * j + 1 → LN l1 lS1 mL1 → ∃ l' lS' mL', l' ≤ 640 ∧ fX6_writeKeys_44 (fX6_writeKeys_11 n) (II c) (II kd) (II sd) (II fu) tK tV (II l1) lS1 (tK s) (II j) = some (II l', II l', lS') ∧ fX7_writeKeys_45 (fX7_writeKeys_12 n) 0 (II l1) mA mL1 (II j) (II s) (tV s) = some (II l', 0, II l', mL') ∧ LN l' lS' mL' := fun l1 lS1 mL1 hl1 hL1 => by
          obtain ⟨k1, lS2, mL2, ⟨p1, -⟩, p2, p3, p4⟩ := b_num hL1 (by omega) hk
          have p5 := p4.step n_45.2.1
          obtain ⟨k2, lS4, mL4, q1, q2, q3, q4⟩ := b_val p5 (by omega) v1 v2 (fX7_writeKeys_12 n) 0 mA j
          unfold fX6_writeKeys_44 fX7_writeKeys_45
          rw [ek, show fX3_addNumber (II l1) lS1 (II k) = fX3_addNumber_10 (II l1) lS1 (II k) from if_pos (n_0le (by omega)), p2, ob, c_add (by omega), ob, c_hold hI.cok hI.kd2 hI.sd9 hk hI.emp, ob, hsi, if_pos ek, c_valueOf hs6, ob, q2, ob, r_at1 hs6, ob, a1.1, ek, p3, ob, r_writes (by omega), ob, show II j + (1 : Int32) = II (j + 1) from n_add j 1]
          rw [q3]
          exact ih (j + 1) (l1 + k1 + 1 + k2) (II k) lS4 mL4 (by omega) (by omega) (by omega) (Or.inr ⟨s, hs, hs0, ek, by rw [← ek, hrk]⟩) q4
        rw [if_neg n1, if_neg n1, hka, ob, r_rankedY hI hR hs hs0 hrk, ob, r_at2 hs6, ob, a1.2]
        by_cases hj0 : j = 0
        · have z : II j ≤ (0 : Int32) := (n_le (b := 0) (by omega) (by decide)).mpr (by omega)
          rw [if_pos z, if_pos z]
          exact main l lS mL (by omega) hL
        · have z : ¬ II j ≤ (0 : Int32) := fun e9 => hj0 (by have := (n_le (b := 0) (by omega) (by decide)).mp e9; omega)
          rw [if_neg z, if_neg z, c_add (by omega), ob, r_writes (by omega), ob]
          exact main (l + 1) _ _ (by omega) (hL.step n_45.2.2.1)
  obtain ⟨l', lS', mL', q0, q1, q2, q3⟩ := loop 1000 0 0 (-1) lS mL (by omega) (by omega) (by omega) (Or.inl ⟨rfl, rfl⟩) (fun i hi => absurd hi (Nat.not_lt_zero _))
  exact ⟨_, _, q1, q2, rfl, ⟨c, kd, sd, lm, fu, tb, ⟨rfl, rfl, rfl, rfl, rfl, rfl⟩, hI, hR, g6, g7⟩, h2, h3, ⟨l', q0, rfl, rfl, q3⟩, h7⟩
