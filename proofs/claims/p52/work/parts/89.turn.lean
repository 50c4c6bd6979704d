/-! a turn of the law, and the law -/
theorem lg_same (x : Int64) : lg_cmp x x = 0 := by
  unfold lg_cmp
  rw [if_neg (fun e : x < x => by rw [Int64.lt_iff_toInt_lt] at e; omega), if_pos rfl]
theorem v_six {g : LG} {K0 : Nat → Int32} {rec15 : LV → Int32 → Option Unit} (hg : g.2.2.2.1 < 2147483648) {N c kd sd lm fu tb : Nat} {v : LV} (h : LW N v c kd sd lm fu tb) {t t11n t12n : Nat} {t11f t12f : Nat → Int32} {v4 v5 v6 v7 v8 v9 : Int32} {X : Option Unit} (ht : t < 3) (hX : ∀ n, fL_law_650 g K0 rec15 (n + 1) v (II t) (II c) v4 v5 v6 v7 v8 v9 t11n t11f t12n t12f (II 6) = X) : ∀ n i, i ≤ 6 → 6 - i < n → fL_law_650 g K0 rec15 n v (II t) (II c) v4 v5 v6 v7 v8 v9 t11n t11f t12n t12f (II i) = X
  | 0, i, _, hn => by omega
  | n + 1, i, hi, hn => by
    have hI := h.2.1
    have h64 := hI.cok.le
    have h8 := hI.cok.ge
    by_cases e : i = 6
    · rw [e]
      exact hX n
    · obtain ⟨k, hk, q1⟩ := l_some hg (a := 90 + 6 * t + i) (n := 10000) (by omega) (by omega) (by omega)
      obtain ⟨j, hj, q2⟩ := l_some hg (a := 110 + i) (n := c) (by omega) (by omega) (by omega)
      have hk9 : k ≤ 9999 := by omega
      have ih := v_six (g := g) (K0 := K0) (rec15 := rec15) hg h ht hX n (i + 1) (by omega) (by omega)
      rw [fL_law_650]
      unfold fL_law_769
      have e1 : ((90 : Int32) + ((6 : Int32) * II t)) + II i = II (90 + 6 * t + i) := by
        show (II 90 + (II 6 * II t)) + II i = _
        rw [n_mul, n_add, n_add]
      rw [if_neg (fun e3 : (6 : Int32) ≤ II i => by have := (n_le (a := 6) (by decide) (by omega)).mp e3; omega), e1, show fL_some g (II (90 + 6 * t + i)) (10000 : Int32) = some (II k) from q1, ob, show (110 : Int32) + II i = II (110 + i) from n_add 110 i, q2, ob, o_probe h hk9 hj, ob, o_iD, l_slot h hk9 (by omega), ob, if_pos rfl, o_probes h hk9, ob, o_iD, l_exam h hk9, ob, if_pos rfl, o_step h hk9, ob, o_iD, show hl_rem (II (stN c kd (hN k sd))) (2 : Int32) = II (stN c kd (hN k sd) % 2) from n_rem (b := 2) (by have := stN_lt (kd := kd) (h := hN k sd) hI.cok; omega) (by decide), stN_odd, if_pos (show II 1 = (1 : Int32) from rfl), o_contains h hk9, ob, show II i + (1 : Int32) = II (i + 1) from n_add i 1]
      by_cases e2 : (v.2.1 0) (hs c kd sd (v.2.1 0) k) = II k
      · rw [if_pos e2, if_neg i1n0]
        exact ih
      · have g1 : fL_get v (II k) = some (-30000) := by
          unfold fL_get
          rw [o_get h hk9, if_neg e2, ob]
          rfl
        have g2 : fL_probesBySlot v (II k) = some (-30000) := by
          unfold fL_probesBySlot
          rw [o_pbs h hk9, if_neg e2, ob]
          rfl
        rw [if_neg e2, if_pos rfl, g1, ob, if_pos rfl, g2, ob, if_pos rfl]
        exact ih
theorem lgN_ge {K : Nat → Int32} {c : Nat} : ∀ n s, s < n → w_ar K c s ≤ lgN K c n
  | 0, s, h => by omega
  | n + 1, s, h => by
    unfold lgN
    by_cases e : s = n
    · rw [e]
      split
      · exact Nat.le_refl _
      · omega
    · have ih := lgN_ge (K := K) (c := c) n s (by omega)
      split
      · omega
      · exact ih
theorem lgN_is {K : Nat → Int32} {c : Nat} : ∀ n, lgN K c n = 0 ∨ ∃ s, s < n ∧ lgN K c n = w_ar K c s
  | 0 => Or.inl rfl
  | n + 1 => by
    unfold lgN
    split
    · exact Or.inr ⟨n, by omega, rfl⟩
    · rcases lgN_is (K := K) (c := c) n with e | ⟨s, hs, e⟩
      · exact Or.inl e
      · exact Or.inr ⟨s, by omega, e⟩
theorem lgN_max {K : Nat → Int32} {c : Nat} (hc : cOK c) (hE : w_E K c) : w_max K c (lgN K c c) := by
  have h8 := hc.ge
  refine ⟨?_, fun a L hr => ?_⟩
  · rcases lgN_is (K := K) (c := c) c with e | ⟨s, hs, e⟩
    · rw [e]
      exact ⟨0, fun j hj => absurd hj (Nat.not_lt_zero _)⟩
    · rw [e]
      exact w_ar_run hc hE hs
  · by_cases e : L = 0
    · omega
    · exact Nat.le_trans (w_ar_ge hc hE hr (by omega)) (lgN_ge c (a % c) (Nat.mod_lt _ (by omega)))
theorem tbN_c {c kd sd lm fu tb : Nat} {K V : Nat → Int32} (h : Inv c kd sd lm fu tb K V) : tbN K c = tb := by
  have h1 : ∀ n, c ≤ n → n ≤ 64 → tbN K n = tbN K c := fun n => by
    induction n with
    | zero => intro a b; rw [Nat.le_zero.mp a]
    | succ n ih =>
      intro a b
      by_cases e : c = n + 1
      · rw [e]
      · have h2 := h.high n (by omega) (by omega)
        have h3 : tbN K (n + 1) = tbN K n + if decide (K n = -2) = true then 1 else 0 := rfl
        rw [h3, ih (by omega) (by omega), h2]
        rfl
  rw [← h1 64 h.cok.le (Nat.le_refl _)]
  exact h.ctb
theorem fc8 : ∀ f, f < 8 → (Op.cmpValue (FP.fcmp (FP.fdiv (FP.i2f (II f)) (FP.i2f (II 8))) (FP.fdiv (FP.i2f (II f)) (FP.i2f (II 8)))) CmpOp.l) = 0 := by decide +kernel
theorem fc16 : ∀ f, f < 16 → (Op.cmpValue (FP.fcmp (FP.fdiv (FP.i2f (II f)) (FP.i2f (II 16))) (FP.fdiv (FP.i2f (II f)) (FP.i2f (II 16)))) CmpOp.l) = 0 := by decide +kernel
theorem fc32 : ∀ f, f < 32 → (Op.cmpValue (FP.fcmp (FP.fdiv (FP.i2f (II f)) (FP.i2f (II 32))) (FP.fdiv (FP.i2f (II f)) (FP.i2f (II 32)))) CmpOp.l) = 0 := by decide +kernel
theorem fc64 : ∀ f, f < 64 → (Op.cmpValue (FP.fcmp (FP.fdiv (FP.i2f (II f)) (FP.i2f (II 64))) (FP.fdiv (FP.i2f (II f)) (FP.i2f (II 64)))) CmpOp.l) = 0 := by decide +kernel
theorem fc_all {c f : Nat} (hc : cOK c) (hf : f < c) : (Op.cmpValue (FP.fcmp (FP.fdiv (FP.i2f (II f)) (FP.i2f (II c))) (FP.fdiv (FP.i2f (II f)) (FP.i2f (II c)))) CmpOp.l) = 0 := by
  rcases hc with rfl | rfl | rfl | rfl
  · exact fc8 f hf
  · exact fc16 f hf
  · exact fc32 f hf
  · exact fc64 f hf
theorem o_load {N c kd sd lm fu tb : Nat} {v : LV} (h : LW N v c kd sd lm fu tb) : ∃ r : Int32, gl_load v = some (FP.fdiv (FP.i2f (II fu)) (FP.i2f (II c))) ∧ gl_loadBits v = some r ∧ fJxf58ca_floatToIntBits_5c35a (FP.fdiv (FP.i2f (II fu)) (FP.i2f (II c))) = some r := by
  obtain ⟨⟨a1, a2, a3, a4, a5, a6⟩, hI, -, -⟩ := h
  obtain ⟨b1, b2, b3⟩ := fl_all (c := c) (f := fu) hI.cok (by have := hI.ft; omega)
  have es : fX5_share (II c) (II fu) = some (FP.fdiv (FP.i2f (II fu)) (FP.i2f (II c))) := by
    unfold fX5_share
    rw [if_neg (fun e2 : II c ≤ (0 : Int32) => by have := (n_le (b := 0) hI.cok.lt (by decide)).mp e2; have := hI.cok.ge; omega), if_pos b1]
  cases e9 : fJxf58ca_floatToIntBits_5c35a (FP.fdiv (FP.i2f (II fu)) (FP.i2f (II c))) with
  | none => exact absurd e9 b3
  | some r =>
    rw [e9] at b2
    unfold gl_load gl_loadBits fX6_load fX6_loadBits
    rw [a1, a5, es, ob, ob, b2, ob]
    exact ⟨r, rfl, rfl, rfl⟩
theorem smN_b {c kd sd lm fu tb : Nat} {K V : Nat → Int32} (hI : Inv c kd sd lm fu tb K V) : ∀ i, cnt (fl K) i ≤ smN c kd sd K i ∧ smN c kd sd K i ≤ 64 * i
  | 0 => ⟨Nat.le_refl _, Nat.le_refl _⟩
  | i + 1 => by
    obtain ⟨h1, h2⟩ := smN_b hI i
    have hm := muN_le (s := i) hI
    have h3 := cnt_s (fl K) i
    rw [smN]
    cases hf : fl K i
    · rw [hf, if_neg (show ¬ false = true by decide)] at h3
      rw [if_neg (show ¬ false = true by decide)]
      omega
    · rw [hf, if_pos rfl] at h3
      rw [if_pos rfl]
      omega
theorem o_sum {c kd sd lm fu tb : Nat} {K V : Nat → Int32} (hI : Inv c kd sd lm fu tb K V) (hfu : 0 < fu) : ∀ n i, i ≤ c → c - i < n → fX5_meanSearchLength_4 n (II c) (II kd) (II sd) (II fu) K (II (smN c kd sd K i)) (II i) = some (FP.ddiv (FP.i2d (II (smN c kd sd K c))) (FP.i2d (II fu)))
  | 0, i, _, hn => by omega
  | n + 1, i, hi, hn => by
    have h64 := hI.cok.le
    have hft := hI.ft
    have ih := o_sum hI hfu n (i + 1)
    unfold fX5_meanSearchLength_4 fX5_meanSearchLength_32
    by_cases e : c ≤ i
    · have e2 : i = c := by omega
      subst e2
      obtain ⟨s1, s2⟩ := smN_b hI i
      rw [hI.fuc] at s1
      have hb := (fn_all (S := smN i kd sd K i) (F := fu) (by omega) s1 (by omega)).1
      rw [if_pos ((n_le hI.cok.lt hI.cok.lt).mpr e), if_neg (fun e2 : II fu ≤ (0 : Int32) => by have := (n_le (b := 0) (by omega) (by decide)).mp e2; omega), if_pos hb]
    · have ih := ih (by omega) (by omega)
      rw [smN] at ih
      rw [if_neg (fun e3 => e ((n_le hI.cok.lt (by omega)).mp e3)), c_isFull (by omega), ob, show II i + (1 : Int32) = II (i + 1) from n_add i 1]
      by_cases z : K i < 0
      · rw [if_neg (fun e4 : fl K i = true => absurd (of_decide_eq_true e4) (i_nle.mpr z))] at ih
        rw [if_pos z, if_pos rfl]
        exact ih
      · obtain ⟨k, hk, ek⟩ := hI.kt.pos (s := i) (by omega) (i_nlt.mp z)
        have hmu : fs c kd sd K k + 1 = muN c kd sd K i := by
          unfold muN
          rw [ek, n_cl (by omega)]
        rw [if_pos (show fl K i = true from decide_eq_true (i_nlt.mp z))] at ih
        rw [if_neg z, if_neg i1n0, c_content (by omega), ob, ek, c_search hI.cok hI.kd2 hI.sd9 hk hI.emp, ob, hmu, n_add]
        exact ih
theorem o_mean {N c kd sd lm fu tb : Nat} {v : LV} (h : LW N v c kd sd lm fu tb) (hfu : 0 < fu) : ∃ d : UInt64, FP.ddiv (FP.i2d (II (smN c kd sd (v.2.1 0) c))) (FP.i2d (II fu)) = d ∧ gl_meanProbes v = some (.inl d) ∧ gl_meanProbesBits v = some (.inl d.toInt64) ∧ hl_n64 d = true ∧ fJxe99ae_doubleToLongBits_ccdee d = some d.toInt64 ∧ (Op.cmpValue (FP.dcmp d d) CmpOp.l) = 0 := by
  obtain ⟨⟨a1, a2, a3, a4, a5, a6⟩, hI, -, -⟩ := h
  have h64 := hI.cok.le
  have hft := hI.ft
  obtain ⟨s1, s2⟩ := smN_b hI c
  rw [hI.fuc] at s1
  obtain ⟨z0, z1, z2⟩ := fn_all (S := smN c kd sd (v.2.1 0) c) (F := fu) (by omega) s1 (by omega)
  have q1 := o_sum hI hfu 1000 0 (Nat.zero_le _) (by omega)
  generalize FP.ddiv (FP.i2d (II (smN c kd sd (v.2.1 0) c))) (FP.i2d (II fu)) = d at q1 z0 z1 z2 ⊢
  have q2 : fX5_meanSearchLength_4 1000 (II c) (II kd) (II sd) (II fu) (v.2.1 0) (0 : Int32) (0 : Int32) = some d := q1
  refine ⟨d, rfl, ?_, ?_, z0, ?_, ?_⟩
  · unfold gl_meanProbes fX6_meanProbes fX5_meanSearchLength
    rw [a1, a2, a3, a5, if_pos (show (0 : Int32) < II fu from (n_lt (a := 0) (by decide) (by omega)).mpr hfu), q2, ob]
  · unfold gl_meanProbesBits fX6_meanProbesBits fX5_meanSearchLength
    rw [a1, a2, a3, a5, if_pos (show (0 : Int32) < II fu from (n_lt (a := 0) (by decide) (by omega)).mpr hfu), q2, ob, z1, ob]
  · unfold fJxe99ae_doubleToLongBits_ccdee
    rw [z2, ob, if_pos rfl]
  · unfold fJxe99ae_isNaN_b9ae7 at z2
    by_cases e : (Op.cmpValue (FP.dcmp d d) CmpOp.l) = 0
    · exact e
    · rw [if_neg e] at z2
      exact absurd z2 (by decide)
theorem v_983 {g : LG} {K0 : Nat → Int32} {rec15 : LV → Int32 → Option Unit} (hg : g.2.2.2.1 < 2147483648) (hK : K0 = eK (fun _ => 0)) {N c kd sd lm fu tb : Nat} {v : LV} (h : LW N v c kd sd lm fu tb) {t : Nat} (ht : t < 3) (hN : N ≤ 1000) (hR : ∀ v', LX (N + 1) v' → rec15 v' (II (t + 1)) = some ()) : fL_law_983 g K0 rec15 v (II t) = some () := by
  obtain ⟨st, hst, q1⟩ := l_some hg (a := 120 + t) (n := 10007) (by omega) (by omega) (by omega)
  obtain ⟨b, hb, q2⟩ := l_some hg (a := 124 + t) (n := 14) (by omega) (by omega) (by omega)
  unfold fL_law_983
  rw [show (120 : Int32) + II t = II (120 + t) from n_add 120 t, show fL_some g (II (120 + t)) (10007 : Int32) = some (II st) from q1, ob, show (124 : Int32) + II t = II (124 + t) from n_add 124 t, show fL_some g (II (124 + t)) (14 : Int32) = some (II b) from q2, ob, show (1 : Int32) + II b = II (1 + b) from n_add 1 b]
  obtain ⟨v', hL, q3⟩ := t_1019 (g := g) (rec15 := rec15) (v2 := II t) hK (st := st) (cn := 1 + b) (by omega) (by omega) (by omega) 4 0 v h (by omega) (by omega)
  obtain ⟨v3, q4, hX⟩ := l_acts hg (LX.of hL) (a := 130 + 3 * t) (by omega)
  refine Eq.trans q3 ?_
  rw [show (130 : Int32) + ((3 : Int32) * II t) = II (130 + 3 * t) from by
    show II 130 + (II 3 * II t) = _
    rw [n_mul, n_add], q4, ob, show II t + (1 : Int32) = II (t + 1) from n_add t 1]
  exact hR v3 hX
theorem v_887 {g : LG} {K0 : Nat → Int32} {rec15 : LV → Int32 → Option Unit} (hg : g.2.2.2.1 < 2147483648) (hK : K0 = eK (fun _ => 0)) {N c kd sd lm fu tb : Nat} {v : LV} (h : LW N v c kd sd lm fu tb) {t : Nat} {f11 f12 : Nat → Int32} (ht : t < 3) (hN : N ≤ 1000) (hR : ∀ v', LX (N + 1) v' → rec15 v' (II (t + 1)) = some ()) (h11 : TXs c kd sd (v.2.1 0) c f11) (h12 : ∀ i, i < kyN (v.2.1 0) (v.2.1 1) c fu → f12 i = kyF (v.2.1 0) (v.2.1 1) c fu i) (x : Int32) :
    fL_law_887 g K0 rec15 v (II t) (II c) (II fu) (II (smN c kd sd (v.2.1 0) c)) c f11 (kyN (v.2.1 0) (v.2.1 1) c fu) f12 x x = some () := by
  have hI := h.2.1
  have h64 := hI.cok.le
  have hft := hI.ft
  have hkn := kyN_le hI fu (Nat.le_refl _)
  obtain ⟨r, b1, b2, b3⟩ := o_load h
  have b4 := (fl_all (c := c) (f := fu) hI.cok (by omega)).1
  have b5 := fc_all (c := c) (f := fu) hI.cok (by omega)
  obtain ⟨w1, p1, l1, k1, k1v, n1, c1⟩ := o_wSlots h
  have s1 : fL_isLine w1 c f11 (II c) = some 1 := y_line n1 (by omega) (fun i hi => by rw [c1 i hi, h11 i hi]) (fun i hi => by rw [c1 i hi]; exact y_chch (lm := lm) (fu := fu) (tb := tb) (V := (v.2.1 1)))
  obtain ⟨w2, p2, l2, k2, k2v, n2, c2⟩ := o_wKeys l1
  rw [k1, k1v] at p2 n2 c2
  rw [k1] at k2
  have s2 : fL_isLine w2 (kyN (v.2.1 0) (v.2.1 1) c fu) f12 (II (kyN (v.2.1 0) (v.2.1 1) c fu)) = some 1 := y_line n2 (by omega) (fun i hi => by rw [c2 i hi, h12 i hi]) (fun i hi => by rw [c2 i hi]; exact y_kych fu i)
  have s3 := v_983 (g := g) (K0 := K0) (rec15 := rec15) hg hK l2 ht hN hR
  unfold fL_law_887
  rw [if_pos rfl, b1, ob, if_pos b4, if_pos b5, b2, ob, ob, b3, ob, if_pos rfl, p1, ob]
  show ((fL_isLine w1 c f11 (II c)).bind _) = _
  rw [s1, ob, if_neg i1n0]
  show ((gl_writeKeys w1).bind _) = _
  rw [p2, ob]
  show ((fL_isLine w2 (kyN (v.2.1 0) (v.2.1 1) c fu) f12 (II (kyN (v.2.1 0) (v.2.1 1) c fu))).bind _) = _
  rw [s2, ob, if_neg i1n0]
  by_cases e : fu = 0
  · rw [if_pos (show II fu ≤ (0 : Int32) from (n_le (b := 0) (by omega) (by decide)).mpr (by omega))]
    exact s3
  · obtain ⟨d, d0, d1, d2, d3, d4, d5⟩ := o_mean l2 (by omega)
    rw [k2] at d0
    rw [if_neg (fun e2 : II fu ≤ (0 : Int32) => by have := (n_le (b := 0) (by omega) (by decide)).mp e2; omega), d0]
    show ((gl_meanProbes w2).bind _) = _
    rw [d1, ob, o_iD, if_pos d3, if_pos d5]
    show ((gl_meanProbesBits w2).bind _) = _
    rw [d2, ob, o_iD]
    rw [ob, o_iD, d4, ob, if_pos (lg_same _)]
    exact s3
theorem v_fin {g : LG} {K0 : Nat → Int32} {rec15 : LV → Int32 → Option Unit} (hg : g.2.2.2.1 < 2147483648) (hK : K0 = eK (fun _ => 0)) {N c kd sd lm fu tb : Nat} {v : LV} (h : LW N v c kd sd lm fu tb) {t : Nat} {f11 f12 : Nat → Int32} (ht : t < 3) (hN : N ≤ 1000) (hR : ∀ v', LX (N + 1) v' → rec15 v' (II (t + 1)) = some ()) (h11 : TXs c kd sd (v.2.1 0) c f11) (h12 : ∀ i, i < kyN (v.2.1 0) (v.2.1 1) c fu → f12 i = kyF (v.2.1 0) (v.2.1 1) c fu i) (n : Nat) :
    fL_law_650 g K0 rec15 (n + 1) v (II t) (II c) (II fu) (II tb) (II (clN (v.2.1 0) c c)) (II (lgN (v.2.1 0) c c)) (II (smN c kd sd (v.2.1 0) c)) (hdN c kd sd (v.2.1 0) c).1 c f11 (kyN (v.2.1 0) (v.2.1 1) c fu) f12 (II 6) = some () := by
  have hI := h.2.1
  have h64 := hI.cok.le
  have hft := hI.ft
  obtain ⟨r, q1, q2, q3⟩ := o_large h
  have er : r = lgN (v.2.1 0) c c := w_max1 q3 (lgN_max hI.cok hI.wE)
  subst er
  obtain ⟨v', q4, l4, k4, k4v⟩ := o_cons h
  obtain ⟨a, b, hba, haN, q5, q6⟩ := o_grow l4
  have s1 := fun x => v_887 (g := g) (K0 := K0) (rec15 := rec15) hg hK l4 ht hN hR (f11 := f11) (f12 := f12) (by rw [k4]; exact h11) (by rw [k4, k4v]; exact h12) x
  rw [k4, k4v] at s1
  rw [fL_law_650, if_pos (show (6 : Int32) ≤ II 6 by decide), o_size h, ob, if_pos rfl, o_tombs h, ob, if_pos rfl, o_clusters h, ob, if_pos rfl, q1, ob, if_pos rfl, q2, ob, if_pos rfl, o_hardest h, ob, if_pos rfl, o_keyAtN h, ob, if_pos rfl, q4, ob, if_neg i1n0]
  show ((gl_growths v').bind _) = _
  rw [q6, ob, q5, ob, if_neg (fun e : II a < II b => by have := (n_lt (by omega) (by omega)).mp e; omega), o_near l4, ob, o_limit l4, ob]
  have em : ((100 : Int32) * ((II fu + II tb) + (1 : Int32)) ≤ II lm * II c) ↔ 100 * (fu + tb + 1) ≤ lm * c := by
    rw [show (II fu + II tb) + (1 : Int32) = II (fu + tb + 1) from by rw [n_add]; exact n_add _ 1]
    exact m_exc hI.lm9.2 (by omega) h64
  by_cases e : 100 * (fu + tb + 1) ≤ lm * c
  · rw [if_pos e, if_pos (em.mpr e)]
    exact s1 0
  · rw [if_neg e, if_neg (fun e2 => e (em.mp e2))]
    exact s1 1
theorem v_15 {g : LG} {K0 : Nat → Int32} (hg : g.2.2.2.1 < 2147483648) (hK : K0 = eK (fun _ => 0)) : ∀ n t (v : LV), t ≤ 3 → 3 - t < n → LX (26 + t) v → fL_law_15 g K0 n v (II t) = some ()
  | 0, t, _, _, hn, _ => by omega
  | n + 1, t, v, ht, hn, hX => by
    rw [fL_law_15]
    by_cases e : 3 ≤ t
    · rw [if_pos (show (3 : Int32) ≤ II t from (n_le (a := 3) (by decide) (by omega)).mpr e)]
    · obtain ⟨c, kd, sd, lm, fu, tb, h⟩ := hX
      have hI := h.2.1
      have h64 := hI.cok.le
      have hR : ∀ v', LX (26 + t + 1) v' → fL_law_15 g K0 n v' (II (t + 1)) = some () := fun v' hX' => v_15 hg hK n (t + 1) v' (by omega) (by omega) hX'
      obtain ⟨f11, h11, q1⟩ := s_59 (g := g) (K0 := K0) (rec15 := fL_law_15 g K0 n) h (v2 := II t) 65 0 (kLen 0) (kByt 0) (kByt 0) (Nat.zero_le _) (by omega) (fun i hi => absurd hi (Nat.not_lt_zero _))
      obtain ⟨f12, h12, q2⟩ := v_555 (g := g) (K0 := K0) (rec15 := fL_law_15 g K0 n) h (t11n := c) (t11f := f11) (v2 := II t) (v3 := II c) (v5 := II tb) (v6 := II (clN (v.2.1 0) c c)) (v7 := II (lgN (v.2.1 0) c c)) (v8 := II (smN c kd sd (v.2.1 0) c)) (v9 := (hdN c kd sd (v.2.1 0) c).1) 65 0 (kByt 0) (Nat.zero_le _) (by have := hI.ft; omega) (fun i hi => absurd hi (Nat.not_lt_zero _))
      have q3 := v_six (g := g) (K0 := K0) (rec15 := fL_law_15 g K0 n) hg h (t := t) (by omega) (v_fin (g := g) (K0 := K0) (rec15 := fL_law_15 g K0 n) hg hK h (by omega) (by omega) hR h11 h12) 7 0 (by omega) (by omega)
      rw [hI.fuc, tbN_c hI] at q1
      rw [if_neg (fun e2 : (3 : Int32) ≤ II t => e ((n_le (a := 3) (by decide) (by omega)).mp e2)), o_cap h, ob]
      exact (q1.trans q2).trans q3
/-- the law answers true -/
theorem v_law {g : LG} {K0 : Nat → Int32} (hg : g.2.2.2.1 < 2147483648) (hK : K0 = eK (fun _ => 0)) : fL_law g K0 = some () := by
  obtain ⟨v', q, hX⟩ := l_build hg hK
  unfold fL_law
  rw [q, ob]
  exact v_15 hg hK 4 0 v' (by omega) (by omega) hX
