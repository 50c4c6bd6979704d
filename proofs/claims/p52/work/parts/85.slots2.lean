/-! the law's loop over the slots: its end, and the whole of it -/
theorem tx_new {c kd sd s : Nat} {K f fc : Nat → Int32} (hT : TXs c kd sd K s f) (e : fc 0 = chN c kd sd K s) : TXs c kd sd K (s + 1) (tcat (0 + s) (tcat 0 (fun _ => 0) f) fc) := fun i hi => by
  by_cases h : i < s
  · rw [tcat_lo (by omega)]
    show (if i < 0 then (0 : Int32) else f (i - 0)) = _
    rw [if_neg (Nat.not_lt_zero _)]
    exact hT i h
  · have h1 : i = s := by omega
    subst h1
    show (if i < 0 + i then _ else fc (i - (0 + i))) = _
    rw [if_neg (by omega), show i - (0 + i) = 0 from by omega]
    exact e
theorem s_dig : ∀ m, m < 10 → nLen (II m) = 1 ∧ nDig (II m) 0 = II (48 + m) ∧ numOK (II m) := by decide +kernel
theorem s_476 {g : LG} {K0 : Nat → Int32} {rec15 : LV → Int32 → Option Unit} {rec59 : LV → Int32 → Int32 → Int32 → Int32 → Int32 → Int32 → Int32 → Int32 → Int32 → Nat → (Nat → Int32) → Nat → (Nat → Int32) → Int32 → Option Unit} {N c kd sd lm fu tb s : Nat} {v : LV} (h : LW N v c kd sd lm fu tb) (hsc : s < c) {k : Nat} (hk : k ≤ 9999) (ek : (v.2.1 0) s = II k) {v2 v3 v4 v5 v6 v7 v8 v10 k0 : Int32} (t11n t12n : Nat) (t11f t12f : Nat → Int32) :
    fL_law_476 g K0 rec15 rec59 v v2 v3 v4 v5 v6 v7 v8 v10 t11n t11f t12n t12f (II s) (II k) (II (fs c kd sd (v.2.1 0) k + 1)) k0 = rec59 v v2 v3 v4 v5 v6 v7 v8 k0 (if v10 < II (fs c kd sd (v.2.1 0) k + 1) then II (fs c kd sd (v.2.1 0) k + 1) else v10) t11n t11f (kLen 0) (kByt 0) (II (s + 1)) := by
  have hI := h.2.1
  have h64 := hI.cok.le
  have hh := hs_of hI (by omega) hk ek
  have hf := fs_lt (kd := kd) (sd := sd) (k := k) hI.cok hI.emp
  have e2 : (v.2.1 0) (hs c kd sd (v.2.1 0) k) = II k := by rw [hh]; exact ek
  have hsq : sq c kd sd k (fs c kd sd (v.2.1 0) k) = s := hh
  unfold fL_law_476 fL_law_546
  rw [o_slotOf h hk e2, ob, o_iD, hh, if_pos rfl, show II (fs c kd sd (v.2.1 0) k + 1) - (1 : Int32) = II (fs c kd sd (v.2.1 0) k) from n_sub (b := 1) (by omega), l_slot h hk (by omega), ob, hsq, if_pos rfl, o_probes h hk, ob, o_iD, if_pos rfl, o_pbs h hk, ob, if_pos e2, o_iD, if_pos rfl, o_contains h hk, ob, if_pos e2, if_neg i1n0, show II s + (1 : Int32) = II (s + 1) from n_add s 1]
theorem s_448 {g : LG} {K0 : Nat → Int32} {rec15 : LV → Int32 → Option Unit} {rec59 : LV → Int32 → Int32 → Int32 → Int32 → Int32 → Int32 → Int32 → Int32 → Int32 → Nat → (Nat → Int32) → Nat → (Nat → Int32) → Int32 → Option Unit} {N c kd sd lm fu tb s : Nat} {v : LV} (h : LW N v c kd sd lm fu tb) (hsc : s < c) {k : Nat} (hk : k ≤ 9999) (ek : (v.2.1 0) s = II k) {v2 v3 v4 v5 v6 v7 v8 : Int32} (t11n t12n : Nat) (t11f t12f : Nat → Int32) :
    fL_law_448 g K0 rec15 rec59 v v2 v3 v4 v5 v6 v7 v8 (hdN c kd sd (v.2.1 0) s).1 (II (hdN c kd sd (v.2.1 0) s).2) t11n t11f t12n t12f (II s) (II k) (II (muN c kd sd (v.2.1 0) s)) = rec59 v v2 v3 v4 v5 v6 v7 v8 (hdN c kd sd (v.2.1 0) (s + 1)).1 (II (hdN c kd sd (v.2.1 0) (s + 1)).2) t11n t11f (kLen 0) (kByt 0) (II (s + 1)) := by
  have hI := h.2.1
  have h64 := hI.cok.le
  have hmu : muN c kd sd (v.2.1 0) s = fs c kd sd (v.2.1 0) k + 1 := by
    unfold muN
    rw [ek, n_cl (by omega)]
  have hm := muN_le (s := s) hI
  have hq := hdN_le hI s
  have hfl : fl (v.2.1 0) s = true := by unfold fl; rw [ek]; exact decide_eq_true (n_0le (by omega))
  have h476 := fun (y10 k0 : Int32) => s_476 (g := g) (K0 := K0) (rec15 := rec15) (rec59 := rec59) h hsc hk ek (v2 := v2) (v3 := v3) (v4 := v4) (v5 := v5) (v6 := v6) (v7 := v7) (v8 := v8) (v10 := y10) (k0 := k0) t11n (kLen 0) t11f (kByt 0)
  rw [← hmu] at h476
  unfold fL_law_448
  rw [h476, h476, hdN, if_pos hfl, ek]
  generalize muN c kd sd (v.2.1 0) s = m at hm ⊢
  generalize hdN c kd sd (v.2.1 0) s = P at hq ⊢
  obtain ⟨p, q⟩ := P
  have hq : q ≤ 64 := hq
  have hlt : (II q < II m) ↔ q < m := n_lt (by omega) (by omega)
  have heq : (II m = II q) ↔ m = q := n_eq (by omega) (by omega)
  show (if II q < II m then _ else if II m = II q then _ else _) = _
  by_cases z1 : q < m
  · rw [if_pos (hlt.mpr z1), if_pos (show (p, q).2 < m from z1), if_pos (show II (p, q).2 < II m from hlt.mpr z1)]
  · have z1' : ¬ II q < II m := fun e6 => z1 (hlt.mp e6)
    rw [if_neg z1', if_neg (show ¬ (p, q).2 < m from z1), if_neg (show ¬ II (p, q).2 < II m from z1')]
    by_cases z2 : m = q
    · rw [if_pos (heq.mpr z2), if_pos (show m = (p, q).2 from z2)]
      by_cases z3 : p ≤ II k
      · rw [if_pos (show (p, q).1 ≤ II k from z3), if_pos (show (p, q).1 ≤ II k from z3)]
      · rw [if_neg (show ¬ (p, q).1 ≤ II k from z3), if_neg (show ¬ (p, q).1 ≤ II k from z3)]
    · rw [if_neg (fun e6 => z2 (heq.mp e6)), if_neg (show ¬ m = (p, q).2 from z2)]
theorem s_319 {g : LG} {K0 : Nat → Int32} {rec15 : LV → Int32 → Option Unit} {rec59 : LV → Int32 → Int32 → Int32 → Int32 → Int32 → Int32 → Int32 → Int32 → Int32 → Nat → (Nat → Int32) → Nat → (Nat → Int32) → Int32 → Option Unit} {N c kd sd lm fu tb s : Nat} {v : LV} (h : LW N v c kd sd lm fu tb) (hsc : s < c) {f : Nat → Int32} (hT : TXs c kd sd (v.2.1 0) s f) {v2 v4 v5 v6 : Int32} (t12n : Nat) (t12f : Nat → Int32) :
    ∃ f', TXs c kd sd (v.2.1 0) (s + 1) f' ∧ fL_law_319 g K0 rec15 rec59 v v2 (II c) v4 v5 v6 (II (lgN (v.2.1 0) c s)) (II (smN c kd sd (v.2.1 0) s)) (hdN c kd sd (v.2.1 0) s).1 (II (hdN c kd sd (v.2.1 0) s).2) s f t12n t12f (II s) (if fl (v.2.1 0) s = true then (v.2.1 0) s else -30000) (II (w_ar (v.2.1 0) c s)) (bI (w_k (v.2.1 0) s)) = rec59 v v2 (II c) v4 v5 v6 (II (lgN (v.2.1 0) c (s + 1))) (II (smN c kd sd (v.2.1 0) (s + 1))) (hdN c kd sd (v.2.1 0) (s + 1)).1 (II (hdN c kd sd (v.2.1 0) (s + 1)).2) (s + 1) f' (kLen 0) (kByt 0) (II (s + 1)) := by
  have hI := h.2.1
  have hc := hI.cok
  have h64 := hc.le
  have b1 := w_ar_le (K := (v.2.1 0)) (s := s) hc
  have b2 := lgN_le (K := (v.2.1 0)) hc s
  have e7 : (if II (lgN (v.2.1 0) c s) < II (w_ar (v.2.1 0) c s) then II (w_ar (v.2.1 0) c s) else II (lgN (v.2.1 0) c s)) = II (lgN (v.2.1 0) c (s + 1)) := by
    rw [lgN]
    by_cases z : lgN (v.2.1 0) c s < w_ar (v.2.1 0) c s
    · rw [if_pos z, if_pos ((n_lt (by omega) (by omega)).mpr z)]
    · rw [if_neg z, if_neg (fun e => z ((n_lt (by omega) (by omega)).mp e))]
  have e1 : II s + (1 : Int32) = II (s + 1) := n_add s 1
  unfold fL_law_319
  rw [o_clSize h hsc, ob, o_iD, if_pos rfl, e7]
  rcases hI.kt s (by omega) with e | e | ⟨k, hk, e⟩
  · have g1 : fl (v.2.1 0) s = false := by unfold fl; rw [e]; rfl
    have g2 : w_k (v.2.1 0) s = false := by unfold w_k; rw [e]; rfl
    have es : smN c kd sd (v.2.1 0) (s + 1) = smN c kd sd (v.2.1 0) s := by
      rw [smN, g1]
      rfl
    have eh : hdN c kd sd (v.2.1 0) (s + 1) = hdN c kd sd (v.2.1 0) s := by
      rw [hdN, g1]
      rfl
    rw [g1, g2, es, eh, if_neg (show ¬ false = true by decide), if_neg (show ¬ (0 : Int32) ≤ -30000 by decide), if_pos (show 0 + s ≤ 700 from by omega), if_pos (show bI false = 0 from rfl), if_pos (show 0 + s + kLen 2 ≤ 700 from by show 0 + s + 1 ≤ 700; omega)]
    unfold fL_law_546
    rw [e1, show 0 + s + kLen 2 = s + 1 from by show 0 + s + 1 = s + 1; omega]
    refine ⟨_, tx_new hT (fc := kByt 2) ?_, rfl⟩
    unfold chN
    rw [if_pos e]
    rfl
  · have g1 : fl (v.2.1 0) s = false := by unfold fl; rw [e]; rfl
    have g2 : w_k (v.2.1 0) s = true := by unfold w_k; rw [e]; rfl
    have es : smN c kd sd (v.2.1 0) (s + 1) = smN c kd sd (v.2.1 0) s := by
      rw [smN, g1]
      rfl
    have eh : hdN c kd sd (v.2.1 0) (s + 1) = hdN c kd sd (v.2.1 0) s := by
      rw [hdN, g1]
      rfl
    rw [g1, g2, es, eh, if_neg (show ¬ false = true by decide), if_neg (show ¬ (0 : Int32) ≤ -30000 by decide), if_pos (show 0 + s ≤ 700 from by omega), if_neg (show ¬ bI true = 0 by decide), if_pos (show 0 + s + kLen 1 ≤ 700 from by show 0 + s + 1 ≤ 700; omega)]
    unfold fL_law_546
    rw [e1, show 0 + s + kLen 1 = s + 1 from by show 0 + s + 1 = s + 1; omega]
    refine ⟨_, tx_new hT (fc := kByt 1) ?_, rfl⟩
    unfold chN
    rw [if_neg (by rw [e]; decide), if_pos e]
    rfl
  · have hk0 : (0 : Int32) ≤ II k := n_0le (by omega)
    have g1 : fl (v.2.1 0) s = true := by unfold fl; rw [e]; exact decide_eq_true hk0
    have hm := muN_le (s := s) hI
    have hmu : fs c kd sd (v.2.1 0) k + 1 = muN c kd sd (v.2.1 0) s := by
      unfold muN
      rw [e, n_cl (by omega)]
    have es : II (smN c kd sd (v.2.1 0) s) + II (muN c kd sd (v.2.1 0) s) = II (smN c kd sd (v.2.1 0) (s + 1)) := by
      rw [smN, if_pos g1]
      exact n_add _ _
    have hch : chN c kd sd (v.2.1 0) s = if muN c kd sd (v.2.1 0) s ≤ 9 then II (48 + muN c kd sd (v.2.1 0) s) else 43 := by
      unfold chN
      rw [if_neg (by rw [e]; exact n_ne1 (by omega)), if_neg (by rw [e]; exact n_ne2 (by omega))]
    have h448 := fun (t11n : Nat) (t11f : Nat → Int32) => s_448 (g := g) (K0 := K0) (rec15 := rec15) (rec59 := rec59) h hsc hk e (v2 := v2) (v3 := II c) (v4 := v4) (v5 := v5) (v6 := v6) (v7 := II (lgN (v.2.1 0) c (s + 1))) (v8 := II (smN c kd sd (v.2.1 0) (s + 1))) t11n (kLen 0) t11f (kByt 0)
    rw [if_pos g1, e, if_pos hk0, l_exam h hk, ob, hmu, es, if_pos (show 0 + s ≤ 700 from by omega), h448, h448]
    by_cases z : muN c kd sd (v.2.1 0) s ≤ 9
    · obtain ⟨d1, d2, d3⟩ := s_dig (muN c kd sd (v.2.1 0) s) (by omega)
      have d4 : 0 + kLen 0 + nLen (II (muN c kd sd (v.2.1 0) s)) = 1 := by
        rw [d1]
        rfl
      rw [if_pos (show II (muN c kd sd (v.2.1 0) s) ≤ (9 : Int32) from (n_le (b := 9) (by omega) (by decide)).mpr z), if_pos (show 0 + kLen 0 ≤ 700 by decide), d4, if_pos ⟨by omega, d3⟩, if_pos (show 0 + s + 1 ≤ 700 from by omega), show 0 + s + 1 = s + 1 from by omega]
      refine ⟨_, tx_new hT (fc := tcat (0 + kLen 0) (tcat 0 (fun _ => 0) (kByt 0)) (nDig (II (muN c kd sd (v.2.1 0) s)))) ?_, rfl⟩
      rw [hch, if_pos z]
      exact d2
    · rw [if_neg (fun e2 : II (muN c kd sd (v.2.1 0) s) ≤ (9 : Int32) => z ((n_le (b := 9) (by omega) (by decide)).mp e2)), if_pos (show 0 + s + kLen 3 ≤ 700 from by show 0 + s + 1 ≤ 700; omega), show 0 + s + kLen 3 = s + 1 from by show 0 + s + 1 = s + 1; omega]
      refine ⟨_, tx_new hT (fc := kByt 3) ?_, rfl⟩
      rw [hch, if_neg z]
      rfl
theorem s_59 {g : LG} {K0 : Nat → Int32} {rec15 : LV → Int32 → Option Unit} {N c kd sd lm fu tb : Nat} {v : LV} (h : LW N v c kd sd lm fu tb) {v2 : Int32} : ∀ (n s t12n : Nat) (f t12f : Nat → Int32), s ≤ c → c - s < n → TXs c kd sd (v.2.1 0) s f →
    ∃ f', TXs c kd sd (v.2.1 0) c f' ∧ fL_law_59 g K0 rec15 n v v2 (II c) (II (cnt (fl (v.2.1 0)) s)) (II (tbN (v.2.1 0) s)) (II (clN (v.2.1 0) c s)) (II (lgN (v.2.1 0) c s)) (II (smN c kd sd (v.2.1 0) s)) (hdN c kd sd (v.2.1 0) s).1 (II (hdN c kd sd (v.2.1 0) s).2) s f t12n t12f (II s) = fL_law_555 g K0 rec15 65 v v2 (II c) (II (cnt (fl (v.2.1 0)) c)) (II (tbN (v.2.1 0) c)) (II (clN (v.2.1 0) c c)) (II (lgN (v.2.1 0) c c)) (II (smN c kd sd (v.2.1 0) c)) (hdN c kd sd (v.2.1 0) c).1 c f' (kLen 0) (kByt 0) (0 : Int32)
  | 0, s, _, _, _, _, hn, _ => by omega
  | n + 1, s, t12n, f, t12f, hs, hn, hT => by
    have hI := h.2.1
    have hc := hI.cok
    have h64 := hc.le
    rw [fL_law_59]
    by_cases e : c ≤ s
    · have e2 : s = c := by omega
      subst e2
      rw [if_pos ((n_le hc.lt hc.lt).mpr e)]
      exact ⟨f, hT, rfl⟩
    · have hsc : s < c := by omega
      rw [if_neg (fun e3 => e ((n_le hc.lt (by omega)).mp e3)), o_keyIn h hsc, ob, o_used h hsc]
      have h99 := s_99 (g := g) (K0 := K0) (rec15 := rec15) (rec59 := fL_law_59 g K0 rec15 n) h hsc s (kLen 0) f (kByt 0) (cnt (fl (v.2.1 0)) s) (tbN (v.2.1 0) s) (clN (v.2.1 0) c s) (v2 := v2) (v7 := II (lgN (v.2.1 0) c s)) (v8 := II (smN c kd sd (v.2.1 0) s)) (v9 := (hdN c kd sd (v.2.1 0) s).1) (v10 := II (hdN c kd sd (v.2.1 0) s).2)
      have h1 : cnt (fl (v.2.1 0)) s + (if fl (v.2.1 0) s = true then 1 else 0) = cnt (fl (v.2.1 0)) (s + 1) := rfl
      have h2 : tbN (v.2.1 0) s + (if decide ((v.2.1 0) s = -2) = true then 1 else 0) = tbN (v.2.1 0) (s + 1) := rfl
      have h3 : clN (v.2.1 0) c s + (if (w_u (v.2.1 0) c s && !w_u (v.2.1 0) c (s + c - 1)) = true then 1 else 0) = clN (v.2.1 0) c (s + 1) := rfl
      rw [h1, h2, h3] at h99
      obtain ⟨f1, hT1, q⟩ := s_319 (g := g) (K0 := K0) (rec15 := rec15) (rec59 := fL_law_59 g K0 rec15 n) h hsc hT (v2 := v2) (v4 := II (cnt (fl (v.2.1 0)) (s + 1))) (v5 := II (tbN (v.2.1 0) (s + 1))) (v6 := II (clN (v.2.1 0) c (s + 1))) (kLen 0) (kByt 0)
      obtain ⟨f2, hT2, q2⟩ := s_59 h n (s + 1) (kLen 0) f1 (kByt 0) (by omega) (by omega) hT1
      refine ⟨f2, hT2, ?_⟩
      refine Eq.trans ?_ ((h99.trans q).trans q2)
      cases w_k (v.2.1 0) s
      · exact if_neg (by decide)
      · exact if_pos rfl
