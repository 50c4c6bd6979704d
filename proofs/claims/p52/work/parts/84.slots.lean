/-! the law's loop over the slots -/
def lgN (K : Nat → Int32) (c : Nat) : Nat → Nat
  | 0 => 0
  | s + 1 => if lgN K c s < w_ar K c s then w_ar K c s else lgN K c s
def smN (c kd sd : Nat) (K : Nat → Int32) : Nat → Nat
  | 0 => 0
  | s + 1 => smN c kd sd K s + if fl K s = true then muN c kd sd K s else 0
def tbN (K : Nat → Int32) : Nat → Nat := cnt (fun t => decide (K t = -2))
/-- a slot's sign -/
def chN (c kd sd : Nat) (K : Nat → Int32) (s : Nat) : Int32 := if K s = -1 then 46 else if K s = -2 then 120 else if muN c kd sd K s ≤ 9 then II (48 + muN c kd sd K s) else 43
def TXs (c kd sd : Nat) (K : Nat → Int32) (s : Nat) (f : Nat → Int32) : Prop := ∀ i, i < s → f i = chN c kd sd K i
theorem s_rem1 {c s : Nat} (hc : cOK c) (hs : s < c) : hl_rem ((II s + II c) - (1 : Int32)) (II c) = II ((s + c - 1) % c) := by
  have h64 := hc.le
  rw [n_add, show II (s + c) - (1 : Int32) = II (s + c - 1) from n_sub (b := 1) (by omega), n_rem (by omega) (by omega)]
theorem s_rem2 {c p : Nat} (hc : cOK c) (hp : p < c) : hl_rem (II p + (1 : Int32)) (II c) = II ((p + 1) % c) := by
  have h64 := hc.le
  rw [show II p + (1 : Int32) = II (p + 1) from n_add p 1, n_rem (by omega) (by omega)]
theorem w_Gc {K : Nat → Int32} {c s : Nat} (hc : cOK c) : w_F K c s ≤ c ∧ w_G K c s ≤ c := by
  have h8 := hc.ge
  have h1 := (fi_spec (fun j => !w_u K c (s + j)) (c - 1) 1).2.1
  have h2 := (fi_spec (fun j => !w_u K c (s + c - j)) (c - 1) 1).2.1
  unfold w_F w_G
  omega
theorem w_ar_le {K : Nat → Int32} {c s : Nat} (hc : cOK c) : w_ar K c s ≤ 128 := by
  have h64 := hc.le
  have := w_Gc (K := K) (s := s) hc
  unfold w_ar
  split
  · omega
  · omega
theorem lgN_le {K : Nat → Int32} {c : Nat} (hc : cOK c) : ∀ s, lgN K c s ≤ 128
  | 0 => by
    unfold lgN
    omega
  | s + 1 => by
    have h1 := lgN_le (K := K) hc s
    have h2 := w_ar_le (K := K) (s := s) hc
    unfold lgN
    split
    · exact h2
    · exact h1
/-- forwards -/
theorem s_287 {g : LG} {K0 : Nat → Int32} {rec15 : LV → Int32 → Option Unit} {rec59 : LV → Int32 → Int32 → Int32 → Int32 → Int32 → Int32 → Int32 → Int32 → Int32 → Nat → (Nat → Int32) → Nat → (Nat → Int32) → Int32 → Option Unit} {N c kd sd lm fu tb s : Nat} {v : LV} (h : LW N v c kd sd lm fu tb) (hs : s < c) (hu : w_u (v.2.1 0) c s = true) {v2 v4 v5 v6 v7 v8 v9 v10 v14 v16 : Int32} : ∀ (n i t11n t12n : Nat) (t11f t12f : Nat → Int32), i ≤ w_F (v.2.1 0) c s + w_G (v.2.1 0) c s - 1 → w_F (v.2.1 0) c s + w_G (v.2.1 0) c s - 1 - i < n →
    fL_law_287 g K0 rec15 rec59 n v v2 (II c) v4 v5 v6 v7 v8 v9 v10 t11n t11f t12n t12f (II s) v14 (II i) v16 (II ((s + c - (w_G (v.2.1 0) c s - 1) + i) % c)) = fL_law_319 g K0 rec15 rec59 v v2 (II c) v4 v5 v6 v7 v8 v9 v10 t11n t11f (kLen 0) (kByt 0) (II s) v14 (II (w_F (v.2.1 0) c s + w_G (v.2.1 0) c s - 1)) v16
  | 0, i, _, _, _, _, _, hn => by omega
  | n + 1, i, t11n, t12n, t11f, t12f, hi, hn => by
    have hI := h.2.1
    have hc := hI.cok
    have h64 := hc.le
    have hF1 := w_F1 (K := (v.2.1 0)) (c := c) (s := s)
    have hG1 := w_G1 (K := (v.2.1 0)) (c := c) (s := s)
    have hFG := w_FG hc hI.wE hs hu
    have hFc := w_Fc hc hI.wE hs hu
    have hp : (s + c - (w_G (v.2.1 0) c s - 1) + i) % c < c := Nat.mod_lt _ (by omega)
    rw [fL_law_287, o_used h hp, show w_k (v.2.1 0) ((s + c - (w_G (v.2.1 0) c s - 1) + i) % c) = w_u (v.2.1 0) c (s + c - (w_G (v.2.1 0) c s - 1) + i) from rfl]
    by_cases e : i = w_F (v.2.1 0) c s + w_G (v.2.1 0) c s - 1
    · have hf : w_u (v.2.1 0) c (s + c - (w_G (v.2.1 0) c s - 1) + i) = false := by
        rw [show s + c - (w_G (v.2.1 0) c s - 1) + i = (s + w_F (v.2.1 0) c s) + c from by omega, w_per]
        exact w_Fat (by omega) hFc
      rw [hf, if_neg (by decide), e]
    · have ht : w_u (v.2.1 0) c (s + c - (w_G (v.2.1 0) c s - 1) + i) = true := by
        by_cases e1 : i < w_G (v.2.1 0) c s - 1
        · rw [show s + c - (w_G (v.2.1 0) c s - 1) + i = s + c - (w_G (v.2.1 0) c s - 1 - i) from by omega]
          exact w_Gb (by omega) (by omega)
        · by_cases e2 : i = w_G (v.2.1 0) c s - 1
          · rw [show s + c - (w_G (v.2.1 0) c s - 1) + i = s + c from by omega, w_per]
            exact hu
          · rw [show s + c - (w_G (v.2.1 0) c s - 1) + i = (s + (i - (w_G (v.2.1 0) c s - 1))) + c from by omega, w_per]
            exact w_Fb (by omega) (by omega)
      rw [ht, if_pos rfl]
      unfold fL_law_305
      rw [if_neg (c_ne0 hc), s_rem2 hc hp, show II i + (1 : Int32) = II (i + 1) from n_add i 1, show ((s + c - (w_G (v.2.1 0) c s - 1) + i) % c + 1) % c = (s + c - (w_G (v.2.1 0) c s - 1) + (i + 1)) % c from by rw [Nat.mod_add_mod]; rfl]
      exact s_287 h hs hu n (i + 1) _ _ _ _ (by omega) (by omega)
/-- backwards -/
theorem s_244 {g : LG} {K0 : Nat → Int32} {rec15 : LV → Int32 → Option Unit} {rec59 : LV → Int32 → Int32 → Int32 → Int32 → Int32 → Int32 → Int32 → Int32 → Int32 → Nat → (Nat → Int32) → Nat → (Nat → Int32) → Int32 → Option Unit} {N c kd sd lm fu tb s : Nat} {v : LV} (h : LW N v c kd sd lm fu tb) (hs : s < c) (hu : w_u (v.2.1 0) c s = true) {v2 v4 v5 v6 v7 v8 v9 v10 v14 v16 : Int32} : ∀ (n j t11n t12n : Nat) (t11f t12f : Nat → Int32), 1 ≤ j → j ≤ w_G (v.2.1 0) c s → w_G (v.2.1 0) c s - j < n →
    fL_law_244 g K0 rec15 rec59 n v v2 (II c) v4 v5 v6 v7 v8 v9 v10 t11n t11f t12n t12f (II s) v14 (II 0) v16 (II ((s + c - (j - 1)) % c)) = fL_law_319 g K0 rec15 rec59 v v2 (II c) v4 v5 v6 v7 v8 v9 v10 t11n t11f (kLen 0) (kByt 0) (II s) v14 (II (w_F (v.2.1 0) c s + w_G (v.2.1 0) c s - 1)) v16
  | 0, j, _, _, _, _, _, _, hn => by omega
  | n + 1, j, t11n, t12n, t11f, t12f, hj1, hj, hn => by
    have hI := h.2.1
    have hc := hI.cok
    have h64 := hc.le
    have hF1 := w_F1 (K := (v.2.1 0)) (c := c) (s := s)
    have hFG := w_FG hc hI.wE hs hu
    have hp : (s + c - (j - 1)) % c < c := Nat.mod_lt _ (by omega)
    have hq : (s + c - j) % c < c := Nat.mod_lt _ (by omega)
    have er : hl_rem ((II ((s + c - (j - 1)) % c) + II c) - (1 : Int32)) (II c) = II ((s + c - j) % c) := by
      rw [s_rem1 hc hp]
      refine congrArg II ?_
      rcases hc with rfl | rfl | rfl | rfl <;> omega
    rw [fL_law_244]
    unfold fL_law_274
    rw [if_neg (c_ne0 hc), if_neg (c_ne0 hc), if_neg (c_ne0 hc), er, o_used h hq, show w_k (v.2.1 0) ((s + c - j) % c) = w_u (v.2.1 0) c (s + c - j) from rfl]
    by_cases e : j = w_G (v.2.1 0) c s
    · rw [e, w_Gat (by omega) (by omega), if_neg (by decide)]
      have h287 := s_287 (g := g) (K0 := K0) (rec15 := rec15) (rec59 := rec59) h hs hu (v2 := v2) (v4 := v4) (v5 := v5) (v6 := v6) (v7 := v7) (v8 := v8) (v9 := v9) (v10 := v10) (v14 := v14) (v16 := v16) 66 0 t11n (kLen 0) t11f (kByt 0) (Nat.zero_le _) (by omega)
      rw [Nat.add_zero] at h287
      exact h287
    · rw [w_Gb hj1 (by omega), if_pos rfl]
      exact s_244 h hs hu n (j + 1) _ _ _ _ (by omega) (by omega) (by omega)
/-- the size of the cluster around a slot -/
theorem s_232 {g : LG} {K0 : Nat → Int32} {rec15 : LV → Int32 → Option Unit} {rec59 : LV → Int32 → Int32 → Int32 → Int32 → Int32 → Int32 → Int32 → Int32 → Int32 → Nat → (Nat → Int32) → Nat → (Nat → Int32) → Int32 → Option Unit} {N c kd sd lm fu tb s : Nat} {v : LV} (h : LW N v c kd sd lm fu tb) (hs : s < c) {v2 v4 v5 v6 v7 v8 v9 v10 v14 v16 : Int32} (t11n t12n : Nat) (t11f t12f : Nat → Int32) (k0 k1 : Int32) :
    fL_law_232 g K0 rec15 rec59 v v2 (II c) v4 v5 v7 v8 v9 v10 t11n t11f t12n t12f (II s) v14 (II 0) (bI (w_k (v.2.1 0) s)) k0 k1 = fL_law_319 g K0 rec15 rec59 v v2 (II c) v4 v5 (k1 + k0) v7 v8 v9 v10 t11n t11f (kLen 0) (kByt 0) (II s) v14 (II (w_ar (v.2.1 0) c s)) (bI (w_k (v.2.1 0) s)) := by
  have hc := h.2.1.cok
  have h64 := hc.le
  have huk : w_u (v.2.1 0) c s = w_k (v.2.1 0) s := w_uk hs
  unfold fL_law_232
  cases hu : w_k (v.2.1 0) s
  · have e : w_ar (v.2.1 0) c s = 0 := by
      unfold w_ar
      rw [huk, hu]
      exact if_neg (by decide)
    rw [if_pos (show bI false = 0 from rfl), e]
  · have hu2 : w_u (v.2.1 0) c s = true := huk.trans hu
    have e : w_ar (v.2.1 0) c s = w_F (v.2.1 0) c s + w_G (v.2.1 0) c s - 1 := by
      unfold w_ar
      rw [hu2]
      exact if_pos rfl
    have hG := (w_Gc (K := (v.2.1 0)) (s := s) hc).2
    have q := s_244 (g := g) (K0 := K0) (rec15 := rec15) (rec59 := rec59) h hs hu2 (v2 := v2) (v4 := v4) (v5 := v5) (v6 := k1 + k0) (v7 := v7) (v8 := v8) (v9 := v9) (v10 := v10) (v14 := v14) (v16 := bI true) 66 1 t11n (kLen 0) t11f (kByt 0) (Nat.le_refl _) w_G1 (by omega)
    rw [show (s + c - (1 - 1)) % c = s from by rw [show s + c - (1 - 1) = s + c from by omega, Nat.add_mod_right]; exact Nat.mod_eq_of_lt hs] at q
    rw [if_neg (show ¬ bI true = 0 by decide), e]
    exact q
theorem bI_add (a : Nat) (b : Bool) : II a + bI b = II (a + if b = true then 1 else 0) := by
  cases b
  · exact Int32.add_zero _
  · exact n_add a 1
/-- counts of a slot -/
theorem s_99 {g : LG} {K0 : Nat → Int32} {rec15 : LV → Int32 → Option Unit} {rec59 : LV → Int32 → Int32 → Int32 → Int32 → Int32 → Int32 → Int32 → Int32 → Int32 → Nat → (Nat → Int32) → Nat → (Nat → Int32) → Int32 → Option Unit} {N c kd sd lm fu tb s : Nat} {v : LV} (h : LW N v c kd sd lm fu tb) (hs : s < c) (t11n t12n : Nat) (t11f t12f : Nat → Int32) (a4 a5 a6 : Nat) {v2 v7 v8 v9 v10 : Int32} :
    fL_law_99 g K0 rec15 rec59 v v2 (II c) (II a4) (II a5) (II a6) v7 v8 v9 v10 t11n t11f t12n t12f (II s) (if fl (v.2.1 0) s = true then (v.2.1 0) s else -30000) (II 0) (bI (w_k (v.2.1 0) s)) = fL_law_319 g K0 rec15 rec59 v v2 (II c) (II (a4 + if fl (v.2.1 0) s = true then 1 else 0)) (II (a5 + if decide ((v.2.1 0) s = -2) = true then 1 else 0)) (II (a6 + if (w_u (v.2.1 0) c s && !w_u (v.2.1 0) c (s + c - 1)) = true then 1 else 0)) v7 v8 v9 v10 t11n t11f (kLen 0) (kByt 0) (II s) (if fl (v.2.1 0) s = true then (v.2.1 0) s else -30000) (II (w_ar (v.2.1 0) c s)) (bI (w_k (v.2.1 0) s)) := by
  have hc := h.2.1.cok
  have h64 := hc.le
  have hq : (s + c - 1) % c < c := Nat.mod_lt _ (by omega)
  have huk : w_u (v.2.1 0) c s = w_k (v.2.1 0) s := w_uk hs
  have hF := o_isFull h hs
  have hT := o_isTomb h hs
  have h0n : ¬ (0 : Int32) ≤ -30000 := by decide
  have h136 : ∀ b : Bool, fL_law_136 g K0 rec15 rec59 v v2 (II c) (II a4) (II a5) (II a6) v7 v8 v9 v10 t11n t11f (kLen 0) (kByt 0) (II s) (if fl (v.2.1 0) s = true then (v.2.1 0) s else -30000) (II 0) (bI (w_k (v.2.1 0) s)) (bI b) = fL_law_319 g K0 rec15 rec59 v v2 (II c) (II (a4 + if fl (v.2.1 0) s = true then 1 else 0)) (II (a5 + if decide ((v.2.1 0) s = -2) = true then 1 else 0)) (II (a6 + if (w_k (v.2.1 0) s && !b) = true then 1 else 0)) v7 v8 v9 v10 t11n t11f (kLen 0) (kByt 0) (II s) (if fl (v.2.1 0) s = true then (v.2.1 0) s else -30000) (II (w_ar (v.2.1 0) c s)) (bI (w_k (v.2.1 0) s)) := fun b => by
    have h232 := fun (x4 x5 k0 : Int32) => s_232 (g := g) (K0 := K0) (rec15 := rec15) (rec59 := rec59) h hs (v2 := v2) (v4 := x4) (v5 := x5) (v6 := v7) (v7 := v7) (v8 := v8) (v9 := v9) (v10 := v10) (v14 := if fl (v.2.1 0) s = true then (v.2.1 0) s else -30000) (v16 := v7) t11n (kLen 0) t11f (kByt 0) k0 (II a6)
    unfold fL_law_136 fL_law_156 fL_law_172 fL_law_193 fL_law_212
    rw [← bI_add, ← bI_add, ← bI_add]
    rcases h.2.1.kt s (by omega) with e | e | ⟨k, hk, e⟩
    · have g1 : fl (v.2.1 0) s = false := by unfold fl; rw [e]; rfl
      have g2 : w_k (v.2.1 0) s = false := by unfold w_k; rw [e]; rfl
      have g3 : decide ((v.2.1 0) s = -2) = false := by rw [e]; rfl
      rw [g1] at hF
      rw [g3] at hT
      rw [g1, g2] at h232
      rw [g1, g2, g3, hF, hT]
      exact h232 _ _ _
    · have g1 : fl (v.2.1 0) s = false := by unfold fl; rw [e]; rfl
      have g2 : w_k (v.2.1 0) s = true := by unfold w_k; rw [e]; rfl
      have g3 : decide ((v.2.1 0) s = -2) = true := by rw [e]; rfl
      rw [g1] at hF
      rw [g3] at hT
      rw [g1, g2] at h232
      rw [g1, g2, g3, hF, hT]
      cases b
      · exact h232 _ _ _
      · exact h232 _ _ _
    · have hk0 : (0 : Int32) ≤ II k := n_0le (by omega)
      have g1 : fl (v.2.1 0) s = true := by unfold fl; rw [e]; exact decide_eq_true hk0
      have g2 : w_k (v.2.1 0) s = true := by unfold w_k; rw [e]; exact decide_eq_true (n_ne1 (by omega))
      have g3 : decide ((v.2.1 0) s = -2) = false := by rw [e]; exact decide_eq_false (n_ne2 (by omega))
      rw [g1] at hF
      rw [g3] at hT
      rw [g1, g2, if_pos rfl] at h232
      rw [g1, g2, g3, hF, hT, if_pos (show (true = true) from rfl)]
      have hneg : ¬ (v.2.1 0) s < 0 := by rw [e]; exact n_nlt0 (by omega)
      show (if (v.2.1 0) s < 0 then _ else _) = _
      rw [if_neg hneg]
      cases b
      · exact h232 _ _ _
      · exact h232 _ _ _
  unfold fL_law_99
  rw [if_neg (c_ne0 hc), if_neg (c_ne0 hc), s_rem1 hc hs, o_used h hq, show w_k (v.2.1 0) ((s + c - 1) % c) = w_u (v.2.1 0) c (s + c - 1) from rfl, huk]
  cases hb : w_u (v.2.1 0) c (s + c - 1)
  · rw [if_neg (by decide)]
    exact h136 false
  · rw [if_pos rfl]
    exact h136 true
