/-! the law's loop over the keys -/
theorem cnt_imp {p q : Nat → Bool} : ∀ n, (∀ k, k < n → p k = true → q k = true) → cnt p n ≤ cnt q n
  | 0, _ => Nat.le_refl _
  | n + 1, h => by
    have ih := cnt_imp n (fun k hk => h k (by omega))
    have h1 := h n (by omega)
    rw [cnt_s, cnt_s]
    cases hp : p n
    · rw [if_neg (show ¬ false = true by decide)]
      omega
    · rw [h1 hp]
      omega
theorem rk_mono {K : Nat → Int32} {c : Nat} {x y : Int32} (h : x ≤ y) : rk K c x ≤ rk K c y := cnt_imp c (fun s _ h1 => by
  rw [Bool.and_eq_true] at h1 ⊢
  exact ⟨h1.1, decide_eq_true (i_lt_le (of_decide_eq_true h1.2) h)⟩)
theorem tcat_z {f : Nat → Int32} (i : Nat) : tcat 0 (fun _ => 0) f i = f i := if_neg (Nat.not_lt_zero _)
theorem o_keyAt2 {N c kd sd lm fu tb : Nat} {v : LV} (h : LW N v c kd sd lm fu tb) {j : Nat} (hj : j < fu) : gl_keyAt v (II j) = some (.inl ((v.2.1 0) (ksN (v.2.1 0) c j))) := by
  obtain ⟨s, hs1, hs0, hrk, q⟩ := o_keyAt h hj
  rw [ksN_is h.2.1 hs1 hs0 hrk]
  exact q
theorem v_590 {g : LG} {K0 : Nat → Int32} {rec15 : LV → Int32 → Option Unit} {rec555 : LV → Int32 → Int32 → Int32 → Int32 → Int32 → Int32 → Int32 → Int32 → Nat → (Nat → Int32) → Nat → (Nat → Int32) → Int32 → Option Unit} {N c kd sd lm fu tb : Nat} {v : LV} (h : LW N v c kd sd lm fu tb) {j t11n : Nat} {t11f f : Nat → Int32} {v2 v3 v4 v5 v6 v7 v8 v9 : Int32} (hj : j < fu) (hF : ∀ i, i < kyN (v.2.1 0) (v.2.1 1) c j → f i = kyF (v.2.1 0) (v.2.1 1) c j i) :
    ∃ f', (∀ i, i < kyN (v.2.1 0) (v.2.1 1) c (j + 1) → f' i = kyF (v.2.1 0) (v.2.1 1) c (j + 1) i) ∧ fL_law_590 g K0 rec15 rec555 v v2 v3 v4 v5 v6 v7 v8 v9 t11n t11f (kyN (v.2.1 0) (v.2.1 1) c j) f (II j) ((v.2.1 0) (ksN (v.2.1 0) c j)) = rec555 v v2 v3 v4 v5 v6 v7 v8 v9 t11n t11f (kyN (v.2.1 0) (v.2.1 1) c (j + 1)) f' (II (j + 1)) := by
  have hI := h.2.1
  have h64 := hI.cok.le
  have hft := hI.ft
  have hkn := kyN_le hI j (by omega)
  obtain ⟨k, hk, hs1, ek, hrk, hh, v1, v2'⟩ := y_at hI hj
  have l0 : kLen 0 = 0 := rfl
  have l4 : kLen 4 = 1 := rfl
  have l5 : kLen 5 = 1 := rfl
  have l2 : nLen ((v.2.1 0) (ksN (v.2.1 0) c j)) ≤ 4 := by rw [ek]; exact y_klen hk
  have l3 : nLen ((v.2.1 1) (ksN (v.2.1 0) c j)) ≤ 4 := y_vlen v1 v2'
  have hok : numOK ((v.2.1 0) (ksN (v.2.1 0) c j)) := by
    rw [ek]
    exact ⟨Int32.le_trans (by decide) (n_0le (by omega)), (n_le (b := 9999) (by omega) (by decide)).mpr hk⟩
  have hokv : numOK ((v.2.1 1) (ksN (v.2.1 0) c j)) := ⟨v1, Int32.le_trans v2' (by decide)⟩
  have ej : II j + (1 : Int32) = II (j + 1) := n_add j 1
  have hget : gl_get v ((v.2.1 0) (ksN (v.2.1 0) c j)) = some (.inl ((v.2.1 1) (ksN (v.2.1 0) c j))) := by
    rw [ek, o_get h hk, hh, if_pos ek]
  unfold fL_law_590
  rw [Nat.zero_add, if_pos (show kyN (v.2.1 0) (v.2.1 1) c j ≤ 700 from by omega)]
  by_cases hj0 : j = 0
  · have hsp : spN j = 0 := if_pos hj0
    rw [if_pos (show II j ≤ (0 : Int32) from (n_le (b := 0) (by omega) (by decide)).mpr (by omega))]
    rw [if_pos (show kyN (v.2.1 0) (v.2.1 1) c j + kLen 0 ≤ 700 from by omega), if_pos (show kyN (v.2.1 0) (v.2.1 1) c j + kLen 0 + nLen ((v.2.1 0) (ksN (v.2.1 0) c j)) ≤ 700 ∧ numOK ((v.2.1 0) (ksN (v.2.1 0) c j)) from ⟨by omega, hok⟩), if_pos (show kyN (v.2.1 0) (v.2.1 1) c j + kLen 0 + nLen ((v.2.1 0) (ksN (v.2.1 0) c j)) + kLen 5 ≤ 700 from by omega), hget, ob, o_iD, if_pos (show kyN (v.2.1 0) (v.2.1 1) c j + kLen 0 + nLen ((v.2.1 0) (ksN (v.2.1 0) c j)) + kLen 5 + nLen ((v.2.1 1) (ksN (v.2.1 0) c j)) ≤ 700 ∧ numOK ((v.2.1 1) (ksN (v.2.1 0) c j)) from ⟨by omega, hokv⟩), ej]
    have hk1 : kyN (v.2.1 0) (v.2.1 1) c (j + 1) = kyN (v.2.1 0) (v.2.1 1) c j + kLen 0 + nLen ((v.2.1 0) (ksN (v.2.1 0) c j)) + kLen 5 + nLen ((v.2.1 1) (ksN (v.2.1 0) c j)) := by rw [kyN, hsp]
    rw [hk1]
    refine ⟨_, ?_, rfl⟩
    intro i hi
    rw [kyF, hsp]
    exact tcat_eq (tcat_eq (tcat_eq (tcat_eq (fun i hi => (tcat_z i).trans (hF i hi)) (fun _ _ => rfl)) (fun _ _ => rfl)) (fun _ _ => rfl)) (fun _ _ => rfl) i hi
  · have hsp : spN j = 4 := if_neg hj0
    rw [if_neg (show ¬ II j ≤ (0 : Int32) from fun e9 => hj0 (by have := (n_le (b := 0) (by omega) (by decide)).mp e9; omega))]
    rw [if_pos (show kyN (v.2.1 0) (v.2.1 1) c j + kLen 4 ≤ 700 from by omega), if_pos (show kyN (v.2.1 0) (v.2.1 1) c j + kLen 4 + nLen ((v.2.1 0) (ksN (v.2.1 0) c j)) ≤ 700 ∧ numOK ((v.2.1 0) (ksN (v.2.1 0) c j)) from ⟨by omega, hok⟩), if_pos (show kyN (v.2.1 0) (v.2.1 1) c j + kLen 4 + nLen ((v.2.1 0) (ksN (v.2.1 0) c j)) + kLen 5 ≤ 700 from by omega), hget, ob, o_iD, if_pos (show kyN (v.2.1 0) (v.2.1 1) c j + kLen 4 + nLen ((v.2.1 0) (ksN (v.2.1 0) c j)) + kLen 5 + nLen ((v.2.1 1) (ksN (v.2.1 0) c j)) ≤ 700 ∧ numOK ((v.2.1 1) (ksN (v.2.1 0) c j)) from ⟨by omega, hokv⟩), ej]
    have hk1 : kyN (v.2.1 0) (v.2.1 1) c (j + 1) = kyN (v.2.1 0) (v.2.1 1) c j + kLen 4 + nLen ((v.2.1 0) (ksN (v.2.1 0) c j)) + kLen 5 + nLen ((v.2.1 1) (ksN (v.2.1 0) c j)) := by rw [kyN, hsp]
    rw [hk1]
    refine ⟨_, ?_, rfl⟩
    intro i hi
    rw [kyF, hsp]
    exact tcat_eq (tcat_eq (tcat_eq (tcat_eq (fun i hi => (tcat_z i).trans (hF i hi)) (fun _ _ => rfl)) (fun _ _ => rfl)) (fun _ _ => rfl)) (fun _ _ => rfl) i hi
theorem v_555 {g : LG} {K0 : Nat → Int32} {rec15 : LV → Int32 → Option Unit} {N c kd sd lm fu tb : Nat} {v : LV} (h : LW N v c kd sd lm fu tb) {t11n : Nat} {t11f : Nat → Int32} {v2 v3 v5 v6 v7 v8 v9 : Int32} : ∀ (n j : Nat) (f : Nat → Int32), j ≤ fu → fu - j < n → (∀ i, i < kyN (v.2.1 0) (v.2.1 1) c j → f i = kyF (v.2.1 0) (v.2.1 1) c j i) →
    ∃ f', (∀ i, i < kyN (v.2.1 0) (v.2.1 1) c fu → f' i = kyF (v.2.1 0) (v.2.1 1) c fu i) ∧ fL_law_555 g K0 rec15 n v v2 v3 (II fu) v5 v6 v7 v8 v9 t11n t11f (kyN (v.2.1 0) (v.2.1 1) c j) f (II j) = fL_law_650 g K0 rec15 7 v v2 v3 (II fu) v5 v6 v7 v8 v9 t11n t11f (kyN (v.2.1 0) (v.2.1 1) c fu) f' (0 : Int32)
  | 0, j, _, _, hn, _ => by omega
  | n + 1, j, f, hj, hn, hF => by
    have hI := h.2.1
    have h64 := hI.cok.le
    have hft := hI.ft
    rw [fL_law_555]
    by_cases e : fu ≤ j
    · have e2 : j = fu := by omega
      subst e2
      rw [if_pos ((n_le (by omega) (by omega)).mpr e)]
      exact ⟨f, hF, rfl⟩
    · obtain ⟨f1, hF1, q1⟩ := v_590 (g := g) (K0 := K0) (rec15 := rec15) (rec555 := fL_law_555 g K0 rec15 n) h (j := j) (t11n := t11n) (t11f := t11f) (v2 := v2) (v3 := v3) (v4 := II fu) (v5 := v5) (v6 := v6) (v7 := v7) (v8 := v8) (v9 := v9) (by omega) hF
      obtain ⟨f2, hF2, q2⟩ := v_555 (g := g) (K0 := K0) (rec15 := rec15) h (t11n := t11n) (t11f := t11f) (v2 := v2) (v3 := v3) (v5 := v5) (v6 := v6) (v7 := v7) (v8 := v8) (v9 := v9) n (j + 1) f1 (by omega) (by omega) hF1
      refine ⟨f2, hF2, ?_⟩
      rw [if_neg (fun e3 => e ((n_le (by omega) (by omega)).mp e3)), o_keyAt2 h (by omega), ob, o_iD]
      by_cases hj0 : j = 0
      · rw [if_pos (show II j ≤ (0 : Int32) from (n_le (b := 0) (by omega) (by decide)).mpr (by omega))]
        exact q1.trans q2
      · obtain ⟨k1, -, hs1, ek1, hrk1, -, -, -⟩ := y_at hI (j := j) (by omega)
        obtain ⟨k2, -, hs2, ek2, hrk2, -, -, -⟩ := y_at hI (j := j - 1) (by omega)
        have hlt : (v.2.1 0) (ksN (v.2.1 0) c (j - 1)) < (v.2.1 0) (ksN (v.2.1 0) c j) := by
          refine i_nle.mp (fun e5 => ?_)
          have := rk_mono (K := (v.2.1 0)) (c := c) e5
          omega
        rw [if_neg (show ¬ II j ≤ (0 : Int32) from fun e9 => hj0 (by have := (n_le (b := 0) (by omega) (by decide)).mp e9; omega)), show II j - (1 : Int32) = II (j - 1) from n_sub (b := 1) (by omega), o_keyAt2 h (by omega), ob, o_iD, if_pos hlt]
        exact q1.trans q2
