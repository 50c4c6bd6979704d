/-! the states of both, side by side -/
theorem Inv.cong {c kd sd lm fu tb : Nat} {K V K' V' : Nat → Int32} (h : Inv c kd sd lm fu tb K V) (hk : ∀ s, s < 64 → K' s = K s) (hv : ∀ s, s < 64 → V' s = V s) : Inv c kd sd lm fu tb K' V' := by
  obtain ⟨a1, a2, a3, a4, a5, a6, a7, a8, a9, a10, a11, a12⟩ := h
  refine ⟨a1, a2, a3, a4, ?_, ?_, a7, fun s h1 h2 => ?_, fun s hs => ?_, fun s t hs ht h1 h2 => ?_, fun s k hs h1 h2 => ?_, fun s hs h1 => ?_⟩
  · rw [← a5]; exact cnt_cong (fun s hs => by rw [hk s hs])
  · rw [← a6]; exact cnt_cong (fun s hs => by rw [hk s hs])
  · rw [hk s h2]; exact a8 s h1 h2
  · rw [hk s hs]; exact a9 s hs
  · rw [hk s hs] at h1 h2
    rw [hk t ht] at h2
    exact a10 s t hs ht h1 h2
  · rw [hk s hs] at h2
    obtain ⟨i, hi, g1, g2⟩ := a11 s k hs h1 h2
    exact ⟨i, hi, g1, fun j hj => by rw [hk _ (sq_64 a1)]; exact g2 j hj⟩
  · rw [hk s hs] at h1
    rw [hv s hs]
    exact a12 s hs h1
theorem Rw.cong {o c kd sd lm fu tb : Nat} {K V K' V' mA : Nat → Int32} (h : Rw o c kd sd lm fu tb K V mA) (hk : ∀ s, s < 64 → K' s = K s) (hv : ∀ s, s < 64 → V' s = V s) : Rw o c kd sd lm fu tb K' V' mA :=
  ⟨h.1, h.2.1, h.2.2.1, h.2.2.2.1, h.2.2.2.2.1, h.2.2.2.2.2.1, fun s hs => by rw [hk s hs, hv s hs]; exact h.2.2.2.2.2.2 s hs⟩
theorem Rw.move {o o' c kd sd lm fu tb : Nat} {K V mA mA' : Nat → Int32} (h : Rw o c kd sd lm fu tb K V mA) (hm : ∀ i, i < 200 → mA' (o' + i) = mA (o + i)) : Rw o' c kd sd lm fu tb K V mA' := by
  obtain ⟨h0, h1, h2, h3, h4, h5, h6⟩ := h
  refine ⟨(hm 0 (by omega)).trans h0, (hm 1 (by omega)).trans h1, (hm 2 (by omega)).trans h2, (hm 3 (by omega)).trans h3, (hm 4 (by omega)).trans h4, (hm 5 (by omega)).trans h5, fun s hs => ?_⟩
  have e8 := hm (8 + 3 * s) (by omega)
  have e9 := hm (9 + 3 * s) (by omega)
  have e10 := hm (10 + 3 * s) (by omega)
  rw [← Nat.add_assoc, ← Nat.add_assoc] at e8 e9 e10
  rw [e8, e9, e10]
  exact h6 s hs
def TR (o : Nat) (mA : Nat → Int32) (cp kd sd lm fu tb rb gr : Int32) (K V : Nat → Int32) : Prop := ∃ c' kd' sd' lm' fu' tb' : Nat, (cp = II c' ∧ kd = II kd' ∧ sd = II sd' ∧ lm = II lm' ∧ fu = II fu' ∧ tb = II tb') ∧ Inv c' kd' sd' lm' fu' tb' K V ∧ Rw o c' kd' sd' lm' fu' tb' K V mA ∧ mA (o + 6) = rb ∧ mA (o + 7) = gr
def TRh (o : Nat) (mA : Nat → Int32) (q : hTT) : Prop := TR o mA q.2.2.2.2.1 q.2.2.2.2.2.1 q.2.2.2.2.2.2.1 q.2.2.2.2.2.2.2.1 q.2.2.2.2.2.2.2.2.1 q.2.2.2.2.2.2.2.2.2.1 q.2.2.2.2.2.2.2.2.2.2.1 q.2.2.2.2.2.2.2.2.2.2.2 q.1 q.2.1
theorem TR.move {o o' : Nat} {mA mA' K V : Nat → Int32} {cp kd sd lm fu tb rb gr : Int32} (h : TR o mA cp kd sd lm fu tb rb gr K V) (hm : ∀ i, i < 200 → mA' (o' + i) = mA (o + i)) : TR o' mA' cp kd sd lm fu tb rb gr K V := by
  obtain ⟨c', kd', sd', lm', fu', tb', e, h1, h2, h3, h4⟩ := h
  exact ⟨c', kd', sd', lm', fu', tb', e, h1, h2.move hm, (hm 6 (by omega)).trans h3, (hm 7 (by omega)).trans h4⟩
theorem TR.cong {o : Nat} {mA K V K' V' : Nat → Int32} {cp kd sd lm fu tb rb gr : Int32} (h : TR o mA cp kd sd lm fu tb rb gr K V) (hk : ∀ s, s < 64 → K' s = K s) (hv : ∀ s, s < 64 → V' s = V s) : TR o mA cp kd sd lm fu tb rb gr K' V' := by
  obtain ⟨c', kd', sd', lm', fu', tb', e, h1, h2, h3, h4⟩ := h
  exact ⟨c', kd', sd', lm', fu', tb', e, h1.cong hk hv, h2.cong hk hv, h3, h4⟩
def HR (mA : Nat → Int32) (mch hnw hct : Int32) (hp : Nat → hTT) : Prop := ∃ n k : Nat, n < 8 ∧ k ≤ 8 ∧ hnw = II n ∧ hct = II k ∧ mch = II k ∧ ∀ j, j < k → TRh (200 * (k - j)) mA (hp ((n + 8 - j) % 8))
theorem HR.move {mA mA' : Nat → Int32} {mch hnw hct : Int32} {hp : Nat → hTT} (h : HR mA mch hnw hct hp) (hm : ∀ i, 200 ≤ i → i < 1800 → mA' i = mA i) : HR mA' mch hnw hct hp := by
  obtain ⟨n, k, hn, hk, e1, e2, e3, h1⟩ := h
  exact ⟨n, k, hn, hk, e1, e2, e3, fun j hj => TR.move (h1 j hj) (fun i hi => hm _ (by omega) (by omega))⟩
/-- rows moved down by one, 1 to v - 1 -/
def shR (m : Nat → Int32) (v : Nat) : Nat → Int32 := fun j => if 200 ≤ j ∧ j < 200 * v then m (j + 200) else m j
theorem r_ends_51 {mth mch mre : Int32} {m : Nat → Int32} : ∀ n v, 1 ≤ v → v ≤ 8 → 8 - v < n → fX7_ends_51 n mth mch mre (shR m v) (II v) = fX7_ends_84 mth (mch - (1 : Int32)) mre (shR m 8)
  | 0, v, _, _, hn => by omega
  | n + 1, v, h1, h2, hn => by
    unfold fX7_ends_51
    by_cases h : 8 ≤ v
    · have e : v = 8 := by omega
      subst e
      rw [if_pos (by decide)]
    · rw [if_neg (fun e : (8 : Int32) ≤ II v => h ((n_le (a := 8) (by decide) (by omega)).mp e)), show II v + (1 : Int32) = II (v + 1) from n_add v 1, r_copies (shR m v) (by omega) (by omega) (by omega), ob,
        show cpR (shR m v) (v + 1) v = shR m (v + 1) from funext fun j => by
          unfold cpR
          by_cases e : 200 * v ≤ j ∧ j < 200 * v + 200
          · rw [if_pos e]
            unfold shR
            rw [if_neg (by omega), if_pos (by omega)]
            exact congrArg m (by omega)
          · rw [if_neg e]
            unfold shR
            by_cases e2 : 200 ≤ j ∧ j < 200 * v
            · rw [if_pos e2, if_pos (by omega)]
            · rw [if_neg e2, if_neg (by omega)]]
      exact r_ends_51 n (v + 1) (by omega) (by omega) (by omega)
theorem r_endsF {mth mch mre k0 : Int32} {m : Nat → Int32} (h : k0 ≠ 0) : fX7_ends_20 mth mch mre m k0 = some (0, k0, mch, cpR m 10 0) := by
  unfold fX7_ends_20
  rw [if_neg h, show fX7_copies m (10 : Int32) (0 : Int32) = some (cpR m 10 0) from r_copies (a := 10) (b := 0) m (by omega) (by omega) (by omega), ob]
theorem r_begins (m : Nat → Int32) : fX7_begins m = some (cpR m 0 10) := by
  unfold fX7_begins
  rw [show fX7_copies m (0 : Int32) (10 : Int32) = some (cpR m 0 10) from r_copies (a := 0) (b := 10) m (by omega) (by omega) (by omega), ob]
theorem c_copyFrom (a1 a2 a3 a4 a5 a6 a7 a8 : Int32) (K V : Nat → Int32) (b1 b2 b3 b4 b5 b6 b7 b8 : Int32) (K' V' : Nat → Int32) : fX5_copyFrom a1 a2 a3 a4 a5 a6 a7 a8 K V b1 b2 b3 b4 b5 b6 b7 b8 K' V' = some (b1, b2, b3, b4, b5, b6, b7, b8, va_cpy K' K 0 0 64, va_cpy V' V 0 0 64) := rfl
/-- a change is recorded -/
theorem b_change {mA : Nat → Int32} {mch hnw hct : Int32} {hp : Nat → hTT} (h : HR mA mch hnw hct hp) (cp kd sd lm fu tb rb gr : Int32) (K V : Nat → Int32) :
    ∃ hnw' hct' hp' mch', fX2_record hnw hct cp kd sd lm fu tb rb gr K V hp = some (hnw', hct', hp') ∧
      ∀ (m1 : Nat → Int32), (∀ i, 200 ≤ i → i < 1800 → m1 i = mA i) → TR 2000 m1 cp kd sd lm fu tb rb gr K V →
        ∃ m2, (∀ mth mre : Int32, fX7_ends_20 mth mch mre m1 0 = some (mre, 0, mch', m2)) ∧ HR m2 mch' hnw' hct' hp' ∧ ∀ i, i < 200 ∨ 1800 ≤ i → m2 i = m1 i := by
  obtain ⟨n, k, hn, hk, rfl, rfl, rfl, h1⟩ := h
  have hrec : ∀ n', n' < 8 → fX2_record_22 (II n) (II k) cp kd sd lm fu tb rb gr K V hp (II n') = some (II n', II (min 8 (k + 1)), va_up hp n' (va_cpy K (hp n').1 0 0 64, va_cpy V (hp n').2.1 0 0 64, (hp n').2.2.1, (hp n').2.2.2.1, cp, kd, sd, lm, fu, tb, rb, gr)) := fun n' hn' => by
    unfold fX2_record_22
    rw [if_pos (n_in (by omega) hn'), n_cl (by omega), c_copyFrom, ob, show II k + (1 : Int32) = II (k + 1) from n_add k 1]
    by_cases e : k = 8
    · subst e
      rw [if_pos (by decide)]
      rfl
    · rw [if_neg (fun e2 : (8 : Int32) < II (k + 1) => by have := (n_lt (a := 8) (by decide) (by omega)).mp e2; omega), show min 8 (k + 1) = k + 1 from by omega]
  have hrec2 : fX2_record (II n) (II k) cp kd sd lm fu tb rb gr K V hp = some (II ((n + 1) % 8), II (min 8 (k + 1)), va_up hp ((n + 1) % 8) (va_cpy K (hp ((n + 1) % 8)).1 0 0 64, va_cpy V (hp ((n + 1) % 8)).2.1 0 0 64, (hp ((n + 1) % 8)).2.2.1, (hp ((n + 1) % 8)).2.2.2.1, cp, kd, sd, lm, fu, tb, rb, gr)) := by
    unfold fX2_record
    rw [show II n + (1 : Int32) = II (n + 1) from n_add n 1]
    by_cases e : n = 7
    · subst e
      rw [if_pos (by decide)]
      exact hrec 0 (by omega)
    · rw [if_neg (fun e2 : (8 : Int32) ≤ II (n + 1) => by have := (n_le (a := 8) (by decide) (by omega)).mp e2; omega), show (n + 1) % 8 = n + 1 from by omega]
      exact hrec (n + 1) (by omega)
  refine ⟨_, _, _, II (min 8 (k + 1)), hrec2, fun m1 hm hT => ?_⟩
  have hnew : ∀ (m2 : Nat → Int32), (∀ i, i < 200 → m2 (200 * (min 8 (k + 1)) + i) = m1 (2000 + i)) → (∀ j, j < k → j + 1 < 8 → ∀ i, i < 200 → m2 (200 * (min 8 (k + 1) - (j + 1)) + i) = mA (200 * (k - j) + i)) →
      HR m2 (II (min 8 (k + 1))) (II ((n + 1) % 8)) (II (min 8 (k + 1))) (va_up hp ((n + 1) % 8) (va_cpy K (hp ((n + 1) % 8)).1 0 0 64, va_cpy V (hp ((n + 1) % 8)).2.1 0 0 64, (hp ((n + 1) % 8)).2.2.1, (hp ((n + 1) % 8)).2.2.2.1, cp, kd, sd, lm, fu, tb, rb, gr)) := fun m2 g1 g2 => by
    refine ⟨(n + 1) % 8, min 8 (k + 1), by omega, by omega, rfl, rfl, rfl, fun j hj => ?_⟩
    cases j with
    | zero =>
      rw [show ((n + 1) % 8 + 8 - 0) % 8 = (n + 1) % 8 from by omega]
      unfold va_up
      rw [if_pos rfl]
      exact TR.cong (TR.move hT (fun i hi => g1 i hi)) (fun s hs => cpy_at hs) (fun s hs => cpy_at hs)
    | succ j =>
      rw [show ((n + 1) % 8 + 8 - (j + 1)) % 8 = (n + 8 - j) % 8 from by omega]
      unfold va_up
      rw [if_neg (by omega)]
      exact TR.move (h1 j (by omega)) (fun i hi => g2 j (by omega) (by omega) i hi)
  by_cases e : k = 8
  · subst e
    have hsh : ∀ mth mre, fX7_ends_20 mth (II 8) mre m1 0 = some (mre, 0, II 8, cpR (shR m1 8) 10 8) := fun mth mre => by
      unfold fX7_ends_20
      have h0 := r_ends_51 (mth := 0) (mch := II 8) (mre := mre) (m := m1) 1000 1 (by omega) (by omega) (by omega)
      rw [show shR m1 1 = m1 from funext fun j => if_neg (by omega)] at h0
      rw [if_pos rfl, if_pos (by decide)]
      refine h0.trans ?_
      unfold fX7_ends_84
      rw [show (II 8 - (1 : Int32)) + (1 : Int32) = II 8 from by decide, show fX7_copies (shR m1 8) (10 : Int32) (II 8) = some (cpR (shR m1 8) 10 8) from r_copies (a := 10) (b := 8) _ (by omega) (by omega) (by omega), ob]
    have s1 : ∀ j, j < 1600 → 200 ≤ j → shR m1 8 j = m1 (j + 200) := fun j a b => if_pos (by omega)
    have s2 : ∀ j, (j < 200 ∨ 1600 ≤ j) → shR m1 8 j = m1 j := fun j a => if_neg (by omega)
    refine ⟨_, fun mth mre => hsh mth mre, hnew _ (fun i hi => ?_) (fun j hj hj2 i hi => ?_), fun i hi => ?_⟩
    · rw [show 200 * min 8 (8 + 1) + i = 200 * 8 + i from by omega, cpR_in hi, s2 _ (by omega)]
    · rw [cpR_out (by omega), s1 _ (by omega) (by omega), show 200 * (min 8 (8 + 1) - (j + 1)) + i + 200 = 200 * (8 - j) + i from by omega]
      exact hm _ (by omega) (by omega)
    · rw [cpR_out (by omega), s2 _ (by omega)]
  · have hmin : min 8 (k + 1) = k + 1 := by omega
    rw [hmin] at hnew ⊢
    refine ⟨cpR m1 10 (k + 1), fun mth mre => ?_, hnew _ (fun i hi => cpR_in hi) (fun j hj hj2 i hi => ?_), fun i hi => cpR_out (by omega)⟩
    · unfold fX7_ends_20
      rw [if_pos rfl, if_neg (fun e2 : II k = (8 : Int32) => e ((n_eq (b := 8) (by omega) (by decide)).mp e2))]
      unfold fX7_ends_84
      rw [show II k + (1 : Int32) = II (k + 1) from n_add k 1, show fX7_copies m1 (10 : Int32) (II (k + 1)) = some (cpR m1 10 (k + 1)) from r_copies (a := 10) (b := k + 1) _ (by omega) (by omega) (by omega), ob]
    · rw [cpR_out (by omega), show 200 * (k + 1 - (j + 1)) + i = 200 * (k - j) + i from by omega]
      exact hm _ (by omega) (by omega)
