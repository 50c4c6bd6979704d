/-! the output line's two texts -/
theorem y_step {n j : Nat} {lS f g : Nat → Int32} {x : Int32} (h : ∀ i, i < n + j → f i = tcat n lS g i) (e : x = g j) : ∀ i, i < n + (j + 1) → upd f (n + j) x i = tcat n lS g i := fun i hi => by
  by_cases e1 : i = n + j
  · rw [e1, upd_at, tcat_hi]
    exact e
  · rw [upd_ne e1]
    exact h i (by omega)
theorem y_base {n : Nat} (lS g : Nat → Int32) : ∀ i, i < n + 0 → lS i = tcat n lS g i := fun i hi => (tcat_lo hi).symm
theorem y_nar : ∀ d, d < 10 → vp_nar .char (hl_c ((48 : Int32) + II d)) = II (48 + d) ∧ hl_nar .char (hl_c ((48 : Int32) + II d)) = true ∧ hl_nar .char (II (48 + d)) = true := by decide +kernel
theorem y_dd {a L : Nat} (h : dl a = L) (j : Nat) : dd a j = II (48 + a / 10 ^ (L - 1 - j) % 10) := by
  unfold dd
  rw [h]
theorem y_x {a : Nat} (x : Nat) : vp_nar .char (hl_c ((48 : Int32) + II (a / x % 10))) = II (48 + a / x % 10) := (y_nar _ (Nat.mod_lt _ (by omega))).1
theorem y_num {n a : Nat} (lS : Nat → Int32) (hn : n + 4 ≤ 640) (ha : a ≤ 9999) : ∃ lS', fX3_addNumber_10 (II n) lS (II a) = some (II (n + dl a), lS') ∧ ∀ i, i < n + dl a → lS' i = tcat n lS (dd a) i := by
  have e1000 : fX3_addNumber_10 (II n) lS (II a) = fX3_addNumber_19 1000 (II n) lS (II a) (II 1000) := by
    unfold fX3_addNumber_10
    rw [if_pos (n_0le (by omega))]
    rfl
  rw [e1000]
  by_cases h1 : a ≤ 9
  · have hd : dl a = 1 := by
      unfold dl
      rw [if_pos (by omega)]
    rw [hd, c_add19 lS ha (by omega) (by omega), if_neg (by omega), c_add19 lS ha (by omega) (by omega), if_neg (by omega), c_add19 lS ha (by omega) (by omega), if_neg (by omega), c_add19 lS ha (by omega) (by omega), if_pos (by omega), c_dig (by omega) lS ha (by omega) (by omega), c_add0]
    exact ⟨_, rfl, y_step (y_base lS (dd a)) ((y_x _).trans (y_dd hd 0).symm)⟩
  · by_cases h2 : a ≤ 99
    · have hd : dl a = 2 := by
        unfold dl
        rw [if_neg (by omega), if_pos (by omega)]
      rw [hd, c_add19 lS ha (by omega) (by omega), if_neg (by omega), c_add19 lS ha (by omega) (by omega), if_neg (by omega), c_add19 lS ha (by omega) (by omega), if_pos (by omega), c_dig (by omega) lS ha (by omega) (by omega), c_add19 _ ha (by omega) (by omega), if_pos (by omega), c_dig (by omega) _ ha (by omega) (by omega), c_add0]
      exact ⟨_, rfl, y_step (y_step (y_base lS (dd a)) ((y_x _).trans (y_dd hd 0).symm)) ((y_x _).trans (y_dd hd 1).symm)⟩
    · by_cases h3 : a ≤ 999
      · have hd : dl a = 3 := by
          unfold dl
          rw [if_neg (by omega), if_neg (by omega), if_pos (by omega)]
        rw [hd, c_add19 lS ha (by omega) (by omega), if_neg (by omega), c_add19 lS ha (by omega) (by omega), if_pos (by omega), c_dig (by omega) lS ha (by omega) (by omega), c_add19 _ ha (by omega) (by omega), if_pos (by omega), c_dig (by omega) _ ha (by omega) (by omega), c_add19 _ ha (by omega) (by omega), if_pos (by omega), c_dig (by omega) _ ha (by omega) (by omega), c_add0]
        exact ⟨_, rfl, y_step (y_step (y_step (y_base lS (dd a)) ((y_x _).trans (y_dd hd 0).symm)) ((y_x _).trans (y_dd hd 1).symm)) ((y_x _).trans (y_dd hd 2).symm)⟩
      · have hd : dl a = 4 := by
          unfold dl
          rw [if_neg (by omega), if_neg (by omega), if_neg (by omega)]
        rw [hd, c_add19 lS ha (by omega) (by omega), if_pos (by omega), c_dig (by omega) lS ha (by omega) (by omega), c_add19 _ ha (by omega) (by omega), if_pos (by omega), c_dig (by omega) _ ha (by omega) (by omega), c_add19 _ ha (by omega) (by omega), if_pos (by omega), c_dig (by omega) _ ha (by omega) (by omega), c_add19 _ ha (by omega) (by omega), if_pos (by omega), c_dig (by omega) _ ha (by omega) (by omega), c_add0]
        exact ⟨_, rfl, y_step (y_step (y_step (y_step (y_base lS (dd a)) ((y_x _).trans (y_dd hd 0).symm)) ((y_x _).trans (y_dd hd 1).symm)) ((y_x _).trans (y_dd hd 2).symm)) ((y_x _).trans (y_dd hd 3).symm)⟩
theorem y_pos {a : Nat} (ha : a ≤ 9999) : nLen (II a) = dl a ∧ nDig (II a) = dd a := by
  have h0 : (0 : Int32) ≤ II a := n_0le (by omega)
  have hA : nAb (II a) = a := by
    unfold nAb
    rw [if_pos h0, n_cl (by omega)]
  unfold nLen nDig
  rw [if_pos h0, if_pos h0, hA]
  exact ⟨rfl, rfl⟩
theorem y_neg {a : Nat} (ha : a ≤ 999) (h0 : ¬ (0 : Int32) ≤ -(II a)) : nLen (-(II a)) = dl a + 1 ∧ nDig (-(II a)) = fun j => if j = 0 then 45 else dd a (j - 1) := by
  have hA : nAb (-(II a)) = a := by
    unfold nAb
    rw [if_neg h0, Int32.neg_neg, n_cl (by omega)]
  unfold nLen nDig
  rw [if_neg h0, if_neg h0, hA]
  exact ⟨rfl, rfl⟩
theorem y_45 : vp_nar .char (45 : Int32) = 45 ∧ vp_nar .char (61 : Int32) = 61 ∧ vp_nar .char (44 : Int32) = 44 ∧ vp_nar .char (46 : Int32) = 46 ∧ vp_nar .char (120 : Int32) = 120 ∧ vp_nar .char (43 : Int32) = 43 := by decide +kernel
theorem y_val {n : Nat} {x : Int32} (lS : Nat → Int32) (hn : n + 5 ≤ 640) (h1 : (-999 : Int32) ≤ x) (h2 : x ≤ (9999 : Int32)) : ∃ lS', fX3_addNumber (II n) lS x = some (II (n + nLen x), lS') ∧ ∀ i, i < n + nLen x → lS' i = tcat n lS (nDig x) i := by
  unfold fX3_addNumber
  by_cases h0 : 0 ≤ x
  · obtain ⟨a, ha, rfl⟩ := n_of2 (n := 9999) (by decide) h0 h2
    obtain ⟨p1, p2⟩ := y_pos ha
    rw [if_pos h0, p1, p2]
    exact y_num lS (by omega) ha
  · obtain ⟨a, ha, rfl⟩ := i_negOf (i_nle.mp h0) h1
    obtain ⟨p1, p2⟩ := y_neg ha h0
    have e10 : fX3_addNumber_10 (II (n + 1)) (upd lS n (vp_nar .char 45)) (-(II a)) = fX3_addNumber_10 (II (n + 1)) (upd lS n (vp_nar .char 45)) (II a) := by
      unfold fX3_addNumber_10
      rw [if_neg h0, if_pos (n_0le (by omega)), show (0 : Int32) - -(II a) = II a from by rw [Int32.zero_sub, Int32.neg_neg]]
    obtain ⟨lS', q1, q2⟩ := y_num (n := n + 1) (a := a) (upd lS n (vp_nar .char 45)) (by omega) (by omega)
    rw [if_neg h0, c_add (by omega), ob, p1, p2]
    refine ⟨lS', ?_, fun i hi => ?_⟩
    · show fX3_addNumber_10 (II (n + 1)) (upd lS n (vp_nar .char 45)) (-(II a)) = _
      rw [e10, q1, show n + 1 + dl a = n + (dl a + 1) from by omega]
    · rw [q2 i (by omega)]
      by_cases e1 : i < n
      · rw [tcat_lo (by omega), tcat_lo e1, upd_ne (by omega)]
      · by_cases e2 : i = n
        · rw [e2, tcat_lo (by omega), upd_at, y_45.1]
          exact (tcat_hi (n := n) (j := 0) (t := lS) (f := fun j => if j = 0 then 45 else dd a (j - 1))).symm
        · obtain ⟨j, rfl⟩ : ∃ j, i = n + 1 + j := ⟨i - (n + 1), by omega⟩
          rw [tcat_hi, show n + 1 + j = n + (j + 1) from by omega, tcat_hi, if_neg (by omega)]
          rfl
theorem y_vlen {x : Int32} (h1 : (-999 : Int32) ≤ x) (h2 : x ≤ (999 : Int32)) : nLen x ≤ 4 := by
  by_cases h0 : 0 ≤ x
  · obtain ⟨a, ha, rfl⟩ := n_of2 (n := 999) (by decide) h0 h2
    rw [(y_pos (by omega)).1]
    exact (dl_le a).2
  · obtain ⟨a, ha, rfl⟩ := i_negOf (i_nle.mp h0) h1
    rw [(y_neg ha h0).1]
    unfold dl
    split
    · omega
    · split
      · omega
      · rw [if_pos (by omega)]
        omega
theorem y_klen {a : Nat} (ha : a ≤ 9999) : nLen (II a) ≤ 4 := by
  rw [(y_pos ha).1]
  exact (dl_le a).2
theorem y_ddch (a j : Nat) : hl_nar .char (dd a j) = true := (y_nar _ (Nat.mod_lt _ (by omega))).2.2
theorem y_dch (x : Int32) (j : Nat) : hl_nar .char (nDig x j) = true := by
  unfold nDig
  split
  · exact y_ddch _ _
  · show hl_nar .char (if j = 0 then 45 else dd (nAb x) (j - 1)) = true
    split
    · decide
    · exact y_ddch _ _
theorem y_kch0 (j : Nat) : hl_nar .char (kByt 0 j) = true := by
  show hl_nar .char (([] : List Int32).getD j 0) = true
  rw [List.getD_nil]
  decide
theorem y_kch4 : ∀ j, hl_nar .char (kByt 4 j) = true
  | 0 => by decide
  | j + 1 => by
    show hl_nar .char (([] : List Int32).getD j 0) = true
    rw [List.getD_nil]
    decide
theorem y_kch5 : ∀ j, hl_nar .char (kByt 5 j) = true
  | 0 => by decide
  | j + 1 => by
    show hl_nar .char (([] : List Int32).getD j 0) = true
    rw [List.getD_nil]
    decide
theorem y_tch {n : Nat} {f g : Nat → Int32} (h1 : ∀ j, hl_nar .char (f j) = true) (h2 : ∀ j, hl_nar .char (g j) = true) (i : Nat) : hl_nar .char (tcat n f g i) = true := by
  unfold tcat
  split
  · exact h1 _
  · exact h2 _
theorem y_chch {c kd sd lm fu tb s : Nat} {K V : Nat → Int32} : hl_nar .char (chN c kd sd K s) = true := by
  unfold chN
  split
  · decide
  · split
    · decide
    · split
      · exact (y_nar _ (Nat.lt_succ_of_le (by assumption))).2.2
      · decide
/-! the keys in their order -/
def ksN (K : Nat → Int32) (c j : Nat) : Nat := fi (fun t => fl K t && decide (rk K c (K t) = j)) c 0
def spN (j : Nat) : Nat := if j = 0 then 0 else 4
def kyN (K V : Nat → Int32) (c : Nat) : Nat → Nat
  | 0 => 0
  | j + 1 => kyN K V c j + kLen (spN j) + nLen (K (ksN K c j)) + kLen 5 + nLen (V (ksN K c j))
def kyF (K V : Nat → Int32) (c : Nat) : Nat → Nat → Int32
  | 0 => kByt 0
  | j + 1 => tcat (kyN K V c j + kLen (spN j) + nLen (K (ksN K c j)) + kLen 5) (tcat (kyN K V c j + kLen (spN j) + nLen (K (ksN K c j))) (tcat (kyN K V c j + kLen (spN j)) (tcat (kyN K V c j) (kyF K V c j) (kByt (spN j))) (nDig (K (ksN K c j)))) (kByt 5)) (nDig (V (ksN K c j)))
theorem ksN_is {c kd sd lm fu tb s j : Nat} {K V : Nat → Int32} (h : Inv c kd sd lm fu tb K V) (hs : s < c) (h0 : 0 ≤ K s) (e : rk K c (K s) = j) : ksN K c j = s := by
  refine fi_eq (Nat.zero_le _) (by omega) (fun t _ ht => ?_) (fun _ => ?_)
  · show (fl K t && decide (rk K c (K t) = j)) = false
    cases hfl : fl K t
    · rfl
    · rw [Bool.true_and]
      refine decide_eq_false (fun e2 => ?_)
      have := rk_inj h (b := t) (r := s) (by omega) hs (of_decide_eq_true hfl) h0 (e2.trans e.symm)
      omega
  · show (fl K s && decide (rk K c (K s) = j)) = true
    unfold fl
    rw [decide_eq_true h0, decide_eq_true e]
    rfl
theorem y_sch (j : Nat) (i : Nat) : hl_nar .char (kByt (spN j) i) = true := by
  unfold spN
  split
  · exact y_kch0 i
  · exact y_kch4 i
theorem y_kych {K V : Nat → Int32} {c : Nat} : ∀ j i, hl_nar .char (kyF K V c j i) = true
  | 0, i => y_kch0 i
  | j + 1, i => y_tch (y_tch (y_tch (y_tch (y_kych j) (y_sch j)) (y_dch _)) y_kch5) (y_dch _) i
theorem y_spl (j : Nat) : kLen (spN j) ≤ 1 := by
  unfold spN
  split
  · decide
  · decide
/-- the key of a rank, its slot, its value -/
theorem y_at {c kd sd lm fu tb j : Nat} {K V : Nat → Int32} (h : Inv c kd sd lm fu tb K V) (hj : j < fu) : ∃ k, k ≤ 9999 ∧ ksN K c j < c ∧ K (ksN K c j) = II k ∧ rk K c (K (ksN K c j)) = j ∧ hs c kd sd K k = ksN K c j ∧ (-999 : Int32) ≤ V (ksN K c j) ∧ V (ksN K c j) ≤ (999 : Int32) := by
  have h64 := h.cok.le
  have loop : ∀ n i b, i ≤ j → j - i < n → kPrev K c i b → ∃ s, s < c ∧ 0 ≤ K s ∧ rk K c (K s) = j := fun n => by
    induction n with
    | zero => intro i b _ hn; omega
    | succ n ih =>
      intro i b hi hn hP
      obtain ⟨t, ht, ht0, ht1, -⟩ := c_nextKey h hP (by omega)
      by_cases e : i = j
      · exact ⟨t, ht, ht0, by rw [ht1, e]⟩
      · exact ih (i + 1) (K t) (by omega) (by omega) (Or.inr ⟨t, ht, ht0, rfl, by rw [ht1]⟩)
  obtain ⟨s, hs1, hs0, hs2⟩ := loop (j + 1) 0 (-1) (Nat.zero_le _) (by omega) (Or.inl ⟨rfl, rfl⟩)
  have e := ksN_is h hs1 hs0 hs2
  obtain ⟨k, hk, ek⟩ := h.kt.pos (s := s) (by omega) hs0
  rw [e]
  exact ⟨k, hk, hs1, ek, hs2, hs_of h (by omega) hk ek, h.vals s (by omega) hs0⟩
theorem kyN_le {c kd sd lm fu tb : Nat} {K V : Nat → Int32} (h : Inv c kd sd lm fu tb K V) : ∀ j, j ≤ fu → kyN K V c j ≤ 10 * j
  | 0, _ => Nat.le_refl _
  | j + 1, hj => by
    have ih := kyN_le h j (by omega)
    obtain ⟨k, hk, -, ek, -, -, v1, v2⟩ := y_at h (j := j) (by omega)
    have a1 := y_klen hk
    have a2 := y_vlen v1 v2
    have a3 := y_spl j
    have a4 : kLen 5 = 1 := rfl
    rw [kyN, ek]
    omega
