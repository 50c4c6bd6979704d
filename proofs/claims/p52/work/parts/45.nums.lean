/-! numbers as letters -/
def dl (a : Nat) : Nat := if a < 10 then 1 else if a < 100 then 2 else if a < 1000 then 3 else 4
def dd (a j : Nat) : Int32 := Int32.ofNat (48 + a / 10 ^ (dl a - 1 - j) % 10)
def nAb (x : Int32) : Nat := if 0 ≤ x then x.toNatClampNeg else (-x).toNatClampNeg
def nLen (x : Int32) : Nat := if 0 ≤ x then dl (nAb x) else dl (nAb x) + 1
def nDig (x : Int32) : Nat → Int32 := if 0 ≤ x then dd (nAb x) else fun j => if j = 0 then 45 else dd (nAb x) (j - 1)
abbrev numOK (x : Int32) : Prop := (-999 : Int32) ≤ x ∧ x ≤ (9999 : Int32)
theorem dl_le (a : Nat) : 1 ≤ dl a ∧ dl a ≤ 4 := by
  unfold dl
  split
  · omega
  · split
    · omega
    · split <;> omega
theorem dd_asc (a j : Nat) : ∃ c, c < 128 ∧ dd a j = Int32.ofNat c := ⟨_, by omega, rfl⟩
theorem numOK_asc {x : Int32} (_ : numOK x) : asc (nLen x) (nDig x) := by
  intro j hj
  unfold nDig
  split
  · exact dd_asc _ _
  · show ∃ c, c < 128 ∧ (if j = 0 then (45 : Int32) else dd (nAb x) (j - 1)) = Int32.ofNat c
    split
    · exact ⟨45, by omega, rfl⟩
    · exact dd_asc _ _
theorem gcF0 : ∀ h, h < 100 → ∀ k, k < 100 → ((-100 : Int32) < -(II (100 * h + k)) ↔ 100 * h + k < 100) ∧ ((-9 : Int32) ≤ -(II (100 * h + k)) ↔ 100 * h + k ≤ 9) ∧ -(-(II (100 * h + k))) = II (100 * h + k) ∧ -(II (100 * h + k)) / (100 : Int32) = -(II h) ∧ (-(II h) * (100 : Int32)) - -(II (100 * h + k)) = II k := by decide +kernel
theorem gcF {a : Nat} (ha : a ≤ 9999) : ((-100 : Int32) < -(II a) ↔ a < 100) ∧ ((-9 : Int32) ≤ -(II a) ↔ a ≤ 9) ∧ -(-(II a)) = II a ∧ -(II a) / (100 : Int32) = -(II (a / 100)) ∧ (-(II (a / 100)) * (100 : Int32)) - -(II a) = II (a % 100) := by
  have h := gcF0 (a / 100) (by omega) (a % 100) (by omega)
  rw [show 100 * (a / 100) + a % 100 = a from by omega] at h
  exact h
theorem gs0 : ∀ h, h < 100 → ∀ k, k < 100 → fJ6_stringSize_0f7a4 (II (100 * h + k)) = some (II (dl (100 * h + k))) := by decide +kernel
theorem gs1 : ∀ h, h < 10 → ∀ k, k < 100 → (100 * h + k = 0) ∨ fJ6_stringSize_0f7a4 (-(II (100 * h + k))) = some (II (dl (100 * h + k) + 1)) := by decide +kernel
theorem nar_d (c : Nat) (h : c < 128) : vp_nar .byte (II c) = II c := (asc_one c h).2.2.2
theorem q_m1 {q : Nat} (h : 1 ≤ q) (h2 : q < 2147483648) : II q + (-1 : Int32) = II (q - 1) := by
  have e : II q + (-1 : Int32) = II q - (1 : Int32) := by rw [Int32.sub_eq_add_neg]
  rw [e]
  exact n_sub (b := 1) h
theorem dgO_nar (j : Nat) : vp_nar .byte (dgO j) = dgO j := nar_d _ (by omega)
theorem dgT_nar {j : Nat} (h : j < 100) : vp_nar .byte (dgT j) = dgT j := nar_d _ (by omega)
theorem gc_in {q m0 : Nat} (h : 1 ≤ q) (h2 : q ≤ m0) (hm : m0 < 100000) : hl_in (II (q - 1)) m0 = true ∧ (II (q - 1)).toNatClampNeg = q - 1 := ⟨n_in (by omega) (by omega), n_cl (by omega)⟩
/-- the last letters: a below 100, with its sign -/
theorem gc_end {m0 f q a : Nat} {g : Nat → Int32} {v6 : Int32} (hm : m0 < 100000) (ha : a < 100) (hq : q ≤ m0) (hw : dl a + (if v6 = 0 then 0 else 1) ≤ q) : fJ6_getChars_ba4f3_22 m0 (f + 1) g (-(II a)) (II q) v6 =
    some (II (q - (dl a + (if v6 = 0 then 0 else 1))), if a < 10 then (if v6 = 0 then upd g (q - 1) (dgO a) else upd (upd g (q - 1) (dgO a)) (q - 2) 45) else (if v6 = 0 then upd (upd g (q - 1) (dgO a)) (q - 2) (dgT a) else upd (upd (upd g (q - 1) (dgO a)) (q - 2) (dgT a)) (q - 3) 45)) := by
  obtain ⟨h1, h2, h3, -, -⟩ := gcF (a := a) (by omega)
  have hd := dl_le a
  have hi1 := gc_in (q := q) (by omega) hq hm
  have e1 : II q + (-1 : Int32) = II (q - 1) := q_m1 (by omega) (by omega)
  have ea : hl_in (II a) 100 = true := n_in (by omega) ha
  rw [fJ6_getChars_ba4f3_22, if_pos (h1.mpr ha), h3, if_pos ea, e1, if_pos hi1.1, show (II a).toNatClampNeg = a from n_cl (by omega), dgO_nar, hi1.2]
  by_cases h9 : a ≤ 9
  · have hdl : dl a = 1 := if_pos (by omega)
    rw [hdl] at hw ⊢
    rw [if_pos (h2.mpr h9), if_pos (show a < 10 by omega)]
    by_cases h6 : v6 = 0
    · rw [if_pos h6, if_pos h6, if_pos h6]
    · rw [if_neg h6] at hw
      have hi2 := gc_in (q := q - 1) (m0 := m0) (by omega) (by omega) hm
      rw [if_neg h6, if_neg h6, if_neg h6, q_m1 (by omega) (by omega), if_pos hi2.1, hi2.2, show vp_nar .byte (45 : Int32) = 45 from by decide]
      rw [show q - 1 - 1 = q - 2 from by omega]
  · have hdl : dl a = 2 := by
      unfold dl
      rw [if_neg (by omega), if_pos ha]
    rw [hdl] at hw ⊢
    have hi2 := gc_in (q := q - 1) (m0 := m0) (by omega) (by omega) hm
    rw [if_neg (fun z => h9 (h2.mp z)), if_neg (show ¬ a < 10 by omega), if_pos ea, q_m1 (by omega) (by omega), if_pos hi2.1, hi2.2, dgT_nar ha]
    rw [show q - 1 - 1 = q - 2 from by omega]
    by_cases h6 : v6 = 0
    · rw [if_pos h6, if_pos h6, if_pos h6]
    · rw [if_neg h6] at hw
      have hi3 := gc_in (q := q - 2) (m0 := m0) (by omega) (by omega) hm
      rw [if_neg h6, if_neg h6, if_neg h6, q_m1 (by omega) (by omega), if_pos hi3.1, hi3.2, show vp_nar .byte (45 : Int32) = 45 from by decide]
      rw [show q - 2 - 1 = q - 3 from by omega]
/-- two letters of a number from 100 on -/
theorem gc_two {m0 f q a : Nat} {g : Nat → Int32} {v6 : Int32} (hm : m0 < 100000) (ha : 100 ≤ a) (ha2 : a ≤ 9999) (hq : q ≤ m0) (hw : 2 ≤ q) : fJ6_getChars_ba4f3_22 m0 (f + 1) g (-(II a)) (II q) v6 = fJ6_getChars_ba4f3_22 m0 f (upd (upd g (q - 1) (dgO (a % 100))) (q - 2) (dgT (a % 100))) (-(II (a / 100))) (II (q - 2)) v6 := by
  obtain ⟨h1, -, -, h4, h5⟩ := gcF (a := a) ha2
  have hi1 := gc_in (q := q) (by omega) hq hm
  have hi2 := gc_in (q := q - 1) (m0 := m0) (by omega) (by omega) hm
  have e1 : II q + (-1 : Int32) = II (q - 1) := q_m1 (by omega) (by omega)
  have ea : hl_in (II (a % 100)) 100 = true := n_in (by omega) (by omega)
  rw [fJ6_getChars_ba4f3_22, if_neg (fun z => absurd (h1.mp z) (by omega)), h4, h5, if_pos ea, e1, if_pos hi1.1, if_pos ea, q_m1 (by omega) (by omega), if_pos hi2.1, show (II (a % 100)).toNatClampNeg = a % 100 from n_cl (by omega), dgO_nar, hi1.2, hi2.2, dgT_nar (by omega)]
  rw [show q - 1 - 1 = q - 2 from by omega]
theorem updP {f : Nat → Int32} {k j : Nat} {x : Int32} : upd f k x j = if j = k then x else f j := rfl
/-- what getChars leaves, the row's part ahead and the letters -/
theorem gc_row {n m0 a : Nat} {g : Nat → Int32} {v6 : Int32} (hm : m0 < 100000) (ha : a ≤ 9999) (hn : n + (dl a + (if v6 = 0 then 0 else 1)) ≤ m0) (hg : sb_Fit g) : ∃ (r : Int32) (g' : Nat → Int32), fJ6_getChars_ba4f3_22 m0 1000 g (-(II a)) (II (n + (dl a + (if v6 = 0 then 0 else 1)))) v6 = some (r, g') ∧ sb_Fit g' ∧ (∀ j, j < n → g' j = g j) ∧ (∀ j, j < dl a → g' (n + ((if v6 = 0 then 0 else 1) + j)) = dd a j) ∧ (¬ v6 = 0 → g' n = 45) := by
  have fO : ∀ j, fits .byte (.int (dgO j)) = true := fun j => (asc_one _ (by omega)).2.2.1
  have fT : ∀ j, j < 100 → fits .byte (.int (dgT j)) = true := fun j hj => (asc_one _ (by omega)).2.2.1
  have f45 : fits .byte (.int (45 : Int32)) = true := (asc_one 45 (by omega)).2.2.1
  have hd := dl_le a
  by_cases h100 : a < 100
  · rw [gc_end hm h100 hn (by omega)]
    refine ⟨_, _, rfl, ?_, ?_, ?_, ?_⟩
    · by_cases h10 : a < 10 <;> by_cases h6 : v6 = 0 <;> simp only [h10, h6, if_true, if_false] <;> first | exact sb_fitU hg (fO _) | exact sb_fitU (sb_fitU hg (fO _)) f45 | exact sb_fitU (sb_fitU hg (fO _)) (fT _ h100) | exact sb_fitU (sb_fitU (sb_fitU hg (fO _)) (fT _ h100)) f45
    · intro j hj
      by_cases h10 : a < 10 <;> by_cases h6 : v6 = 0 <;> simp only [h10, h6, if_true, if_false, dl, h100] <;> simp only [updP] <;> (repeat rw [if_neg (by omega)])
    · intro j hj
      by_cases h10 : a < 10
      · have hdl : dl a = 1 := if_pos h10
        rw [hdl] at hj ⊢
        obtain rfl : j = 0 := by omega
        have e : dd a 0 = dgO a := by
          unfold dd dgO
          rw [hdl]
          exact congrArg Int32.ofNat (by omega)
        by_cases h6 : v6 = 0 <;> simp only [h10, h6, if_true, if_false] <;> rw [e] <;> simp only [updP]
        · rw [if_pos (by omega)]
        · rw [if_neg (by omega), if_pos (by omega)]
      · have hdl : dl a = 2 := by
          unfold dl
          rw [if_neg h10, if_pos h100]
        rw [hdl] at hj ⊢
        have e0 : dd a 0 = dgT a := by
          unfold dd dgT
          rw [hdl]
          exact congrArg Int32.ofNat (by omega)
        have e1 : dd a 1 = dgO a := by
          unfold dd dgO
          rw [hdl]
          exact congrArg Int32.ofNat (by omega)
        rcases (show j = 0 ∨ j = 1 by omega) with rfl | rfl
        · by_cases h6 : v6 = 0 <;> simp only [h10, h6, if_true, if_false] <;> rw [e0] <;> simp only [updP]
          · rw [if_pos (by omega)]
          · rw [if_neg (by omega), if_pos (by omega)]
        · by_cases h6 : v6 = 0 <;> simp only [h10, h6, if_true, if_false] <;> rw [e1] <;> simp only [updP]
          · rw [if_neg (by omega), if_pos (by omega)]
          · rw [if_neg (by omega), if_neg (by omega), if_pos (by omega)]
    · intro h6
      have hdl : dl a = if a < 10 then 1 else 2 := by
        unfold dl
        rw [if_pos h100]
      rw [hdl]
      by_cases h10 : a < 10 <;> simp only [h10, h6, if_true, if_false] <;> simp only [updP] <;> rw [if_pos (by omega)]
  · have hdl : dl a = dl (a / 100) + 2 := by
      unfold dl
      rw [if_neg (by omega), if_neg h100]
      by_cases h3 : a < 1000
      · rw [if_pos h3, if_pos (by omega)]
      · rw [if_neg h3, if_neg (by omega), if_pos (by omega)]
    have hd2 := dl_le (a / 100)
    have ha2 : a / 100 < 100 := by omega
    generalize hs : (if v6 = 0 then 0 else 1) = sg at *
    have hsg : sg ≤ 1 := by rw [← hs]; split <;> omega
    rw [show (1000 : Nat) = 999 + 1 from rfl, gc_two hm (by omega) ha hn (by omega), show (999 : Nat) = 998 + 1 from rfl, gc_end hm ha2 (by omega) (by rw [hs]; omega)]
    refine ⟨_, _, rfl, ?_, ?_, ?_, ?_⟩
    · have hg2 : sb_Fit (upd (upd g (n + (dl a + sg) - 1) (dgO (a % 100))) (n + (dl a + sg) - 2) (dgT (a % 100))) := sb_fitU (sb_fitU hg (fO _)) (fT _ (by omega))
      by_cases h10 : a / 100 < 10 <;> by_cases h6 : v6 = 0 <;> simp only [h10, h6, if_true, if_false] <;> first | exact sb_fitU hg2 (fO _) | exact sb_fitU (sb_fitU hg2 (fO _)) f45 | exact sb_fitU (sb_fitU hg2 (fO _)) (fT _ ha2) | exact sb_fitU (sb_fitU (sb_fitU hg2 (fO _)) (fT _ ha2)) f45
    · intro j hj
      have hdl2 : dl (a / 100) = if a / 100 < 10 then 1 else 2 := by
        unfold dl
        rw [if_pos ha2]
      by_cases h10 : a / 100 < 10 <;> by_cases h6 : v6 = 0 <;> simp only [h6, if_true, if_false] at hs <;> subst hs <;> simp only [h10, if_true, if_false] at hdl2 <;> simp only [h10, h6, if_true, if_false] <;> simp only [updP] <;> (repeat rw [if_neg (by omega)])
    · intro j hj
      have hdl2 : dl (a / 100) = if a / 100 < 10 then 1 else 2 := by
        unfold dl
        rw [if_pos ha2]
      have eL : ∀ i, dd a i = Int32.ofNat (48 + a / 10 ^ (dl a - 1 - i) % 10) := fun i => rfl
      by_cases h10 : a / 100 < 10
      · simp only [h10, if_true] at hdl2
        have hdl3 : dl a = 3 := by omega
        have e0 : dd a 0 = dgO (a / 100) := by rw [eL, hdl3]; exact congrArg Int32.ofNat (by omega)
        have e1 : dd a 1 = dgT (a % 100) := by rw [eL, hdl3]; exact congrArg Int32.ofNat (by omega)
        have e2 : dd a 2 = dgO (a % 100) := by rw [eL, hdl3]; exact congrArg Int32.ofNat (by omega)
        rcases (show j = 0 ∨ j = 1 ∨ j = 2 by omega) with rfl | rfl | rfl <;> by_cases h6 : v6 = 0 <;> simp only [h6, if_true, if_false] at hs <;> subst hs <;> simp only [h10, h6, if_true, if_false] <;> first | rw [e0] | rw [e1] | rw [e2]
        all_goals simp only [updP]
        all_goals (repeat first | rw [if_pos (by omega)] | rw [if_neg (by omega)])
      · simp only [h10, if_false] at hdl2
        have hdl3 : dl a = 4 := by omega
        have e0 : dd a 0 = dgT (a / 100) := by rw [eL, hdl3]; exact congrArg Int32.ofNat (by omega)
        have e1 : dd a 1 = dgO (a / 100) := by rw [eL, hdl3]; exact congrArg Int32.ofNat (by omega)
        have e2 : dd a 2 = dgT (a % 100) := by rw [eL, hdl3]; exact congrArg Int32.ofNat (by omega)
        have e3 : dd a 3 = dgO (a % 100) := by rw [eL, hdl3]; exact congrArg Int32.ofNat (by omega)
        rcases (show j = 0 ∨ j = 1 ∨ j = 2 ∨ j = 3 by omega) with rfl | rfl | rfl | rfl <;> by_cases h6 : v6 = 0 <;> simp only [h6, if_true, if_false] at hs <;> subst hs <;> simp only [h10, h6, if_true, if_false] <;> first | rw [e0] | rw [e1] | rw [e2] | rw [e3]
        all_goals simp only [updP]
        all_goals (repeat first | rw [if_pos (by omega)] | rw [if_neg (by omega)])
    · intro h6
      have hdl2 : dl (a / 100) = if a / 100 < 10 then 1 else 2 := by
        unfold dl
        rw [if_pos ha2]
      simp only [h6, if_false] at hs
      subst hs
      by_cases h10 : a / 100 < 10 <;> simp only [h10, if_true, if_false] at hdl2 <;> simp only [h10, h6, if_true, if_false] <;> simp only [updP] <;> rw [if_pos (by omega)]
theorem n_negOf {v : Int32} (h : v < 0) (h2 : (-999 : Int32) ≤ v) : ∃ a, 1 ≤ a ∧ a ≤ 999 ∧ v = -(II a) := by
  rw [fa_lt, show (0 : Int32).toInt = 0 from by decide] at h
  rw [fa_le, show (-999 : Int32).toInt = -999 from by decide] at h2
  refine ⟨(-v.toInt).toNat, by omega, by omega, ?_⟩
  rw [show II (-v.toInt).toNat = Int32.ofNat (-v.toInt).toNat from rfl, Int32.neg_ofNat, show -(((-v.toInt).toNat : Nat) : Int) = v.toInt from by omega, Int32.ofInt_toInt]
theorem numOK_T {x : Int32} (h : numOK x) : numT x (nLen x) (nDig x) := by
  by_cases h0 : 0 ≤ x
  · obtain ⟨a, ha, rfl⟩ := n_of2 (n := 9999) (by omega) h0 h.2
    have hab : nAb (II a) = a := by
      unfold nAb
      rw [if_pos h0, n_cl (by omega)]
    have hL : nLen (II a) = dl a := by
      unfold nLen
      rw [if_pos h0, hab]
    have hD : nDig (II a) = dd a := by
      unfold nDig
      rw [if_pos h0, hab]
    rw [hL, hD]
    have g0 := gs0 (a / 100) (by omega) (a % 100) (by omega)
    rw [show 100 * (a / 100) + a % 100 = a from by omega] at g0
    refine ⟨g0, fun n m0 g hn hm hg => ?_⟩
    obtain ⟨r, g', e1, e2, e3, e4, -⟩ := gc_row (n := n) (v6 := 0) hm ha hn hg
    refine ⟨r, g', ?_, e2, e3, fun j hj => ?_⟩
    · unfold fJ6_getChars_ba4f3 fJ6_getChars_ba4f3_12
      rw [if_pos h0, if_pos rfl]
      exact e1
    · have := e4 j hj
      rwa [if_pos rfl, Nat.zero_add] at this
  · have hx : x < 0 := i_nle.mp h0
    obtain ⟨a, ha1, ha, rfl⟩ := n_negOf hx h.1
    have hneg : -(-(II a)) = II a := (gcF (by omega)).2.2.1
    have hab : nAb (-(II a)) = a := by
      unfold nAb
      rw [if_neg h0, hneg, n_cl (by omega)]
    have hL : nLen (-(II a)) = dl a + 1 := by
      unfold nLen
      rw [if_neg h0, hab]
    have hD : nDig (-(II a)) = fun j => if j = 0 then 45 else dd a (j - 1) := by
      unfold nDig
      rw [if_neg h0, hab]
    rw [hL, hD]
    have g0 := gs1 (a / 100) (by omega) (a % 100) (by omega)
    rw [show 100 * (a / 100) + a % 100 = a from by omega] at g0
    refine ⟨g0.resolve_left (by omega), fun n m0 g hn hm hg => ?_⟩
    obtain ⟨r, g', e1, e2, e3, e4, e5⟩ := gc_row (n := n) (a := a) (v6 := 1) hm (by omega) hn hg
    refine ⟨r, g', ?_, e2, e3, fun j hj => ?_⟩
    · unfold fJ6_getChars_ba4f3 fJ6_getChars_ba4f3_12
      rw [if_neg h0, if_neg (by decide)]
      exact e1
    · show g' (n + j) = if j = 0 then 45 else dd a (j - 1)
      by_cases hj0 : j = 0
      · rw [if_pos hj0, hj0]
        exact e5 (by decide)
      · rw [if_neg hj0]
        have := e4 (j - 1) (by omega)
        rwa [if_neg (by decide), show n + (1 + (j - 1)) = n + j from by omega] at this
