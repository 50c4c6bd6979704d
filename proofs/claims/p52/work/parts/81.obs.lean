/-! what a laboratory tells of itself -/
theorem o_iD {α β γ : Type} (z : α) (g : α → Option γ) : inlD (Sum.inl z : α ⊕ β) g = g z := rfl
theorem o_cap {N c kd sd lm fu tb : Nat} {v : LV} (h : LW N v c kd sd lm fu tb) : gl_capacity v = some (II c) := congrArg some h.1.1
theorem o_kind {N c kd sd lm fu tb : Nat} {v : LV} (h : LW N v c kd sd lm fu tb) : gl_kind v = some (II kd) := congrArg some h.1.2.1
theorem o_seed {N c kd sd lm fu tb : Nat} {v : LV} (h : LW N v c kd sd lm fu tb) : gl_seed v = some (II sd) := congrArg some h.1.2.2.1
theorem o_limit {N c kd sd lm fu tb : Nat} {v : LV} (h : LW N v c kd sd lm fu tb) : gl_limit v = some (II lm) := congrArg some h.1.2.2.2.1
theorem o_size {N c kd sd lm fu tb : Nat} {v : LV} (h : LW N v c kd sd lm fu tb) : gl_size v = some (II fu) := congrArg some h.1.2.2.2.2.1
theorem o_tombs {N c kd sd lm fu tb : Nat} {v : LV} (h : LW N v c kd sd lm fu tb) : gl_tombstones v = some (II tb) := congrArg some h.1.2.2.2.2.2
theorem o_grow {N c kd sd lm fu tb : Nat} {v : LV} (h : LW N v c kd sd lm fu tb) : ∃ a b : Nat, b ≤ a ∧ a ≤ N ∧ gl_rebuilds v = some (II a) ∧ gl_growths v = some (II b) := by
  obtain ⟨a, b, h1, h2, h3, h4⟩ := h.2.2.2
  exact ⟨a, b, h1, h2, congrArg some h3, congrArg some h4⟩
theorem o_near {N c kd sd lm fu tb : Nat} {v : LV} (h : LW N v c kd sd lm fu tb) : gl_isNearLimit v = some (if 100 * (fu + tb + 1) ≤ lm * c then 0 else 1) := by
  obtain ⟨⟨a1, a2, a3, a4, a5, a6⟩, hI, -, -⟩ := h
  unfold gl_isNearLimit fX6_isNearLimit
  rw [a1, a4, a5, a6, c_need hI.cok hI.lm9.2 hI.ft, ob]
  by_cases e : 100 * (fu + tb + 1) ≤ lm * c
  · rw [if_pos e, if_pos r_nar0]
  · rw [if_neg e, if_pos r_nar1]
theorem o_slot1 {c s : Nat} (hc : cOK c) (hs : s < c) : fX5_hasSlot (II c) (II s) = some 1 := by
  have h64 := hc.le
  unfold fX5_hasSlot
  rw [if_neg (n_nlt0 (by omega)), if_neg (fun e : II c ≤ II s => by have := (n_le hc.lt (by omega)).mp e; omega)]
theorem o_isFull {N c kd sd lm fu tb s : Nat} {v : LV} (h : LW N v c kd sd lm fu tb) (hs : s < c) : gl_isFull v (II s) = some (.inl (bI (fl (v.2.1 0) s))) := by
  obtain ⟨⟨a1, a2, a3, a4, a5, a6⟩, hI, -, -⟩ := h
  have h64 := hI.cok.le
  unfold gl_isFull fX6_isFull fl
  rw [a1, o_slot1 hI.cok hs, ob, if_neg i1n0, c_isFull (by omega), ob]
  by_cases z : v.2.1 0 s < 0
  · rw [if_pos z, if_pos r_nar0, decide_eq_false (i_nle.mpr z)]
    rfl
  · rw [if_neg z, if_pos r_nar1, decide_eq_true (i_nlt.mp z)]
    rfl
theorem o_isTomb {N c kd sd lm fu tb s : Nat} {v : LV} (h : LW N v c kd sd lm fu tb) (hs : s < c) : gl_isTombstone v (II s) = some (.inl (bI (decide (v.2.1 0 s = -2)))) := by
  obtain ⟨⟨a1, a2, a3, a4, a5, a6⟩, hI, -, -⟩ := h
  have h64 := hI.cok.le
  unfold gl_isTombstone fX6_isTombstone
  rw [a1, o_slot1 hI.cok hs, ob, if_neg i1n0, c_content (by omega), ob]
  by_cases z : v.2.1 0 s = -2
  · rw [if_pos z, decide_eq_true z]
    rfl
  · rw [if_neg z, decide_eq_false z]
    rfl
/-- a slot that is in use: two questions -/
theorem o_used {N c kd sd lm fu tb s : Nat} {v : LV} {γ : Type} (h : LW N v c kd sd lm fu tb) (hs : s < c) (X Y : Option γ) : ((gl_isFull v (II s)).bind fun r => inlD r fun z => if z = 0 then ((gl_isTombstone v (II s)).bind fun r2 => inlD r2 fun z2 => if z2 = 0 then X else Y) else Y) = if w_k (v.2.1 0) s = true then Y else X := by
  have h64 := h.2.1.cok.le
  rw [o_isFull h hs, ob, o_iD, o_isTomb h hs, ob, o_iD]
  unfold fl w_k
  rcases h.2.1.kt s (by omega) with e | e | ⟨k, hk, e⟩
  · rw [e]
    rfl
  · rw [e]
    rfl
  · rw [e, decide_eq_true (n_0le (by omega) : (0 : Int32) ≤ II k), decide_eq_true (n_ne1 (by omega) : II k ≠ -1)]
    rfl
theorem o_contains {N c kd sd lm fu tb k : Nat} {v : LV} (h : LW N v c kd sd lm fu tb) (hk : k ≤ 9999) : gl_contains v (II k) = some (if v.2.1 0 (hs c kd sd (v.2.1 0) k) = II k then 1 else 0) := by
  obtain ⟨⟨a1, a2, a3, a4, a5, a6⟩, hI, -, -⟩ := h
  have hs9 := hs_64 (kd := kd) (sd := sd) (K := v.2.1 0) (k := k) hI.cok
  unfold gl_contains fX6_contains
  rw [a1, a2, a3, c_hold hI.cok hI.kd2 hI.sd9 hk hI.emp, ob]
  by_cases e : v.2.1 0 (hs c kd sd (v.2.1 0) k) = II k
  · rw [if_pos e, if_neg (n_ne1 (by omega)), if_pos e]
  · rw [if_neg e, if_pos rfl, if_neg e]
theorem o_get {N c kd sd lm fu tb k : Nat} {v : LV} (h : LW N v c kd sd lm fu tb) (hk : k ≤ 9999) : gl_get v (II k) = some (if v.2.1 0 (hs c kd sd (v.2.1 0) k) = II k then .inl (v.2.1 1 (hs c kd sd (v.2.1 0) k)) else .inr 3) := by
  obtain ⟨⟨a1, a2, a3, a4, a5, a6⟩, hI, -, -⟩ := h
  have hs9 := hs_64 (kd := kd) (sd := sd) (K := v.2.1 0) (k := k) hI.cok
  unfold gl_get fX6_get
  rw [a1, a2, a3, c_hold hI.cok hI.kd2 hI.sd9 hk hI.emp, ob]
  by_cases e : v.2.1 0 (hs c kd sd (v.2.1 0) k) = II k
  · rw [if_pos e, if_neg (n_ne1 (by omega)), c_valueOf hs9, ob, if_pos e]
  · rw [if_neg e, if_pos rfl, if_neg e]
theorem o_slotOf {N c kd sd lm fu tb k : Nat} {v : LV} (h : LW N v c kd sd lm fu tb) (hk : k ≤ 9999) (e : v.2.1 0 (hs c kd sd (v.2.1 0) k) = II k) : gl_slotOf v (II k) = some (.inl (II (hs c kd sd (v.2.1 0) k))) := by
  obtain ⟨⟨a1, a2, a3, a4, a5, a6⟩, hI, -, -⟩ := h
  have hs9 := hs_64 (kd := kd) (sd := sd) (K := v.2.1 0) (k := k) hI.cok
  unfold gl_slotOf fX6_slotOf
  rw [a1, a2, a3, c_hold hI.cok hI.kd2 hI.sd9 hk hI.emp, ob, if_pos e, if_neg (n_ne1 (by omega))]
theorem o_probe {N c kd sd lm fu tb k i : Nat} {v : LV} (h : LW N v c kd sd lm fu tb) (hk : k ≤ 9999) (hi : i < c) : gl_probe v (II k) (II i) = some (.inl (II (sq c kd sd k i))) := by
  obtain ⟨⟨a1, a2, a3, a4, a5, a6⟩, hI, -, -⟩ := h
  have h64 := hI.cok.le
  unfold gl_probe fX6_probe
  rw [a1, a2, a3, c_isKey hk, ob, if_neg i1n0, o_slot1 hI.cok hi, ob, if_neg i1n0, c_slotIn hI.cok hI.kd2 hI.sd9 hk (by omega), ob]
theorem o_step {N c kd sd lm fu tb k : Nat} {v : LV} (h : LW N v c kd sd lm fu tb) (hk : k ≤ 9999) : gl_step v (II k) = some (.inl (II (stN c kd (hN k sd)))) := by
  obtain ⟨⟨a1, a2, a3, a4, a5, a6⟩, hI, -, -⟩ := h
  unfold gl_step fX6_step
  rw [a1, a2, a3, c_isKey hk, ob, if_neg i1n0, c_hash hk hI.sd9, ob, c_stride hI.cok hI.kd2 (hN_lt k sd), ob]
theorem o_probes {N c kd sd lm fu tb k : Nat} {v : LV} (h : LW N v c kd sd lm fu tb) (hk : k ≤ 9999) : gl_probes v (II k) = some (.inl (II (fs c kd sd (v.2.1 0) k + 1))) := by
  obtain ⟨⟨a1, a2, a3, a4, a5, a6⟩, hI, -, -⟩ := h
  unfold gl_probes fX6_probes
  rw [a1, a2, a3, c_isKey hk, ob, if_neg i1n0, c_search hI.cok hI.kd2 hI.sd9 hk hI.emp, ob]
theorem o_pbs {N c kd sd lm fu tb k : Nat} {v : LV} (h : LW N v c kd sd lm fu tb) (hk : k ≤ 9999) : gl_probesBySlot v (II k) = some (if v.2.1 0 (hs c kd sd (v.2.1 0) k) = II k then .inl (II (fs c kd sd (v.2.1 0) k + 1)) else .inr 3) := by
  obtain ⟨⟨a1, a2, a3, a4, a5, a6⟩, hI, -, -⟩ := h
  have hs9 := hs_64 (kd := kd) (sd := sd) (K := v.2.1 0) (k := k) hI.cok
  have hf := fs_lt (kd := kd) (sd := sd) (k := k) hI.cok hI.emp
  unfold gl_probesBySlot fX6_probesBySlot
  rw [a1, a2, a3, c_hold hI.cok hI.kd2 hI.sd9 hk hI.emp, ob]
  by_cases e : v.2.1 0 (hs c kd sd (v.2.1 0) k) = II k
  · rw [if_pos e, if_neg (n_ne1 (by omega)), if_pos e]
    unfold hs
    rw [c_dist hI.cok hI.kd2 hI.sd9 hk hf, ob]
  · rw [if_neg e, if_pos rfl, if_neg e]
theorem o_keyIn {N c kd sd lm fu tb s : Nat} {v : LV} (h : LW N v c kd sd lm fu tb) (hs : s < c) : fL_keyIn v (II s) = some (if fl (v.2.1 0) s = true then v.2.1 0 s else -30000) := by
  obtain ⟨⟨a1, a2, a3, a4, a5, a6⟩, hI, -, -⟩ := h
  have h64 := hI.cok.le
  unfold fL_keyIn gl_keyIn fX6_keyIn fl
  rw [a1, o_slot1 hI.cok hs, ob, if_neg i1n0, c_isFull (by omega), ob]
  by_cases z : v.2.1 0 s < 0
  · rw [if_pos z, if_pos rfl, ob, if_neg (fun e => absurd (of_decide_eq_true e) (i_nle.mpr z))]
    rfl
  · rw [if_neg z, if_neg i1n0, c_content (by omega), ob, ob, if_pos (decide_eq_true (i_nlt.mp z))]
    rfl
theorem o_clSize {N c kd sd lm fu tb s : Nat} {v : LV} (h : LW N v c kd sd lm fu tb) (hs : s < c) : gl_clusterSize v (II s) = some (.inl (II (w_ar (v.2.1 0) c s))) := by
  obtain ⟨⟨a1, a2, a3, a4, a5, a6⟩, hI, -, -⟩ := h
  unfold gl_clusterSize fX6_clusterSize
  rw [a1, o_slot1 hI.cok hs, ob, if_neg i1n0, c_sizeAt hI.cok hI.wE hs, ob]
theorem o_large {N c kd sd lm fu tb : Nat} {v : LV} (h : LW N v c kd sd lm fu tb) : ∃ r : Nat, gl_largestCluster v = some (II r) ∧ gl_largestClusterByHalves v = some (II r) ∧ w_max (v.2.1 0) c r := by
  obtain ⟨⟨a1, a2, a3, a4, a5, a6⟩, hI, -, -⟩ := h
  obtain ⟨r, q1, q2⟩ := c_around (K := v.2.1 0) hI.cok hI.wE
  obtain ⟨r', q3, q4⟩ := c_halves (K := v.2.1 0) hI.cok hI.wE
  cases w_max1 q2 q4
  unfold gl_largestCluster gl_largestClusterByHalves fX6_largestCluster fX6_largestClusterByHalves
  rw [a1, q1, ob, q3, ob]
  exact ⟨r, rfl, rfl, q2⟩
def clN (K : Nat → Int32) (c : Nat) : Nat → Nat := cnt (fun t => w_u K c t && !w_u K c (t + c - 1))
theorem o_clus4 {c : Nat} {K : Nat → Int32} (hc : cOK c) : ∀ n i, i ≤ c → c - i < n → fX1_number_4 n (II c) K (II (clN K c i)) (II i) = some (II (clN K c c))
  | 0, i, _, hn => by omega
  | n + 1, i, hi, hn => by
    have h64 := hc.le
    unfold fX1_number_4 fX1_number_37
    by_cases e : c ≤ i
    · have e2 : i = c := by omega
      subst e2
      rw [if_pos ((n_le hc.lt hc.lt).mpr e)]
    · have n1 : ¬ II c ≤ II i := fun e3 => e ((n_le hc.lt (by omega)).mp e3)
      have u1 := c_u (m := i) (K := K) hc
      rw [Nat.mod_eq_of_lt (by omega)] at u1
      have ih := o_clus4 (K := K) hc n (i + 1) (by omega) (by omega)
      rw [if_neg n1, u1, ob, show II i + (1 : Int32) = II (i + 1) from n_add i 1]
      cases hu : w_u K c i
      · have es : clN K c (i + 1) = clN K c i := by
          unfold clN
          rw [cnt_s, hu]
          rfl
        rw [if_pos (show bI false = 0 from rfl)]
        rw [es] at ih
        exact ih
      · rw [if_neg (show ¬ bI true = 0 by decide), show fX5_wrap (II c) (II i - (1 : Int32)) = _ from c_wrapN (a := i) (b := 1) hc (by omega), ob, c_u hc, ob]
        cases hv : w_u K c (i + c - 1)
        · have es : clN K c (i + 1) = clN K c i + 1 := by
            unfold clN
            rw [cnt_s, hu, hv]
            rfl
          rw [if_pos (show bI false = 0 from rfl), show II (clN K c i) + (1 : Int32) = II (clN K c i + 1) from n_add _ 1]
          rw [es] at ih
          exact ih
        · have es : clN K c (i + 1) = clN K c i := by
            unfold clN
            rw [cnt_s, hu, hv]
            rfl
          rw [if_neg (show ¬ bI true = 0 by decide)]
          rw [es] at ih
          exact ih
theorem o_clusters {N c kd sd lm fu tb : Nat} {v : LV} (h : LW N v c kd sd lm fu tb) : gl_clusters v = some (II (clN (v.2.1 0) c c)) := by
  obtain ⟨⟨a1, a2, a3, a4, a5, a6⟩, hI, -, -⟩ := h
  have h64 := hI.cok.le
  unfold gl_clusters fX6_clusters fX1_number
  rw [a1]
  rw [show fX1_number_4 1000 (II c) (v.2.1 0) (0 : Int32) (0 : Int32) = some (II (clN (v.2.1 0) c c)) from o_clus4 hI.cok 1000 0 (Nat.zero_le _) (by omega), ob]
/-- the key of a rank -/
theorem o_keyAt {N c kd sd lm fu tb j : Nat} {v : LV} (h : LW N v c kd sd lm fu tb) (hj : j < fu) : ∃ s, s < c ∧ 0 ≤ v.2.1 0 s ∧ rk (v.2.1 0) c (v.2.1 0 s) = j ∧ gl_keyAt v (II j) = some (.inl (v.2.1 0 s)) := by
  obtain ⟨⟨a1, a2, a3, a4, a5, a6⟩, hI, -, -⟩ := h
  have h64 := hI.cok.le
  have hft := hI.ft
  have loop : ∀ n i b, i ≤ j → j - i < n → (∃ s, s < c ∧ 0 ≤ v.2.1 0 s ∧ v.2.1 0 s = b ∧ rk (v.2.1 0) c b = i) → ∃ s, s < c ∧ 0 ≤ v.2.1 0 s ∧ rk (v.2.1 0) c (v.2.1 0 s) = j ∧ fX6_keyAt_36 n (II c) (II fu) (v.2.1 0) (II j) b (II i) = some (Sum.inl (v.2.1 0 s)) := fun n => by
    induction n with
    | zero => intro i b _ hn; omega
    | succ n ih =>
      intro i b hi hn hs
      unfold fX6_keyAt_36
      by_cases e : j ≤ i
      · have e9 : i = j := by omega
        subst e9
        obtain ⟨s, hs1, hs2, e8, hs3⟩ := hs
        subst e8
        rw [if_pos ((n_le (by omega) (by omega)).mpr e)]
        exact ⟨s, hs1, hs2, hs3, rfl⟩
      · obtain ⟨s, hs1, hs2, e2, hs3⟩ := hs
        obtain ⟨t, ht, ht0, ht1, ht2⟩ := c_nextKey hI (j := i + 1) (b := b) (Or.inr ⟨s, hs1, hs2, e2, by omega⟩) (by omega)
        rw [if_neg (fun e3 => e ((n_le (by omega) (by omega)).mp e3)), ht2, ob, show II i + (1 : Int32) = II (i + 1) from n_add i 1]
        exact ih (i + 1) (v.2.1 0 t) (by omega) (by omega) ⟨t, ht, ht0, rfl, ht1⟩
  obtain ⟨t, ht, ht0, ht1, ht2⟩ := c_nextKey hI (j := 0) (b := -1) (Or.inl ⟨rfl, rfl⟩) (by omega)
  obtain ⟨s, hs1, hs2, hs3, hs4⟩ := loop 1000 0 (v.2.1 0 t) (by omega) (by omega) ⟨t, ht, ht0, rfl, ht1⟩
  refine ⟨s, hs1, hs2, hs3, ?_⟩
  unfold gl_keyAt fX6_keyAt
  rw [a1, a5, if_neg (n_nlt0 (by omega)), if_pos ((n_lt (by omega) (by omega)).mpr hj), ht2, ob]
  exact hs4
theorem o_keyAtN {N c kd sd lm fu tb : Nat} {v : LV} (h : LW N v c kd sd lm fu tb) : fL_keyAt v (II fu) = some (-30000) := by
  obtain ⟨⟨a1, a2, a3, a4, a5, a6⟩, hI, -, -⟩ := h
  have h64 := hI.cok.le
  have hft := hI.ft
  unfold fL_keyAt gl_keyAt fX6_keyAt
  rw [a1, a5, if_neg (n_nlt0 (by omega)), if_neg (fun e : II fu < II fu => by have := (n_lt (by omega) (by omega)).mp e; omega), ob]
  rfl
/-- the hardest key, and how many slots its search examines, among the first slots -/
def muN (c kd sd : Nat) (K : Nat → Int32) (i : Nat) : Nat := fs c kd sd K (K i).toNatClampNeg + 1
def hdN (c kd sd : Nat) (K : Nat → Int32) : Nat → Int32 × Nat
  | 0 => (-30000, 0)
  | i + 1 => if fl K i = true then (if (hdN c kd sd K i).2 < muN c kd sd K i then (K i, muN c kd sd K i) else if muN c kd sd K i = (hdN c kd sd K i).2 then (if (hdN c kd sd K i).1 ≤ K i then (hdN c kd sd K i).1 else K i, (hdN c kd sd K i).2) else hdN c kd sd K i) else hdN c kd sd K i
theorem muN_le {c kd sd lm fu tb s : Nat} {K V : Nat → Int32} (hI : Inv c kd sd lm fu tb K V) : 1 ≤ muN c kd sd K s ∧ muN c kd sd K s ≤ 64 := by
  have h64 := hI.cok.le
  have hf := fs_lt (kd := kd) (sd := sd) (k := (K s).toNatClampNeg) hI.cok hI.emp
  unfold muN
  omega
theorem hdN_le {c kd sd lm fu tb : Nat} {K V : Nat → Int32} (hI : Inv c kd sd lm fu tb K V) : ∀ i, (hdN c kd sd K i).2 ≤ 64
  | 0 => by
    unfold hdN
    exact Nat.zero_le _
  | i + 1 => by
    have ih := hdN_le hI i
    have hm := muN_le (s := i) hI
    unfold hdN
    split
    · split
      · exact hm.2
      · split
        · exact ih
        · exact ih
    · exact ih
theorem o_hard6 {c kd sd lm fu tb : Nat} {K V : Nat → Int32} (hI : Inv c kd sd lm fu tb K V) : ∀ n i (b : Int32), i ≤ c → c - i < n → (((hdN c kd sd K i).2 = 0 ∧ b = -1 ∧ (hdN c kd sd K i).1 = -30000) ∨ (0 < (hdN c kd sd K i).2 ∧ b = (hdN c kd sd K i).1 ∧ 0 ≤ b)) → ∃ r, fX6_hardestKey_6 n (II c) (II kd) (II sd) K b (II (hdN c kd sd K i).2) (II i) = some r ∧ hcd [(3, (-30000 : Int32))] r = some (hdN c kd sd K c).1
  | 0, i, _, _, hn, _ => by omega
  | n + 1, i, b, hi, hn, hb => by
    have h64 := hI.cok.le
    have hq := hdN_le hI i
    unfold fX6_hardestKey_6
    by_cases e : c ≤ i
    · have e2 : i = c := by omega
      subst e2
      rw [if_pos ((n_le hI.cok.lt hI.cok.lt).mpr e)]
      rcases hb with ⟨-, h1, h2⟩ | ⟨-, h1, h2⟩
      · rw [if_pos h1, h2]
        exact ⟨_, rfl, rfl⟩
      · rw [if_neg (fun e3 => by rw [e3] at h2; exact absurd h2 (by decide)), ← h1]
        exact ⟨_, rfl, rfl⟩
    · have n1 : ¬ II c ≤ II i := fun e3 => e ((n_le hI.cok.lt (by omega)).mp e3)
      have e1 : II i + (1 : Int32) = II (i + 1) := n_add i 1
      have ih := fun b' => o_hard6 hI n (i + 1) b' (by omega) (by omega)
      rw [if_neg n1, c_content (by omega), ob, c_isFull (by omega), ob]
      by_cases z : K i < 0
      · have es : hdN c kd sd K (i + 1) = hdN c kd sd K i := by
          rw [hdN, if_neg (fun e4 : fl K i = true => absurd (of_decide_eq_true e4) (i_nle.mpr z))]
        rw [es] at ih
        rw [if_pos z, if_pos rfl]
        unfold fX6_hardestKey_51 fX6_hardestKey_82
        rw [e1, if_neg (n_nlt0 (by omega)), if_pos (show (0 : Int32) ≤ (0 : Int32) by decide)]
        by_cases e5 : (0 : Int32) = II (hdN c kd sd K i).2
        · rw [if_pos e5]
          exact ih b hb
        · rw [if_neg e5]
          exact ih b hb
      · have hfl : fl K i = true := decide_eq_true (i_nlt.mp z)
        obtain ⟨k, hk, ek⟩ := hI.kt.pos (s := i) (by omega) (i_nlt.mp z)
        have hm := muN_le (s := i) hI
        have hmu : fs c kd sd K k + 1 = muN c kd sd K i := by
          unfold muN
          rw [ek, n_cl (by omega)]
        have hk0 : (0 : Int32) ≤ II k := n_0le (by omega)
        rw [hdN, if_pos hfl] at ih
        rw [if_neg z, if_neg i1n0, ek, c_search hI.cok hI.kd2 hI.sd9 hk hI.emp, ob, hmu]
        unfold fX6_hardestKey_51 fX6_hardestKey_82
        rw [e1]
        rw [ek] at ih
        generalize muN c kd sd K i = m at ih hm ⊢
        generalize hdN c kd sd K i = P at ih hb hq ⊢
        obtain ⟨p, q⟩ := P
        have hq : q ≤ 64 := hq
        have hlt : (II q < II m) ↔ q < m := n_lt (by omega) (by omega)
        have heq : (II m = II q) ↔ m = q := n_eq (by omega) (by omega)
        show ∃ r, (if II q < II m then _ else _) = some r ∧ _
        by_cases z1 : q < m
        · rw [if_pos (hlt.mpr z1)]
          rw [if_pos (show (p, q).2 < m from z1)] at ih
          exact ih (II k) (Or.inr ⟨by show 0 < m; omega, rfl, hk0⟩)
        · rw [if_neg (fun e6 => z1 (hlt.mp e6))]
          rw [if_neg (show ¬ (p, q).2 < m from z1)] at ih
          by_cases z2 : m = q
          · rw [if_pos (heq.mpr z2), if_neg (fun e3 : II m ≤ (0 : Int32) => by have := (n_le (b := 0) (by omega) (by decide)).mp e3; omega)]
            rw [if_pos (show m = (p, q).2 from z2)] at ih
            have hb2 : b = p ∧ 0 ≤ b := by
              rcases hb with ⟨h0, -, -⟩ | ⟨-, h1, h2⟩
              · have : q = 0 := h0
                omega
              · exact ⟨h1, h2⟩
            rw [hb2.1]
            by_cases z3 : p ≤ II k
            · rw [if_pos z3]
              rw [if_pos (show (p, q).1 ≤ II k from z3)] at ih
              exact ih p (Or.inr ⟨by show 0 < q; omega, rfl, by rw [← hb2.1]; exact hb2.2⟩)
            · rw [if_neg z3, z2]
              rw [if_neg (show ¬ (p, q).1 ≤ II k from z3)] at ih
              exact ih (II k) (Or.inr ⟨by show 0 < q; omega, rfl, hk0⟩)
          · rw [if_neg (fun e6 => z2 (heq.mp e6))]
            rw [if_neg (show ¬ m = (p, q).2 from z2)] at ih
            exact ih b hb
theorem o_hardest {N c kd sd lm fu tb : Nat} {v : LV} (h : LW N v c kd sd lm fu tb) : fL_hardestKey v = some (hdN c kd sd (v.2.1 0) c).1 := by
  obtain ⟨⟨a1, a2, a3, a4, a5, a6⟩, hI, -, -⟩ := h
  have h64 := hI.cok.le
  obtain ⟨r, q1, q2⟩ := o_hard6 hI 1000 0 (-1) (Nat.zero_le _) (by omega) (Or.inl ⟨rfl, rfl, rfl⟩)
  unfold fL_hardestKey gl_hardestKey fX6_hardestKey
  rw [a1, a2, a3]
  rw [show fX6_hardestKey_6 1000 (II c) (II kd) (II sd) (v.2.1 0) (-1 : Int32) (0 : Int32) (0 : Int32) = some r from q1, ob]
  exact q2
theorem o_cons {N c kd sd lm fu tb : Nat} {v : LV} (h : LW N v c kd sd lm fu tb) : ∃ v', gl_isConsistent v = some (1, v') ∧ LW N v' c kd sd lm fu tb ∧ v'.2.1 0 = v.2.1 0 ∧ v'.2.1 1 = v.2.1 1 := by
  obtain ⟨⟨a1, a2, a3, a4, a5, a6⟩, hI, hH, hC⟩ := h
  have h64 := hI.cok.le
  have z1 := c_agree_2 hI 1000 0 (by omega) (by omega)
  have z2 := c_seqs_2 hI 1000 0 (by omega) (by omega)
  obtain ⟨r, q1, q2⟩ := c_around (K := v.2.1 0) hI.cok hI.wE
  obtain ⟨r', q3, q4⟩ := c_halves (K := v.2.1 0) hI.cok hI.wE
  cases w_max1 q2 q4
  obtain ⟨o', z3⟩ := c_every_2 hI (v.1 9) (v.1 10) 1000 0 (v.1 11) (v.1 12) (v.1 13) (v.1 14) (v.1 15) (v.1 16) (v.1 17) (v.1 18) (v.2.1 4) (v.2.1 5) (v.2.1 6) (v.2.1 7) (by omega) (by omega)
  have e6 : fX6_isConsistent (v.1 3) (v.1 4) (v.1 5) (v.1 6) (v.1 7) (v.1 8) (v.1 9) (v.1 10) (v.2.1 0) (v.2.1 1) (v.1 11) (v.1 12) (v.1 13) (v.1 14) (v.1 15) (v.1 16) (v.1 17) (v.1 18) (v.2.1 4) (v.2.1 5) (v.2.1 6) (v.2.1 7) = some (1, o'.1, o'.2.1, o'.2.2.1, o'.2.2.2.1, o'.2.2.2.2.1, o'.2.2.2.2.2.1, o'.2.2.2.2.2.2.1, o'.2.2.2.2.2.2.2.1, o'.2.2.2.2.2.2.2.2.1, o'.2.2.2.2.2.2.2.2.2.1, o'.2.2.2.2.2.2.2.2.2.2.1, o'.2.2.2.2.2.2.2.2.2.2.2) := by
    rw [a1, a2, a3, a4, a5, a6]
    unfold fX6_isConsistent fX5_bothCountsAgree fX5_sequencesVisitAllSlots fX6_everyKindKeepsTheKeys
    rw [show fX5_bothCountsAgree_2 1000 (II c) (II kd) (II sd) (v.2.1 0) (0 : Int32) = some 1 from z1, ob, if_neg i1n0, q1, ob, q3, ob, if_pos rfl, show fX5_sequencesVisitAllSlots_2 1000 (II c) (II kd) (II sd) (v.2.1 0) (0 : Int32) = some 1 from z2, ob, if_neg i1n0]
    rw [show fX6_everyKindKeepsTheKeys_2 1000 (II c) (II kd) (II sd) (II lm) (II fu) (II tb) (v.1 9) (v.1 10) (v.2.1 0) (v.2.1 1) (v.1 11) (v.1 12) (v.1 13) (v.1 14) (v.1 15) (v.1 16) (v.1 17) (v.1 18) (v.2.1 4) (v.2.1 5) (v.2.1 6) (v.2.1 7) (0 : Int32) = some (1, o') from z3, ob]
    exact if_neg (show ¬ (1 : Int32) = 0 by decide)
  have e7 := (o_bd e6 : gl_isConsistent v = _)
  exact ⟨_, e7, ⟨⟨a1, a2, a3, a4, a5, a6⟩, hI, hH, hC⟩, rfl, rfl⟩
