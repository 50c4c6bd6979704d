/-! the law's small methods -/
theorem l_shr (x : Int32) : ∃ y : Nat, y < 2147483648 ∧ (x.toUInt32 >>> ((3 : Int32).toUInt32 &&& Int32.toUInt32 31)).toInt32 = II y := by
  have h3 : ((3 : Int32).toUInt32 &&& Int32.toUInt32 31) = (3 : UInt32) := by decide
  rw [h3]
  refine ⟨(x.toUInt32 >>> (3 : UInt32)).toNat, ?_, ?_⟩
  · rw [UInt32.toNat_shiftRight, show (3 : UInt32).toNat % 32 = 3 from by decide, Nat.shiftRight_eq_div_pow]
    have := x.toUInt32.toNat_lt
    omega
  · show (x.toUInt32 >>> (3 : UInt32)).toInt32 = (UInt32.ofNat (x.toUInt32 >>> (3 : UInt32)).toNat).toInt32
    rw [UInt32.ofNat_toNat]
theorem l_some {g : LG} (hg : g.2.2.2.1 < 2147483648) {a n : Nat} (ha : a < 2147483648) (hn : 1 ≤ n) (hn2 : n < 2147483648) : ∃ b, b < n ∧ fL_some g (II a) (II n) = some (II b) := by
  have hcell : ∃ x, fL_cell g (II a) = some x := by
    unfold fL_cell
    by_cases e : Int32.ofNat g.2.2.2.1 ≤ II a
    · rw [if_pos e]
      exact ⟨_, rfl⟩
    · rw [if_neg e]
      have h1 : ¬ g.2.2.2.1 ≤ a := fun e2 => e ((n_le hg ha).mpr e2)
      rw [if_pos (n_in ha (by omega))]
      exact ⟨_, rfl⟩
  obtain ⟨x, hx⟩ := hcell
  obtain ⟨y, hy, ey⟩ := l_shr x
  unfold fL_some
  rw [hx, ob, if_neg (fun e : II n = (0 : Int32) => by have := (n_eq (b := 0) hn2 (by decide)).mp e; omega), ey, n_rem hy hn2]
  exact ⟨y % n, Nat.mod_lt _ (by omega), rfl⟩
theorem l_slot47 {N c kd sd lm fu tb i x st : Nat} {v : LV} (h : LW N v c kd sd lm fu tb) (hi : i ≤ 64) (hx : x < 65536) (hs : st < 64) : fL_slot_47 v (II i) (II c) (II x) (II st) = some (II ((x + ofN kd i st) % c)) := by
  have hI := h.2.1
  have h64 := hI.cok.le
  have hb := ofN_lt (kd := kd) hi hs
  unfold fL_slot_47 ofN
  unfold ofN at hb
  rw [o_kind h, ob]
  by_cases e : kd = 1
  · rw [if_pos (show II kd = (1 : Int32) from by rw [e]; rfl), if_neg (c_ne0 hI.cok), if_pos e, m_tri hi, n_add, n_rem (by rw [if_pos e] at hb; omega) (by omega)]
  · rw [if_neg (fun e2 : II kd = (1 : Int32) => e ((n_eq (b := 1) (by have := hI.kd2; omega) (by decide)).mp e2)), if_neg (c_ne0 hI.cok), if_neg e, n_mul, n_add, n_rem (by rw [if_neg e] at hb; omega) (by omega)]
theorem l_slot {N c kd sd lm fu tb k i : Nat} {v : LV} (h : LW N v c kd sd lm fu tb) (hk : k ≤ 9999) (hi : i ≤ 64) : fL_slot v (II k) (II i) = some (II (sq c kd sd k i)) := by
  have hI := h.2.1
  have h64 := hI.cok.le
  have hst := stN_lt (kd := kd) (h := hN k sd) hI.cok
  unfold fL_slot sq
  rw [o_cap h, ob, o_seed h, ob, o_kind h, ob, m_hash hk hI.sd9]
  by_cases e : kd = 2
  · rw [if_pos (show II kd = (2 : Int32) from by rw [e]; rfl), if_neg (c_ne0 hI.cok), if_neg (c_half0 hI.cok), m_stride hI.cok (hN_lt k sd)]
    unfold stN at hst ⊢
    rw [if_pos e] at hst ⊢
    exact l_slot47 h hi (hN_lt k sd) (Nat.lt_of_lt_of_le hst h64)
  · rw [if_neg (fun e2 : II kd = (2 : Int32) => e ((n_eq (b := 2) (by have := hI.kd2; omega) (by decide)).mp e2))]
    unfold stN
    rw [if_neg e]
    exact l_slot47 (st := 1) h hi (hN_lt k sd) (by omega)
theorem l_no {k : Nat} (hk : k ≤ 9999) : ¬ (-30000 : Int32) = II k := fun e => by
  have h1 := n_0le (a := k) (by omega)
  rw [← e] at h1
  exact absurd h1 (by decide)
theorem l_exam2 {N c kd sd lm fu tb k : Nat} {v : LV} (h : LW N v c kd sd lm fu tb) (hk : k ≤ 9999) : ∀ n i, i ≤ fs c kd sd (v.2.1 0) k → fs c kd sd (v.2.1 0) k - i < n → fL_examined_2 n v (II k) (II i) = some (II (fs c kd sd (v.2.1 0) k + 1))
  | 0, i, _, hn => by omega
  | n + 1, i, hi, hn => by
    have hI := h.2.1
    have h64 := hI.cok.le
    have hf := fs_lt (kd := kd) (sd := sd) (k := k) hI.cok hI.emp
    have hsl := sq_lt (kd := kd) (sd := sd) (k := k) (i := i) hI.cok
    have e1 : II i + (1 : Int32) = II (i + 1) := n_add i 1
    unfold fL_examined_2 fL_examined_39
    rw [l_slot h hk (by omega), ob, o_keyIn h hsl, ob, o_used h hsl, e1]
    by_cases e : i = fs c kd sd (v.2.1 0) k
    · rcases fs_at (kd := kd) (sd := sd) (k := k) hI.cok hI.emp with g | g
      · have g2 : v.2.1 0 (sq c kd sd k i) = II k := by rw [e]; exact g
        rw [if_pos (show (if fl (v.2.1 0) (sq c kd sd k i) = true then v.2.1 0 (sq c kd sd k i) else -30000) = II k from by
          rw [if_pos (by unfold fl; rw [g2]; exact decide_eq_true (n_0le (by omega)))]
          exact g2), e]
      · have g2 : v.2.1 0 (sq c kd sd k i) = -1 := by rw [e]; exact g
        have g3 : fl (v.2.1 0) (sq c kd sd k i) = false := by unfold fl; rw [g2]; rfl
        have g4 : w_k (v.2.1 0) (sq c kd sd k i) = false := by unfold w_k; rw [g2]; rfl
        rw [g3, g4, if_neg (fun e2 : (if false = true then v.2.1 0 (sq c kd sd k i) else (-30000 : Int32)) = II k => l_no hk e2), if_neg (by decide), e]
    · obtain ⟨g1, g2⟩ := fs_before (kd := kd) (sd := sd) (k := k) (c := c) (K := v.2.1 0) (j := i) (by omega)
      have g4 : w_k (v.2.1 0) (sq c kd sd k i) = true := decide_eq_true g2
      rw [g4, if_neg (fun e2 : (if fl (v.2.1 0) (sq c kd sd k i) = true then v.2.1 0 (sq c kd sd k i) else (-30000 : Int32)) = II k => by
        by_cases e3 : fl (v.2.1 0) (sq c kd sd k i) = true
        · rw [if_pos e3] at e2
          exact g1 e2
        · rw [if_neg e3] at e2
          exact l_no hk e2), if_pos rfl]
      exact l_exam2 h hk n (i + 1) (by omega) (by omega)
theorem l_exam {N c kd sd lm fu tb k : Nat} {v : LV} (h : LW N v c kd sd lm fu tb) (hk : k ≤ 9999) : fL_examined v (II k) = some (II (fs c kd sd (v.2.1 0) k + 1)) := by
  have hI := h.2.1
  have h64 := hI.cok.le
  have hf := fs_lt (kd := kd) (sd := sd) (k := k) hI.cok hI.emp
  exact l_exam2 h hk 66 0 (Nat.zero_le _) (by omega)
theorem l_remove {N c kd sd lm fu tb k : Nat} {v : LV} (h : LW N v c kd sd lm fu tb) (hk : k ≤ 9999) : ∃ z v' fu' tb', fL_remove v (II k) = some (z, v') ∧ LW (N + 1) v' c kd sd lm fu' tb' := by
  obtain ⟨r, v', fu', tb', e, hr, hL⟩ := w_remove h hk
  unfold fL_remove
  rw [e, ob]
  rcases hr with ⟨z, rfl⟩ | rfl
  · exact ⟨_, v', fu', tb', rfl, hL⟩
  · exact ⟨_, v', fu', tb', rfl, hL⟩
theorem l_setKind {N c kd sd lm fu tb k : Nat} {v : LV} (h : LW N v c kd sd lm fu tb) (hk : k ≤ 2) : ∃ z v', fL_setKind v (II k) = some (z, v') ∧ LW (N + 1) v' c k sd lm fu 0 := by
  obtain ⟨z, v', e, hL⟩ := w_setKind h hk
  unfold fL_setKind
  rw [e, ob]
  exact ⟨_, v', rfl, hL⟩
theorem l_setSeed {N c kd sd lm fu tb k : Nat} {v : LV} (h : LW N v c kd sd lm fu tb) (hk : k ≤ 999) : ∃ z v', fL_setSeed v (II k) = some (z, v') ∧ LW (N + 1) v' c kd k lm fu 0 := by
  obtain ⟨z, v', e, hL⟩ := w_setSeed h hk
  unfold fL_setSeed
  rw [e, ob]
  exact ⟨_, v', rfl, hL⟩
theorem l_setLimit {N c kd sd lm fu tb k : Nat} {v : LV} (h : LW N v c kd sd lm fu tb) (hk : 25 ≤ k ∧ k ≤ 90) : ∃ z v', fL_setLimit v (II k) = some (z, v') ∧ LW (N + 1) v' c kd sd k fu tb := by
  obtain ⟨z, v', e, hL⟩ := w_setLimit h hk
  unfold fL_setLimit
  rw [e, ob]
  exact ⟨_, v', rfl, hL⟩
theorem l_put {N c kd sd lm fu tb k : Nat} {v : LV} (h : LW N v c kd sd lm fu tb) (hk : k ≤ 9999) {x : Int32} (hx : (-999 : Int32) ≤ x ∧ x ≤ (999 : Int32)) : ∃ z v', fL_put v (II k) x = some (z, v') ∧ LE (N + 1) v' kd sd lm (eN c kd sd lm fu tb (v.2.1 0) k) := by
  obtain ⟨r, v', e, hr, hL⟩ := w_put h hk hx
  unfold fL_put
  rw [e, ob]
  rcases hr with rfl | rfl | rfl
  · exact ⟨_, v', rfl, hL⟩
  · exact ⟨_, v', rfl, hL⟩
  · exact ⟨_, v', rfl, hL⟩
/-- a laboratory behind at most N changes -/
def LX (N : Nat) (v : LV) : Prop := ∃ c kd sd lm fu tb, LW N v c kd sd lm fu tb
theorem LX.of {N c kd sd lm fu tb : Nat} {v : LV} (h : LW N v c kd sd lm fu tb) : LX N v := ⟨c, kd, sd, lm, fu, tb, h⟩
theorem LX.mono {N M : Nat} {v : LV} (h : LX N v) (hm : N ≤ M) : LX M v := by
  obtain ⟨c, kd, sd, lm, fu, tb, h⟩ := h
  exact ⟨c, kd, sd, lm, fu, tb, h.mono hm⟩
theorem l_val : ∀ w, w < 1999 → (-999 : Int32) ≤ II w - (999 : Int32) ∧ II w - (999 : Int32) ≤ (999 : Int32) := by decide +kernel
theorem l_a168 {g : LG} {N c kd sd lm fu tb w k : Nat} {v : LV} (h : LW N v c kd sd lm fu tb) (hk : k ≤ 9999) (hw : w < 1999) : ∃ v', fL_acts_168 g v (II w) (II k) = some v' ∧ LX (N + 1) v' := by
  have hI := h.2.1
  have h64 := hI.cok.le
  have hft := hI.ft
  unfold fL_acts_168
  rw [o_size h, ob]
  by_cases e : fu = 0
  · obtain ⟨z, v', fu', tb', q, hL⟩ := l_remove h hk
    rw [if_pos (show II fu ≤ (0 : Int32) from (n_le (b := 0) (by omega) (by decide)).mpr (by omega)), q, ob]
    exact ⟨v', rfl, LX.of hL⟩
  · rw [if_neg (fun e2 : II fu ≤ (0 : Int32) => by have := (n_le (b := 0) (by omega) (by decide)).mp e2; omega), ob, if_neg (fun e2 : II fu = (0 : Int32) => e ((n_eq (b := 0) (by omega) (by decide)).mp e2)), n_rem (by omega) (by omega)]
    obtain ⟨s, hs, h0, hrk, q⟩ := o_keyAt h (j := w % fu) (Nat.mod_lt _ (by omega))
    obtain ⟨k2, hk2, ek⟩ := hI.kt.pos (s := s) (by omega) h0
    rw [ek] at q
    obtain ⟨z, v', fu', tb', q2, hL⟩ := l_remove h hk2
    rw [q, ob, o_iD, q2, ob]
    exact ⟨v', rfl, LX.of hL⟩
theorem l_a29 {g : LG} (hg : g.2.2.2.1 < 2147483648) {N c kd sd lm fu tb w a n : Nat} {v : LV} (h : LW N v c kd sd lm fu tb) (hw : w < 1999) (ha : a ≤ 1000) (hn : 1 ≤ n) (hn2 : n ≤ 10000) : ∃ v', fL_acts_29 g v (II a) (II w) (II n) (II (a + 2)) = some v' ∧ LX (N + 1) v' := by
  have hI := h.2.1
  obtain ⟨k, hk, q1⟩ := l_some hg (a := a + 2) (n := n) (by omega) hn (by omega)
  obtain ⟨q, hq, q2⟩ := l_some hg (a := a) (n := 16) (by omega) (by omega) (by omega)
  have r3 : hl_rem (II w) (3 : Int32) = II (w % 3) := n_rem (b := 3) (by omega) (by decide)
  have r4 : hl_rem (II w) (4 : Int32) = II (w % 4) := n_rem (b := 4) (by omega) (by decide)
  have r5 : hl_rem (II w) (5 : Int32) = II (w % 5) := n_rem (b := 5) (by omega) (by decide)
  have r1000 : hl_rem (II w) (1000 : Int32) = II (w % 1000) := n_rem (b := 1000) (by omega) (by decide)
  have r66 : (25 : Int32) + hl_rem (II w) (66 : Int32) = II (25 + w % 66) := by
    rw [show hl_rem (II w) (66 : Int32) = II (w % 66) from n_rem (b := 66) (by omega) (by decide)]
    exact n_add 25 _
  unfold fL_acts_29
  rw [q1, ob, show fL_some g (II a) (16 : Int32) = some (II q) from q2, ob, r3, r4, r5, r1000, r66]
  have fin : LX (N + 1) v := (LX.of h).mono (by omega)
  by_cases e0 : II q = (0 : Int32)
  · obtain ⟨z, v', q3, hL⟩ := l_setKind h (k := w % 3) (by omega)
    rw [if_pos e0, q3, ob]
    exact ⟨v', rfl, LX.of hL⟩
  · rw [if_neg e0]
    by_cases e1 : II q = (1 : Int32)
    · rw [if_pos e1]
      by_cases e2 : II (w % 4) = (0 : Int32)
      · obtain ⟨z, v', q3, hL⟩ := l_setSeed h (k := w % 1000) (by omega)
        rw [if_pos e2, q3, ob]
        exact ⟨v', rfl, LX.of hL⟩
      · rw [if_neg e2]
        exact ⟨v, rfl, fin⟩
    · rw [if_neg e1]
      by_cases e2 : II q = (2 : Int32)
      · obtain ⟨z, v', q3, hL⟩ := l_setLimit h (k := 25 + w % 66) (by omega)
        rw [if_pos e2, q3, ob]
        exact ⟨v', rfl, LX.of hL⟩
      · rw [if_neg e2]
        by_cases e3 : II q = (3 : Int32)
        · obtain ⟨z, v', q3, hL⟩ := w_rebuild h
          rw [if_pos e3, q3, ob]
          exact ⟨v', rfl, LX.of hL⟩
        · rw [if_neg e3]
          by_cases e4 : II q = (4 : Int32)
          · rw [if_pos e4]
            by_cases e5 : II (w % 5) = (0 : Int32)
            · obtain ⟨z, v', q3, hL⟩ := w_clear h
              rw [if_pos e5, q3, ob]
              exact ⟨v', rfl, LX.of hL⟩
            · rw [if_neg e5]
              exact ⟨v, rfl, fin⟩
          · rw [if_neg e4]
            by_cases e5 : II q = (5 : Int32)
            · rw [if_pos e5]
              exact l_a168 h (by omega) hw
            · rw [if_neg e5]
              by_cases e6 : II q = (6 : Int32)
              · rw [if_pos e6]
                exact l_a168 h (by omega) hw
              · rw [if_neg e6]
                by_cases e7 : II q = (7 : Int32)
                · rw [if_pos e7]
                  exact l_a168 h (by omega) hw
                · obtain ⟨z, v', q3, hL⟩ := l_put h (k := k) (by omega) (l_val w hw)
                  rw [if_neg e7, q3, ob]
                  exact ⟨v', rfl, LX.of hL.1⟩
theorem l_acts {g : LG} (hg : g.2.2.2.1 < 2147483648) {N a : Nat} {v : LV} (h : LX N v) (ha : a ≤ 1000) : ∃ v', fL_acts g v (II a) = some v' ∧ LX (N + 1) v' := by
  obtain ⟨c, kd, sd, lm, fu, tb, h⟩ := h
  obtain ⟨w, hw, q⟩ := l_some hg (a := a + 1) (n := 1999) (by omega) (by omega) (by omega)
  unfold fL_acts
  rw [show II a + (1 : Int32) = II (a + 1) from n_add a 1, show fL_some g (II (a + 1)) (1999 : Int32) = some (II w) from q, ob, show II a + (2 : Int32) = II (a + 2) from n_add a 2]
  by_cases e : hl_rem (II w) (3 : Int32) = 0
  · rw [if_pos e]
    exact l_a29 hg h hw ha (n := 10000) (by omega) (by omega)
  · rw [if_neg e]
    exact l_a29 hg h hw ha (n := 40) (by omega) (by omega)
theorem l_build26 {g : LG} (hg : g.2.2.2.1 < 2147483648) : ∀ n i (v : LV), i ≤ 24 → 24 - i < n → LX (2 + i) v → ∃ v', fL_build_26 g n v (II i) = some v' ∧ LX 26 v'
  | 0, i, _, _, hn, _ => by omega
  | n + 1, i, v, hi, hn, h => by
    unfold fL_build_26
    by_cases e : 24 ≤ i
    · rw [if_pos (show (24 : Int32) ≤ II i from (n_le (a := 24) (by decide) (by omega)).mpr e)]
      exact ⟨v, rfl, h.mono (by omega)⟩
    · obtain ⟨v', q, h'⟩ := l_acts hg h (a := 2 + 3 * i) (by omega)
      rw [if_neg (fun e2 : (24 : Int32) ≤ II i => e ((n_le (a := 24) (by decide) (by omega)).mp e2)), show (2 : Int32) + ((3 : Int32) * II i) = II (2 + 3 * i) from by
        show II 2 + (II 3 * II i) = _
        rw [n_mul, n_add], q, ob, show II i + (1 : Int32) = II (i + 1) from n_add i 1]
      exact l_build26 hg n (i + 1) v' (by omega) (by omega) h'
theorem l_new {K0 : Nat → Int32} (hK : K0 = eK (fun _ => 0)) : LW 0 (lv0 K0) 8 0 0 70 0 0 := by
  subst hK
  exact ⟨⟨rfl, rfl, rfl, rfl, rfl, rfl⟩, Inv.empty (Or.inl rfl) (by omega) (by omega) (by omega), ⟨0, 0, by omega, by omega, rfl, rfl⟩, ⟨0, 0, by omega, by omega, rfl, rfl⟩⟩
theorem l_build {g : LG} (hg : g.2.2.2.1 < 2147483648) {K0 : Nat → Int32} (hK : K0 = eK (fun _ => 0)) : ∃ v', fL_build g (lv0 K0) = some v' ∧ LX 26 v' := by
  obtain ⟨a, ha, q1⟩ := l_some hg (a := 0) (n := 3) (by omega) (by omega) (by omega)
  obtain ⟨b, hb, q2⟩ := l_some hg (a := 1) (n := 1000) (by omega) (by omega) (by omega)
  obtain ⟨z, v1, q3, h1⟩ := l_setKind (l_new hK) (k := a) (by omega)
  obtain ⟨z2, v2, q4, h2⟩ := l_setSeed h1 (k := b) (by omega)
  unfold fL_build
  rw [show fL_some g (0 : Int32) (3 : Int32) = some (II a) from q1, ob, q3, ob, show fL_some g (1 : Int32) (1000 : Int32) = some (II b) from q2, ob, q4, ob]
  exact l_build26 hg 25 0 v2 (by omega) (by omega) (LX.of h2)
