/-! a laboratory's invariant, and its changes -/
theorem o_bd {α β : Type} {o : Option α} {a : α} {f : α → Option β} (h : o = some a) : o.bind f = f a := by rw [h]; rfl
def HI (a b : Int32) : Prop := ∃ n k : Nat, n < 8 ∧ k ≤ 8 ∧ a = II n ∧ b = II k
def CT (N : Nat) (rb gr : Int32) : Prop := ∃ a b : Nat, b ≤ a ∧ a ≤ N ∧ rb = II a ∧ gr = II b
def LW (N : Nat) (v : LV) (c kd sd lm fu tb : Nat) : Prop := ((v.1 3) = II c ∧ (v.1 4) = II kd ∧ (v.1 5) = II sd ∧ (v.1 6) = II lm ∧ (v.1 7) = II fu ∧ (v.1 8) = II tb) ∧ Inv c kd sd lm fu tb (v.2.1 0) (v.2.1 1) ∧ HI (v.1 35) (v.1 36) ∧ CT N (v.1 9) (v.1 10)
def LE (N : Nat) (v : LV) (kd sd lm : Nat) (e : Nat × Nat × Nat × (Nat → Int32)) : Prop := LW N v e.1 kd sd lm e.2.1 e.2.2.1 ∧ v.2.1 0 = e.2.2.2
theorem CT.mono {N M : Nat} {a b : Int32} (h : CT N a b) (hm : N ≤ M) : CT M a b := by
  obtain ⟨x, y, h1, h2, h3, h4⟩ := h
  exact ⟨x, y, h1, by omega, h3, h4⟩
theorem LW.mono {N M c kd sd lm fu tb : Nat} {v : LV} (h : LW N v c kd sd lm fu tb) (hm : N ≤ M) : LW M v c kd sd lm fu tb := ⟨h.1, h.2.1, h.2.2.1, h.2.2.2.mono hm⟩
theorem CT.up {N : Nat} {a b d6 d7 : Int32} (h : CT N a b) (hd : (d6 = 0 ∧ d7 = 0) ∨ (d6 = 1 ∧ (d7 = 0 ∨ d7 = 1))) : CT (N + 1) (a + d6) (b + d7) := by
  obtain ⟨x, y, h1, h2, rfl, rfl⟩ := h
  rcases hd with ⟨rfl, rfl⟩ | ⟨rfl, rfl | rfl⟩
  · exact ⟨x, y, h1, by omega, Int32.add_zero _, Int32.add_zero _⟩
  · exact ⟨x + 1, y, by omega, by omega, n_add x 1, Int32.add_zero _⟩
  · exact ⟨x + 1, y + 1, by omega, by omega, n_add x 1, n_add y 1⟩
theorem h_rec {a b : Int32} (h : HI a b) (cp kd sd lm fu tb rb gr : Int32) (K V : Nat → Int32) (hp : Nat → hTT) : ∃ a' b' hp', HI a' b' ∧ fX2_record a b cp kd sd lm fu tb rb gr K V hp = some (a', b', hp') := by
  obtain ⟨n, k, hn, hk, rfl, rfl⟩ := h
  have hrec : ∀ n', n' < 8 → ∃ hp', fX2_record_22 (II n) (II k) cp kd sd lm fu tb rb gr K V hp (II n') = some (II n', II (min 8 (k + 1)), hp') := fun n' hn' => by
    unfold fX2_record_22
    rw [if_pos (n_in (by omega) hn'), n_cl (by omega), c_copyFrom, ob, show II k + (1 : Int32) = II (k + 1) from n_add k 1]
    by_cases e : k = 8
    · subst e
      rw [if_pos (by decide)]
      exact ⟨_, rfl⟩
    · rw [if_neg (fun e2 : (8 : Int32) < II (k + 1) => by have := (n_lt (a := 8) (by decide) (by omega)).mp e2; omega), show min 8 (k + 1) = k + 1 from by omega]
      exact ⟨_, rfl⟩
  unfold fX2_record
  rw [show II n + (1 : Int32) = II (n + 1) from n_add n 1]
  by_cases e : n = 7
  · subst e
    obtain ⟨hp', h1⟩ := hrec 0 (by omega)
    rw [if_pos (by decide)]
    exact ⟨_, _, hp', ⟨0, min 8 (k + 1), by omega, by omega, rfl, rfl⟩, h1⟩
  · obtain ⟨hp', h1⟩ := hrec (n + 1) (by omega)
    rw [if_neg (fun e2 : (8 : Int32) ≤ II (n + 1) => by have := (n_le (a := 8) (by decide) (by omega)).mp e2; omega)]
    exact ⟨_, _, hp', ⟨n + 1, min 8 (k + 1), by omega, by omega, rfl, rfl⟩, h1⟩
theorem Inv.lim {c kd sd lm fu tb lm' : Nat} {K V : Nat → Int32} (h : Inv c kd sd lm fu tb K V) (hl : 25 ≤ lm' ∧ lm' ≤ 90) : Inv c kd sd lm' fu tb K V := by
  obtain ⟨a1, a2, a3, a4, a5, a6, a7, a8, a9, a10, a11, a12⟩ := h
  exact ⟨a1, a2, a3, hl, a5, a6, a7, a8, a9, a10, a11, a12⟩
theorem w_put {N c kd sd lm fu tb : Nat} {v : LV} (h : LW N v c kd sd lm fu tb) {k : Nat} (hk : k ≤ 9999) {x : Int32} (hx : (-999 : Int32) ≤ x ∧ x ≤ (999 : Int32)) : ∃ r v', gl_put v (II k) x = some (r, v') ∧ (r = .inl 0 ∨ r = .inl 1 ∨ r = .inr 2) ∧ LE (N + 1) v' kd sd lm (eN c kd sd lm fu tb (v.2.1 0) k) := by
  obtain ⟨⟨a1, a2, a3, a4, a5, a6⟩, hI, hH, hC⟩ := h
  obtain ⟨n, q, hp, hH2, e1⟩ := h_rec hH (II c) (II kd) (II sd) (II lm) (II fu) (II tb) (v.1 9) (v.1 10) (v.2.1 0) (v.2.1 1) v.2.2
  obtain ⟨r, d6, d7, V', O', W', q1, q2, qd, q3, q4⟩ := e_enter hI hk hx (v.2.1 2) (v.2.1 3) (v.1 9) (v.1 10)
  have hroom := c_room hI.cok hI.lm9.2 hI.ft
  by_cases hr : r = 0
  · obtain ⟨z1, z2, z3⟩ := q4.mp hr
    have hz := (q3.resolve_left (fun z => by rw [z] at hr; exact absurd hr (by decide))).2
    have e6 : fX6_put (v.1 3) (v.1 4) (v.1 5) (v.1 6) (v.1 7) (v.1 8) (v.1 9) (v.1 10) (v.2.1 0) (v.2.1 1) (v.2.1 2) (v.2.1 3) (v.1 35) (v.1 36) v.2.2 (II k) x = some (Sum.inr 2, II c, II fu, II tb, (v.1 9), (v.1 10), (v.2.1 0), (v.2.1 1), (v.2.1 2), (v.2.1 3), (v.1 35), (v.1 36), v.2.2) := by
      unfold fX6_put
      rw [a1, a2, a3, a4, a5, a6, c_isKey hk, ob, if_neg i1n0, c_isValue hx, ob, if_neg i1n0, c_hold hI.cok hI.kd2 hI.sd9 hk hI.emp, ob, if_neg z1, if_pos rfl]
      unfold fX6_put_41
      rw [if_neg i1n0, hroom, ob, if_neg z2, if_neg z3, if_pos rfl]
    have e7 := (o_bd e6 : gl_put v (II k) x = _)
    rw [hz]
    exact ⟨_, _, e7, Or.inr (Or.inr rfl), ⟨⟨rfl, a2, a3, a4, rfl, rfl⟩, hI, hH, hC.mono (by omega)⟩, rfl⟩
  · have hr1 : r = 1 := q3.elim id (fun e => absurd e.1 hr)
    subst hr1
    generalize eN c kd sd lm fu tb (v.2.1 0) k = E at q1 q2 q3 ⊢
    obtain ⟨c', fu', tb', K'⟩ := E
    have hn : ¬ ((v.2.1 0) (hs c kd sd (v.2.1 0) k) ≠ II k ∧ ¬ 100 * (fu + tb + 1) ≤ lm * c ∧ ¬ 100 * (fu + 1) ≤ lm * nc c lm fu) := fun e => hr (q4.mpr e)
    have e66 : ∀ v3, hl_nar .boolean v3 = true → fX6_put_66 (II c) (II kd) (II sd) (II lm) (II fu) (II tb) (v.1 9) (v.1 10) (v.2.1 0) (v.2.1 1) (v.2.1 2) (v.2.1 3) (v.1 35) (v.1 36) v.2.2 (II k) x v3 = some (Sum.inl v3, II c', II fu', II tb', (v.1 9) + d6, (v.1 10) + d7, K', V', O', W', n, q, hp) := fun v3 h3 => by
      unfold fX6_put_66
      rw [e1, ob, q1, ob, if_pos h3]
    have e6 : ∃ z : Int32, (z = 0 ∨ z = 1) ∧ fX6_put (v.1 3) (v.1 4) (v.1 5) (v.1 6) (v.1 7) (v.1 8) (v.1 9) (v.1 10) (v.2.1 0) (v.2.1 1) (v.2.1 2) (v.2.1 3) (v.1 35) (v.1 36) v.2.2 (II k) x = some (Sum.inl z, II c', II fu', II tb', (v.1 9) + d6, (v.1 10) + d7, K', V', O', W', n, q, hp) := by
      by_cases hf : (v.2.1 0) (hs c kd sd (v.2.1 0) k) = II k
      · refine ⟨0, Or.inl rfl, ?_⟩
        unfold fX6_put
        rw [a1, a2, a3, a4, a5, a6, c_isKey hk, ob, if_neg i1n0, c_isValue hx, ob, if_neg i1n0, c_hold hI.cok hI.kd2 hI.sd9 hk hI.emp, ob, if_pos hf, if_neg (n_ne1 (by have := hs_64 (kd := kd) (sd := sd) (k := k) (K := (v.2.1 0)) hI.cok; omega))]
        unfold fX6_put_41
        rw [if_pos rfl]
        exact e66 0 r_nar0
      · refine ⟨1, Or.inr rfl, ?_⟩
        unfold fX6_put
        rw [a1, a2, a3, a4, a5, a6, c_isKey hk, ob, if_neg i1n0, c_isValue hx, ob, if_neg i1n0, c_hold hI.cok hI.kd2 hI.sd9 hk hI.emp, ob, if_neg hf, if_pos rfl]
        unfold fX6_put_41
        rw [if_neg i1n0, hroom, ob, e66 1 r_nar1]
        by_cases z1 : 100 * (fu + tb + 1) ≤ lm * c
        · rw [if_pos z1, if_neg i1n0]
        · rw [if_neg z1]
          by_cases z2 : 100 * (fu + 1) ≤ lm * nc c lm fu
          · rw [if_pos z2, if_neg i1n0]
          · exact absurd ⟨hf, z1, z2⟩ hn
    obtain ⟨z, hz, e6⟩ := e6
    have e7 := (o_bd e6 : gl_put v (II k) x = _)
    exact ⟨_, _, e7, hz.elim (fun e => Or.inl (congrArg Sum.inl e)) (fun e => Or.inr (Or.inl (congrArg Sum.inl e))), ⟨⟨rfl, a2, a3, a4, rfl, rfl⟩, q2, hH2, hC.up qd⟩, rfl⟩
theorem w_remove {N c kd sd lm fu tb : Nat} {v : LV} (h : LW N v c kd sd lm fu tb) {k : Nat} (hk : k ≤ 9999) : ∃ r v' fu' tb', gl_remove v (II k) = some (r, v') ∧ ((∃ z, r = .inl z) ∨ r = .inr 3) ∧ LW (N + 1) v' c kd sd lm fu' tb' := by
  obtain ⟨⟨a1, a2, a3, a4, a5, a6⟩, hI, hH, hC⟩ := h
  obtain ⟨n, q, hp, hH2, e1⟩ := h_rec hH (II c) (II kd) (II sd) (II lm) (II fu) (II tb) (v.1 9) (v.1 10) (v.2.1 0) (v.2.1 1) v.2.2
  have hs9 := hs_64 (kd := kd) (sd := sd) (K := (v.2.1 0)) (k := k) hI.cok
  by_cases hf : (v.2.1 0) (hs c kd sd (v.2.1 0) k) = II k
  · have hp0 : 0 ≤ (v.2.1 0) (hs c kd sd (v.2.1 0) k) := by rw [hf]; exact n_0le (by omega)
    have e6 : fX6_remove (v.1 3) (v.1 4) (v.1 5) (v.1 6) (v.1 7) (v.1 8) (v.1 9) (v.1 10) (v.2.1 0) (v.2.1 1) (v.1 35) (v.1 36) v.2.2 (II k) = some (Sum.inl ((v.2.1 1) (hs c kd sd (v.2.1 0) k)), II (fu - 1), II (tb + 1), upd (v.2.1 0) (hs c kd sd (v.2.1 0) k) (-2), n, q, hp) := by
      unfold fX6_remove
      rw [a1, a2, a3, a4, a5, a6, c_hold hI.cok hI.kd2 hI.sd9 hk hI.emp, ob, if_pos hf, if_neg (n_ne1 (by omega)), c_valueOf hs9, ob, e1, ob, c_bury hI hs9 hp0, ob]
    have e7 := (o_bd e6 : gl_remove v (II k) = _)
    exact ⟨_, _, fu - 1, tb + 1, e7, Or.inl ⟨_, rfl⟩, ⟨a1, a2, a3, a4, rfl, rfl⟩, hI.bury hs9 hp0, hH2, hC.mono (by omega)⟩
  · have e6 : fX6_remove (v.1 3) (v.1 4) (v.1 5) (v.1 6) (v.1 7) (v.1 8) (v.1 9) (v.1 10) (v.2.1 0) (v.2.1 1) (v.1 35) (v.1 36) v.2.2 (II k) = some (Sum.inr 3, II fu, II tb, (v.2.1 0), (v.1 35), (v.1 36), v.2.2) := by
      unfold fX6_remove
      rw [a1, a2, a3, a4, a5, a6, c_hold hI.cok hI.kd2 hI.sd9 hk hI.emp, ob, if_neg hf, if_pos rfl]
    have e7 := (o_bd e6 : gl_remove v (II k) = _)
    exact ⟨_, _, fu, tb, e7, Or.inr rfl, ⟨a1, a2, a3, a4, rfl, rfl⟩, hI, hH, hC.mono (by omega)⟩
theorem w_setKind {N c kd sd lm fu tb : Nat} {v : LV} (h : LW N v c kd sd lm fu tb) {k : Nat} (hk : k ≤ 2) : ∃ z v', gl_setKind v (II k) = some (.inl z, v') ∧ LW (N + 1) v' c k sd lm fu 0 := by
  obtain ⟨⟨a1, a2, a3, a4, a5, a6⟩, hI, hH, hC⟩ := h
  obtain ⟨n, q, hp, hH2, e1⟩ := h_rec hH (II c) (II kd) (II sd) (II lm) (II fu) (II tb) (v.1 9) (v.1 10) (v.2.1 0) (v.2.1 1) v.2.2
  have hfc : fu < c := by have := hI.ft; omega
  obtain ⟨K', V', q1, q2, -⟩ := b_rebuild hI hI.cok (kd := k) (sd := sd) (by have := hI.kd2; omega) (by have := hI.sd9; omega) hfc (v.1 9) (v.1 10) (O := (v.2.1 2)) (W := (v.2.1 3))
  rw [if_pos (Nat.le_refl c)] at q1
  have e6 : fX6_setKind (v.1 3) (v.1 4) (v.1 5) (v.1 6) (v.1 7) (v.1 8) (v.1 9) (v.1 10) (v.2.1 0) (v.2.1 1) (v.2.1 2) (v.2.1 3) (v.1 35) (v.1 36) v.2.2 (II k) = some (Sum.inl (II kd), II c, II k, II fu, II 0, (v.1 9) + 1, (v.1 10), K', V', va_cpy (v.2.1 0) (v.2.1 2) 0 0 64, va_cpy (v.2.1 1) (v.2.1 3) 0 0 64, n, q, hp) := by
    unfold fX6_setKind fX5_changeKind
    rw [a1, a2, a3, a4, a5, a6, show fX6_isKind (II k) = some 1 from by unfold fX6_isKind; rw [if_neg (n_nlt0 (by omega)), if_neg (fun e : (3 : Int32) ≤ II k => by have := (n_le (a := 3) (by decide) (by omega)).mp e; omega)], ob, if_neg i1n0, e1, ob, q1, ob, ob]
  have e7 := (o_bd e6 : gl_setKind v (II k) = _)
  exact ⟨_, _, e7, ⟨rfl, rfl, a3, a4, rfl, rfl⟩, q2, hH2, by have := hC.up (d6 := 1) (d7 := 0) (Or.inr ⟨rfl, Or.inl rfl⟩); rwa [Int32.add_zero] at this⟩
theorem w_setSeed {N c kd sd lm fu tb : Nat} {v : LV} (h : LW N v c kd sd lm fu tb) {k : Nat} (hk : k ≤ 999) : ∃ z v', gl_setSeed v (II k) = some (.inl z, v') ∧ LW (N + 1) v' c kd k lm fu 0 := by
  obtain ⟨⟨a1, a2, a3, a4, a5, a6⟩, hI, hH, hC⟩ := h
  obtain ⟨n, q, hp, hH2, e1⟩ := h_rec hH (II c) (II kd) (II sd) (II lm) (II fu) (II tb) (v.1 9) (v.1 10) (v.2.1 0) (v.2.1 1) v.2.2
  have hfc : fu < c := by have := hI.ft; omega
  obtain ⟨K', V', q1, q2, -⟩ := b_rebuild hI hI.cok (kd := kd) (sd := k) (by have := hI.kd2; omega) (by have := hI.sd9; omega) hfc (v.1 9) (v.1 10) (O := (v.2.1 2)) (W := (v.2.1 3))
  rw [if_pos (Nat.le_refl c)] at q1
  have e6 : fX6_setSeed (v.1 3) (v.1 4) (v.1 5) (v.1 6) (v.1 7) (v.1 8) (v.1 9) (v.1 10) (v.2.1 0) (v.2.1 1) (v.2.1 2) (v.2.1 3) (v.1 35) (v.1 36) v.2.2 (II k) = some (Sum.inl (II sd), II c, II k, II fu, II 0, (v.1 9) + 1, (v.1 10), K', V', va_cpy (v.2.1 0) (v.2.1 2) 0 0 64, va_cpy (v.2.1 1) (v.2.1 3) 0 0 64, n, q, hp) := by
    unfold fX6_setSeed fX5_changeSeed
    rw [a1, a2, a3, a4, a5, a6, show fX6_isSeed (II k) = some 1 from by unfold fX6_isSeed; rw [if_neg (n_nlt0 (by omega)), if_neg (fun e : (999 : Int32) < II k => by have := (n_lt (a := 999) (by decide) (by omega)).mp e; omega)], ob, if_neg i1n0, e1, ob, q1, ob, ob]
  have e7 := (o_bd e6 : gl_setSeed v (II k) = _)
  exact ⟨_, _, e7, ⟨rfl, a2, rfl, a4, rfl, rfl⟩, q2, hH2, by have := hC.up (d6 := 1) (d7 := 0) (Or.inr ⟨rfl, Or.inl rfl⟩); rwa [Int32.add_zero] at this⟩
theorem w_setLimit {N c kd sd lm fu tb : Nat} {v : LV} (h : LW N v c kd sd lm fu tb) {k : Nat} (hk : 25 ≤ k ∧ k ≤ 90) : ∃ z v', gl_setLimit v (II k) = some (.inl z, v') ∧ LW (N + 1) v' c kd sd k fu tb := by
  obtain ⟨⟨a1, a2, a3, a4, a5, a6⟩, hI, hH, hC⟩ := h
  obtain ⟨n, q, hp, hH2, e1⟩ := h_rec hH (II c) (II kd) (II sd) (II lm) (II fu) (II tb) (v.1 9) (v.1 10) (v.2.1 0) (v.2.1 1) v.2.2
  have e6 : fX6_setLimit (v.1 3) (v.1 4) (v.1 5) (v.1 6) (v.1 7) (v.1 8) (v.1 9) (v.1 10) (v.2.1 0) (v.2.1 1) (v.1 35) (v.1 36) v.2.2 (II k) = some (Sum.inl (II lm), II k, n, q, hp) := by
    unfold fX6_setLimit fX6_isLimit
    rw [a1, a2, a3, a4, a5, a6, if_neg (fun e : II k < (25 : Int32) => by have := (n_lt (b := 25) (by omega) (by decide)).mp e; omega), if_neg (fun e : (90 : Int32) < II k => by have := (n_lt (a := 90) (by decide) (by omega)).mp e; omega), ob, if_neg i1n0, e1, ob]
  have e7 := (o_bd e6 : gl_setLimit v (II k) = _)
  exact ⟨_, _, e7, ⟨a1, a2, a3, rfl, a5, a6⟩, hI.lim hk, hH2, hC.mono (by omega)⟩
theorem w_rebuild {N c kd sd lm fu tb : Nat} {v : LV} (h : LW N v c kd sd lm fu tb) : ∃ z v', gl_rebuild v = some (z, v') ∧ LW (N + 1) v' c kd sd lm fu 0 := by
  obtain ⟨⟨a1, a2, a3, a4, a5, a6⟩, hI, hH, hC⟩ := h
  obtain ⟨n, q, hp, hH2, e1⟩ := h_rec hH (II c) (II kd) (II sd) (II lm) (II fu) (II tb) (v.1 9) (v.1 10) (v.2.1 0) (v.2.1 1) v.2.2
  have hfc : fu < c := by have := hI.ft; omega
  obtain ⟨K', V', q1, q2, -⟩ := b_rebuild hI hI.cok hI.kd2 hI.sd9 hfc (v.1 9) (v.1 10) (O := (v.2.1 2)) (W := (v.2.1 3))
  rw [if_pos (Nat.le_refl c)] at q1
  have e6 : fX6_rebuild (v.1 3) (v.1 4) (v.1 5) (v.1 6) (v.1 7) (v.1 8) (v.1 9) (v.1 10) (v.2.1 0) (v.2.1 1) (v.2.1 2) (v.2.1 3) (v.1 35) (v.1 36) v.2.2 = some (II tb, II c, II fu, II 0, (v.1 9) + 1, (v.1 10), K', V', va_cpy (v.2.1 0) (v.2.1 2) 0 0 64, va_cpy (v.2.1 1) (v.2.1 3) 0 0 64, n, q, hp) := by
    unfold fX6_rebuild
    rw [a1, a2, a3, a4, a5, a6, e1, ob, q1, ob]
  have e7 := (o_bd e6 : gl_rebuild v = _)
  exact ⟨_, _, e7, ⟨rfl, a2, a3, a4, rfl, rfl⟩, q2, hH2, by have := hC.up (d6 := 1) (d7 := 0) (Or.inr ⟨rfl, Or.inl rfl⟩); rwa [Int32.add_zero] at this⟩
theorem w_clear {N c kd sd lm fu tb : Nat} {v : LV} (h : LW N v c kd sd lm fu tb) : ∃ z v', gl_clear v = some (z, v') ∧ LW (N + 1) v' 8 kd sd lm 0 0 := by
  obtain ⟨⟨a1, a2, a3, a4, a5, a6⟩, hI, hH, hC⟩ := h
  obtain ⟨n, q, hp, hH2, e1⟩ := h_rec hH (II c) (II kd) (II sd) (II lm) (II fu) (II tb) (v.1 9) (v.1 10) (v.2.1 0) (v.2.1 1) v.2.2
  have e6 : fX6_clear (v.1 3) (v.1 4) (v.1 5) (v.1 6) (v.1 7) (v.1 8) (v.1 9) (v.1 10) (v.2.1 0) (v.2.1 1) (v.1 35) (v.1 36) v.2.2 = some (II fu, II 8, II 0, II 0, eK (v.2.1 0), n, q, hp) := by
    unfold fX6_clear
    rw [a1, a2, a3, a4, a5, a6, e1, ob, c_empty, ob]
    rfl
  have e7 := (o_bd e6 : gl_clear v = _)
  exact ⟨_, _, e7, ⟨rfl, a2, a3, a4, rfl, rfl⟩, Inv.empty (Or.inl rfl) hI.kd2 hI.sd9 hI.lm9, hH2, hC.mono (by omega)⟩
