/-! trials: the class's, and the law's with a new laboratory -/
def nxN (x : Nat) : Nat := (137 * x + 59) % 10007
def tS (kd sd lm : Nat) : Nat → Nat → Nat → Nat × Nat × Nat × (Nat → Int32) → Nat
  | 0, _, S, _ => S
  | n + 1, x, S, E => tS kd sd lm n (nxN x) (S + (fs E.1 kd sd E.2.2.2 (nxN x % 10000) + 1)) (eN E.1 kd sd lm E.2.1 E.2.2.1 E.2.2.2 (nxN x % 10000))
theorem tS_s {kd sd lm n x S c fu tb : Nat} {K : Nat → Int32} : tS kd sd lm (n + 1) x S (c, fu, tb, K) = tS kd sd lm n (nxN x) (S + (fs c kd sd K (nxN x % 10000) + 1)) (eN c kd sd lm fu tb K (nxN x % 10000)) := rfl
theorem nxN_le (x : Nat) : nxN x ≤ 10006 := by
  unfold nxN
  omega
theorem eN_ok {c kd sd lm fu tb k : Nat} {K : Nat → Int32} (hc : cOK c) : cOK (eN c kd sd lm fu tb K k).1 := by
  unfold eN
  split
  · exact hc
  · split
    · exact hc
    · split
      · exact nc_ok hc
      · exact hc
theorem tS_cong {kd sd lm : Nat} : ∀ (n x S c fu tb : Nat) (K K' : Nat → Int32), cOK c → E64 K K' → tS kd sd lm n x S (c, fu, tb, K) = tS kd sd lm n x S (c, fu, tb, K')
  | 0, _, _, _, _, _, _, _, _, _ => rfl
  | n + 1, x, S, c, fu, tb, K, K', hc, h => by
    have q := a_eN (c := c) (kd := kd) (sd := sd) (lm := lm) (fu := fu) (tb := tb) (k := nxN x % 10000) hc h
    have ho := eN_ok (c := c) (kd := kd) (sd := sd) (lm := lm) (fu := fu) (tb := tb) (k := nxN x % 10000) (K := K) hc
    rw [tS_s, tS_s, a_fs hc h]
    generalize eN c kd sd lm fu tb K (nxN x % 10000) = E at q ho ⊢
    generalize eN c kd sd lm fu tb K' (nxN x % 10000) = E' at q ⊢
    obtain ⟨c1, fu1, tb1, K1⟩ := E
    obtain ⟨c2, fu2, tb2, K2⟩ := E'
    obtain ⟨q1, q2, q3, q4⟩ := q
    have q1 : c1 = c2 := q1
    have q2 : fu1 = fu2 := q2
    have q3 : tb1 = tb2 := q3
    subst q1
    subst q2
    subst q3
    exact tS_cong n (nxN x) _ c1 fu1 tb1 K1 K2 ho q4
theorem t_cls {kd sd lm cn : Nat} (hcn : cn ≤ 40) (tsd tlm : Int32) : ∀ n i x S (c fu tb : Nat) (K V : Nat → Int32) (rb gr : Int32) (O W : Nat → Int32), Inv c kd sd lm fu tb K V → i ≤ cn → cn - i < n → x ≤ 10006 →
    ∃ o', fX6_trialResult_31 n tsd tlm (II c) (II kd) (II sd) (II lm) (II fu) (II tb) rb gr K V O W (II cn) (II S) (II x) (II i) = some (II (tS kd sd lm (cn - i) x S (c, fu, tb, K)), o')
  | 0, i, _, _, _, _, _, _, _, _, _, _, _, _, _, hn, _ => by omega
  | n + 1, i, x, S, c, fu, tb, K, V, rb, gr, O, W, hI, hi, hn, hx => by
    unfold fX6_trialResult_31
    by_cases e : cn ≤ i
    · rw [if_pos ((n_le (by omega) (by omega)).mpr e), show cn - i = 0 from by omega]
      exact ⟨_, rfl⟩
    · have n1 : ¬ II cn ≤ II i := fun e3 => e ((n_le (by omega) (by omega)).mp e3)
      have hx2 := nxN_le x
      have hk : nxN x % 10000 ≤ 9999 := by omega
      obtain ⟨r, d6, d7, V', O', W', q1, q2, -, -, -⟩ := e_enter hI hk (v := 0) (by decide) O W rb gr
      rw [if_neg n1, show hl_rem (((137 : Int32) * II x) + (59 : Int32)) (10007 : Int32) = II (nxN x) from m_next hx, m_key hx2, c_search hI.cok hI.kd2 hI.sd9 hk hI.emp, ob, q1, ob, show II i + (1 : Int32) = II (i + 1) from n_add i 1, n_add S _, show cn - i = (cn - (i + 1)) + 1 from by omega, tS_s]
      exact t_cls hcn tsd tlm n (i + 1) (nxN x) (S + (fs c kd sd K (nxN x % 10000) + 1)) _ _ _ _ V' (rb + d6) (gr + d7) O' W' q2 (by omega) (by omega) hx2
theorem t_isTrial {st cn : Nat} (h1 : st ≤ 10006) (h2 : 1 ≤ cn) (h3 : cn ≤ 40) : fX6_isTrial (II st) (II cn) = some 1 := by
  unfold fX6_isTrial
  rw [if_neg (n_nlt0 (by omega)), if_neg (fun e : (10007 : Int32) ≤ II st => by have := (n_le (a := 10007) (by decide) (by omega)).mp e; omega), if_neg (fun e : II cn < (1 : Int32) => by have := (n_lt (b := 1) (by omega) (by decide)).mp e; omega), if_neg (fun e : (40 : Int32) < II cn => by have := (n_lt (a := 40) (by decide) (by omega)).mp e; omega)]
def tR (sd lm cn st k : Nat) : Nat := tS k sd lm cn st 0 (8, 0, 0, fun _ => -1)
theorem t_res {c kd sd lm fu tb k st cn : Nat} {K V : Nat → Int32} (hI : Inv c kd sd lm fu tb K V) (hk : k ≤ 2) (hst : st ≤ 10006) (hcn : cn ≤ 40) (a1 a2 a3 a4 a5 a6 a7 a8 : Int32) (sK sV sO sW : Nat → Int32) :
    ∃ o', fX6_trialResult (II sd) (II lm) a1 a2 a3 a4 a5 a6 a7 a8 sK sV sO sW (II k) (II st) (II cn) = some (II (tR sd lm cn st k), o') := by
  obtain ⟨o', q⟩ := t_cls (kd := k) (sd := sd) (lm := lm) hcn (II sd) (II lm) 1000 0 st 0 8 0 0 (eK sK) sV a7 a8 sO sW (Inv.empty (Or.inl rfl) hk hI.sd9 hI.lm9) (by omega) (by omega) hst
  unfold fX6_trialResult fX5_beginTrial
  rw [c_empty, ob, ob]
  refine ⟨o', ?_⟩
  rw [Nat.sub_zero, tS_cong cn st 0 8 0 0 (eK sK) (fun _ => -1) (Or.inl rfl) (fun s hs => eK_at hs)] at q
  exact q
theorem t_trial {N c kd sd lm fu tb k st cn : Nat} {v : LV} (h : LW N v c kd sd lm fu tb) (hk : k ≤ 2) (hst : st ≤ 10006) (h1 : 1 ≤ cn) (hcn : cn ≤ 40) : ∃ v', gl_trial v (II k) (II st) (II cn) = some (.inl (II (tR sd lm cn st k)), v') ∧ LW N v' c kd sd lm fu tb := by
  obtain ⟨⟨a1, a2, a3, a4, a5, a6⟩, hI, hH, hC⟩ := h
  obtain ⟨o', q⟩ := t_res hI hk hst hcn (v.1 11) (v.1 12) (v.1 13) (v.1 14) (v.1 15) (v.1 16) (v.1 17) (v.1 18) (v.2.1 4) (v.2.1 5) (v.2.1 6) (v.2.1 7)
  have e6 : fX6_trial (v.1 5) (v.1 6) (v.1 11) (v.1 12) (v.1 13) (v.1 14) (v.1 15) (v.1 16) (v.1 17) (v.1 18) (v.2.1 4) (v.2.1 5) (v.2.1 6) (v.2.1 7) (II k) (II st) (II cn) = some (Sum.inl (II (tR sd lm cn st k)), o'.1, o'.2.1, o'.2.2.1, o'.2.2.2.1, o'.2.2.2.2.1, o'.2.2.2.2.2.1, o'.2.2.2.2.2.2.1, o'.2.2.2.2.2.2.2.1, o'.2.2.2.2.2.2.2.2.1, o'.2.2.2.2.2.2.2.2.2.1, o'.2.2.2.2.2.2.2.2.2.2.1, o'.2.2.2.2.2.2.2.2.2.2.2) := by
    unfold fX6_trial
    rw [a3, a4, show fX6_isKind (II k) = some 1 from by unfold fX6_isKind; rw [if_neg (n_nlt0 (by omega)), if_neg (fun e : (3 : Int32) ≤ II k => by have := (n_le (a := 3) (by decide) (by omega)).mp e; omega)], ob, if_neg i1n0, t_isTrial hst h1 hcn, ob, if_neg i1n0, q, ob]
  have e7 := (o_bd e6 : gl_trial v (II k) (II st) (II cn) = _)
  exact ⟨_, e7, ⟨a1, a2, a3, a4, a5, a6⟩, hI, hH, hC⟩
/-- the best kind of the first k ones, and its result -/
def bB (R : Nat → Nat) : Nat → Int32 × Int32
  | 0 => (0, 0)
  | k + 1 => if k = 0 then (0, II (R 0)) else if (bB R k).2 ≤ II (R k) then bB R k else (II k, II (R k))
theorem t_best32 {c kd sd lm fu tb st cn : Nat} {K V : Nat → Int32} (hI : Inv c kd sd lm fu tb K V) (hst : st ≤ 10006) (hcn : cn ≤ 40) : ∀ n k (a1 a2 a3 a4 a5 a6 a7 a8 : Int32) (sK sV sO sW : Nat → Int32), 1 ≤ k → k ≤ 3 → 3 - k < n →
    ∃ o', fX6_bestKind_32 n (II sd) (II lm) a1 a2 a3 a4 a5 a6 a7 a8 sK sV sO sW (II st) (II cn) (bB (tR sd lm cn st) k).1 (bB (tR sd lm cn st) k).2 (II k) = some (Sum.inl (bB (tR sd lm cn st) 3).1, o')
  | 0, k, _, _, _, _, _, _, _, _, _, _, _, _, _, _, hn => by omega
  | n + 1, k, a1, a2, a3, a4, a5, a6, a7, a8, sK, sV, sO, sW, h1, hk, hn => by
    unfold fX6_bestKind_32 fX6_bestKind_62
    by_cases e : 3 ≤ k
    · have e2 : k = 3 := by omega
      subst e2
      rw [if_pos (by decide)]
      exact ⟨_, rfl⟩
    · have n1 : ¬ (3 : Int32) ≤ II k := fun e3 => e ((n_le (a := 3) (by decide) (by omega)).mp e3)
      obtain ⟨o', q⟩ := t_res (k := k) hI (by omega) hst hcn a1 a2 a3 a4 a5 a6 a7 a8 sK sV sO sW
      have ih := fun b1 b2 b3 b4 b5 b6 b7 b8 uK uV uO uW => t_best32 hI hst hcn n (k + 1) b1 b2 b3 b4 b5 b6 b7 b8 uK uV uO uW (by omega) (by omega) (by omega)
      rw [bB, if_neg (show ¬ k = 0 by omega)] at ih
      rw [if_neg n1, q, ob, show II k + (1 : Int32) = II (k + 1) from n_add k 1]
      by_cases z : (bB (tR sd lm cn st) k).2 ≤ II (tR sd lm cn st k)
      · rw [if_pos z] at ih
        rw [if_pos (show (bB (tR sd lm cn st) k).2 ≤ (II (tR sd lm cn st k), o').1 from z)]
        exact ih _ _ _ _ _ _ _ _ _ _ _ _
      · rw [if_neg z] at ih
        rw [if_neg (show ¬ (bB (tR sd lm cn st) k).2 ≤ (II (tR sd lm cn st k), o').1 from z)]
        exact ih _ _ _ _ _ _ _ _ _ _ _ _
theorem t_best {N c kd sd lm fu tb st cn : Nat} {v : LV} (h : LW N v c kd sd lm fu tb) (hst : st ≤ 10006) (h1 : 1 ≤ cn) (hcn : cn ≤ 40) : ∃ v', gl_bestKind v (II st) (II cn) = some (.inl (bB (tR sd lm cn st) 3).1, v') ∧ LW N v' c kd sd lm fu tb := by
  obtain ⟨⟨a1, a2, a3, a4, a5, a6⟩, hI, hH, hC⟩ := h
  obtain ⟨o', q⟩ := t_res (k := 0) hI (by omega) hst hcn (v.1 11) (v.1 12) (v.1 13) (v.1 14) (v.1 15) (v.1 16) (v.1 17) (v.1 18) (v.2.1 4) (v.2.1 5) (v.2.1 6) (v.2.1 7)
  obtain ⟨o2, q2⟩ := t_best32 hI hst hcn 1000 1 o'.1 o'.2.1 o'.2.2.1 o'.2.2.2.1 o'.2.2.2.2.1 o'.2.2.2.2.2.1 o'.2.2.2.2.2.2.1 o'.2.2.2.2.2.2.2.1 o'.2.2.2.2.2.2.2.2.1 o'.2.2.2.2.2.2.2.2.2.1 o'.2.2.2.2.2.2.2.2.2.2.1 o'.2.2.2.2.2.2.2.2.2.2.2 (by omega) (by omega) (by omega)
  have e6 : fX6_bestKind (v.1 5) (v.1 6) (v.1 11) (v.1 12) (v.1 13) (v.1 14) (v.1 15) (v.1 16) (v.1 17) (v.1 18) (v.2.1 4) (v.2.1 5) (v.2.1 6) (v.2.1 7) (II st) (II cn) = some (Sum.inl (bB (tR sd lm cn st) 3).1, o2) := by
    unfold fX6_bestKind
    rw [a3, a4, t_isTrial hst h1 hcn, ob, if_neg i1n0]
    rw [show fX6_trialResult (II sd) (II lm) (v.1 11) (v.1 12) (v.1 13) (v.1 14) (v.1 15) (v.1 16) (v.1 17) (v.1 18) (v.2.1 4) (v.2.1 5) (v.2.1 6) (v.2.1 7) (0 : Int32) (II st) (II cn) = some (II (tR sd lm cn st 0), o') from q, ob]
    exact q2
  have e7 := (o_bd e6 : gl_bestKind v (II st) (II cn) = _)
  exact ⟨_, e7, ⟨a1, a2, a3, a4, a5, a6⟩, hI, hH, hC⟩
/-- a table without keys and tombs -/
theorem inv_00 {c kd sd lm : Nat} {K V : Nat → Int32} (h : Inv c kd sd lm 0 0 K V) : E64 K (fun _ => -1) := fun s hs => by
  rcases h.kt s hs with e | e | ⟨k, hk, e⟩
  · exact e
  · have := h.tbpos hs e
    omega
  · have := h.fupos hs (by rw [e]; exact n_0le (by omega))
    omega
theorem t_1075 {g : LG} {K0 : Nat → Int32} {rec15 : LV → Int32 → Option Unit} {rec1019 : LV → Int32 → Int32 → Int32 → Int32 → Int32 → Int32 → Option Unit} {v : LV} {v2 v13 v15 v16 v17 : Int32} {kd sd lm cn : Nat} (hcn : cn ≤ 40) : ∀ n i x S (M c fu tb : Nat) (vq : LV), LW M vq c kd sd lm fu tb → i ≤ cn → cn - i < n → x ≤ 10006 →
    fL_law_1075 g K0 rec15 rec1019 n v vq v2 v13 (II cn) v15 v16 v17 (II x) (II S) (II i) =
      (if v17 = 0 then (fL_law_1152 g K0 rec15 rec1019 v v2 v13 (II cn) v16 v17 (II (tS kd sd lm (cn - i) x S (c, fu, tb, vq.2.1 0))) v17) else (if v16 ≤ II (tS kd sd lm (cn - i) x S (c, fu, tb, vq.2.1 0)) then (fL_law_1152 g K0 rec15 rec1019 v v2 v13 (II cn) v16 v17 (II (tS kd sd lm (cn - i) x S (c, fu, tb, vq.2.1 0))) v15) else (fL_law_1152 g K0 rec15 rec1019 v v2 v13 (II cn) v16 v17 (II (tS kd sd lm (cn - i) x S (c, fu, tb, vq.2.1 0))) v17)))
  | 0, i, _, _, _, _, _, _, _, _, _, hn, _ => by omega
  | n + 1, i, x, S, M, c, fu, tb, vq, h, hi, hn, hx => by
    have hI := h.2.1
    rw [fL_law_1075]
    by_cases e : cn ≤ i
    · rw [if_pos ((n_le (by omega) (by omega)).mpr e), show cn - i = 0 from by omega]
      rfl
    · have n1 : ¬ II cn ≤ II i := fun e3 => e ((n_le (by omega) (by omega)).mp e3)
      have hx2 := nxN_le x
      have hk : nxN x % 10000 ≤ 9999 := by omega
      obtain ⟨z, v', q, hL, hE⟩ := l_put h hk (x := 1) (by decide)
      have ih := t_1075 (g := g) (K0 := K0) (rec15 := rec15) (rec1019 := rec1019) (v := v) (v2 := v2) (v13 := v13) (v15 := v15) (v16 := v16) (v17 := v17) (lm := lm) hcn n (i + 1) (nxN x) (S + (fs c kd sd (vq.2.1 0) (nxN x % 10000) + 1)) (M + 1) _ _ _ v' hL (by omega) (by omega) hx2
      rw [hE] at ih
      rw [if_neg n1, show hl_rem (((137 : Int32) * II x) + (59 : Int32)) (10007 : Int32) = II (nxN x) from m_next hx, m_key hx2, o_probes h hk, ob, o_iD, q, ob, show II i + (1 : Int32) = II (i + 1) from n_add i 1, n_add S _, show cn - i = (cn - (i + 1)) + 1 from by omega, tS_s]
      exact ih
theorem t_1019 {g : LG} {K0 : Nat → Int32} (hK : K0 = eK (fun _ => 0)) {rec15 : LV → Int32 → Option Unit} {v2 : Int32} {N c kd sd lm fu tb st cn : Nat} (hst : st ≤ 10006) (h1 : 1 ≤ cn) (hcn : cn ≤ 14) : ∀ n k (v : LV), LW N v c kd sd lm fu tb → k ≤ 3 → 3 - k < n →
    ∃ v', LW N v' c kd sd lm fu tb ∧ fL_law_1019 g K0 rec15 n v v2 (II st) (II cn) (bB (tR sd lm cn st) k).1 (bB (tR sd lm cn st) k).2 (II k) = ((fL_acts g v' ((130 : Int32) + ((3 : Int32) * v2))).bind fun r218 => (rec15 r218 (v2 + (1 : Int32))))
  | 0, k, _, _, _, hn => by omega
  | n + 1, k, v, h, hk, hn => by
    rw [fL_law_1019]
    by_cases e : 3 ≤ k
    · have e2 : k = 3 := by omega
      subst e2
      obtain ⟨v', q, hL⟩ := t_best h hst h1 (by omega)
      rw [if_pos (by decide), q, ob, o_iD, if_pos rfl]
      exact ⟨v', hL, rfl⟩
    · have n1 : ¬ (3 : Int32) ≤ II k := fun e3 => e ((n_le (a := 3) (by decide) (by omega)).mp e3)
      obtain ⟨y1, w1, p1, l1⟩ := l_setKind (l_new hK) (k := k) (by omega)
      obtain ⟨y2, w2, p2, l2⟩ := l_setSeed l1 (k := sd) h.2.1.sd9
      obtain ⟨y3, w3, p3, l3⟩ := l_setLimit l2 (k := lm) h.2.1.lm9
      have t1 := t_1075 (g := g) (K0 := K0) (rec15 := rec15) (rec1019 := fL_law_1019 g K0 rec15 n) (v := v) (v2 := v2) (v13 := II st) (v15 := (bB (tR sd lm cn st) k).1) (v16 := (bB (tR sd lm cn st) k).2) (v17 := II k) (cn := cn) (by omega) 15 0 st 0 (0 + 1 + 1 + 1) 8 0 0 w3 l3 (Nat.zero_le _) (by omega) hst
      rw [Nat.sub_zero, tS_cong cn st 0 8 0 0 (w3.2.1 0) (fun _ => -1) (Or.inl rfl) (inv_00 l3.2.1), show tS k sd lm cn st 0 (8, 0, 0, fun _ => -1) = tR sd lm cn st k from rfl] at t1
      obtain ⟨v', q, hL⟩ := t_trial h (k := k) (by omega) hst h1 (by omega)
      obtain ⟨v3, hL3, ih⟩ := t_1019 hK hst h1 hcn n (k + 1) v' hL (by omega) (by omega)
      refine ⟨v3, hL3, ?_⟩
      rw [if_neg n1, p1, ob, o_seed h, ob, p2, ob, o_limit h, ob, p3, ob]
      refine t1.trans ?_
      rw [bB] at ih
      have hk1 : II k + (1 : Int32) = II (k + 1) := n_add k 1
      have hst2 : ∀ k0, fL_law_1152 g K0 rec15 (fL_law_1019 g K0 rec15 n) v v2 (II st) (II cn) (bB (tR sd lm cn st) k).2 (II k) (II (tR sd lm cn st k)) k0 = fL_law_1019 g K0 rec15 n v' v2 (II st) (II cn) k0 (if II k = (0 : Int32) then II (tR sd lm cn st k) else if II (tR sd lm cn st k) < (bB (tR sd lm cn st) k).2 then II (tR sd lm cn st k) else (bB (tR sd lm cn st) k).2) (II (k + 1)) := fun k0 => by
        unfold fL_law_1152 fL_law_1171
        by_cases z : II k = (0 : Int32)
        · rw [if_pos z, if_pos z, q, ob, o_iD, if_pos rfl, hk1]
        · rw [if_neg z, if_neg z, q, ob, o_iD, if_pos rfl, hk1]
      rw [hst2, hst2]
      by_cases z : k = 0
      · subst z
        rw [if_pos rfl] at ih
        rw [if_pos (show II 0 = (0 : Int32) from rfl), if_pos (show II 0 = (0 : Int32) from rfl)]
        exact ih
      · have z2 : ¬ II k = (0 : Int32) := fun e4 => z ((n_eq (b := 0) (by omega) (by decide)).mp e4)
        rw [if_neg z] at ih
        rw [if_neg z2, if_neg z2]
        by_cases z3 : (bB (tR sd lm cn st) k).2 ≤ II (tR sd lm cn st k)
        · rw [if_pos z3] at ih
          rw [if_pos z3, if_neg (i_nlt.mpr z3)]
          exact ih
        · rw [if_neg z3] at ih
          rw [if_neg z3, if_pos (i_nle.mp z3)]
          exact ih
