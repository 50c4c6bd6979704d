/-! calls of both:  -/
/-! keys by their rank -/
def fl (K : Nat → Int32) (s : Nat) : Bool := decide (0 ≤ K s)
/-- how many keys stand below x -/
def rk (K : Nat → Int32) (c : Nat) (x : Int32) : Nat := cnt (fun s => fl K s && decide (K s < x)) c
theorem i_lt_irr {x : Int32} : ¬ x < x := fun h => by rw [fa_lt] at h; omega
theorem i_lt_tr {x y z : Int32} (h : x < y) (g : y < z) : x < z := by rw [fa_lt] at *; omega
theorem i_le_lt {x y z : Int32} (h : x ≤ y) (g : y < z) : x < z := by rw [fa_lt] at *; rw [fa_le] at h; omega
theorem i_lt_le {x y z : Int32} (h : x < y) (g : y ≤ z) : x < z := by rw [fa_lt] at *; rw [fa_le] at g; omega
theorem i_tri (x y : Int32) : x < y ∨ x = y ∨ y < x := by
  rw [fa_lt, fa_lt, ← Int32.toInt_inj]
  omega
theorem Inv.one' {c kd sd lm fu tb : Nat} {K V : Nat → Int32} (h : Inv c kd sd lm fu tb K V) {s t : Nat} (hs : s < c) (ht : t < c) (h0 : 0 ≤ K s) (e : K s = K t) : s = t := h.one s t (Nat.lt_of_lt_of_le hs h.cok.le) (Nat.lt_of_lt_of_le ht h.cok.le) h0 e
/-- the keys stand in the first c slots -/
theorem Inv.fuc {c kd sd lm fu tb : Nat} {K V : Nat → Int32} (h : Inv c kd sd lm fu tb K V) : cnt (fl K) c = fu := by
  have h1 : ∀ n, c ≤ n → n ≤ 64 → cnt (fl K) n = cnt (fl K) c := fun n => by
    induction n with
    | zero => intro a b; rw [Nat.le_zero.mp a]
    | succ n ih =>
      intro a b
      by_cases e : c = n + 1
      · rw [e]
      · rw [cnt_s, ih (by omega) (by omega)]
        have h2 := h.high n (by omega) (by omega)
        unfold fl
        rw [h2]
        rfl
  rw [← h1 64 h.cok.le (Nat.le_refl _)]
  exact h.cfu
theorem rk_next {c kd sd lm fu tb : Nat} {K V : Nat → Int32} (h : Inv c kd sd lm fu tb K V) {b r : Nat} (hb : b < c) (hr : r < c) (hb0 : 0 ≤ K b) (hlt : K b < K r) (hmin : ∀ t, t < c → 0 ≤ K t → K b < K t → K r ≤ K t) : rk K c (K r) = rk K c (K b) + 1 := by
  have hX : ∀ n, n ≤ c → cnt (fun s => fl K s && decide (K s < K r)) n = cnt (fun s => fl K s && decide (K s < K b)) n + if b < n then 1 else 0 := fun n => by
    induction n with
    | zero => intro _; rfl
    | succ n ih =>
      intro hn
      rw [cnt_s, cnt_s, ih (by omega)]
      by_cases e : n = b
      · subst e
        have e1 : (fl K n && decide (K n < K r)) = true := by unfold fl; rw [decide_eq_true hb0, decide_eq_true hlt]; rfl
        have e2 : (fl K n && decide (K n < K n)) = false := by rw [decide_eq_false i_lt_irr, Bool.and_false]
        simp only [e1, e2, if_true, if_neg (Nat.lt_irrefl n), if_pos (Nat.lt_succ_self n)]
        simp
      · have e3 : (fl K n && decide (K n < K r)) = (fl K n && decide (K n < K b)) := by
          by_cases hf : 0 ≤ K n
          · have hne : ¬ K n = K b := fun e4 => e (h.one' (by omega) hb hf e4)
            rcases i_tri (K n) (K b) with g | g | g
            · rw [decide_eq_true g, decide_eq_true (i_lt_tr g hlt)]
            · exact absurd g hne
            · rw [decide_eq_false (fun g2 => i_lt_irr (i_lt_tr g g2)), decide_eq_false (i_nlt.mpr (hmin n (by omega) hf g))]
          · unfold fl
            rw [decide_eq_false hf, Bool.false_and, Bool.false_and]
        have e6 : (if b < n + 1 then 1 else 0) = if b < n then 1 else 0 := by
          by_cases e5 : b < n
          · rw [if_pos e5, if_pos (by omega)]
          · rw [if_neg e5, if_neg (by omega)]
        rw [e3, e6]
        omega
  have := hX c (Nat.le_refl _)
  rw [if_pos hb] at this
  exact this
theorem rk_lt {c kd sd lm fu tb : Nat} {K V : Nat → Int32} (h : Inv c kd sd lm fu tb K V) {b r : Nat} (hb : b < c) (hb0 : 0 ≤ K b) (hlt : K b < K r) : rk K c (K b) < rk K c (K r) := by
  have hX : ∀ n, n ≤ c → cnt (fun s => fl K s && decide (K s < K b)) n + (if b < n then 1 else 0) ≤ cnt (fun s => fl K s && decide (K s < K r)) n := fun n => by
    induction n with
    | zero => intro _; exact Nat.le_refl _
    | succ n ih =>
      intro hn
      have ih := ih (by omega)
      rw [cnt_s, cnt_s]
      by_cases e : n = b
      · subst e
        have e1 : (fl K n && decide (K n < K r)) = true := by unfold fl; rw [decide_eq_true hb0, decide_eq_true hlt]; rfl
        have e2 : (fl K n && decide (K n < K n)) = false := by rw [decide_eq_false i_lt_irr, Bool.and_false]
        rw [if_neg (Nat.lt_irrefl n)] at ih
        rw [e1, e2, if_pos rfl, if_neg (by decide), if_pos (by omega)]
        omega
      · have e3 : (fl K n && decide (K n < K b)) = true → (fl K n && decide (K n < K r)) = true := fun g => by
          rw [Bool.and_eq_true] at g ⊢
          exact ⟨g.1, decide_eq_true (i_lt_tr (of_decide_eq_true g.2) hlt)⟩
        have e6 : (if b < n + 1 then 1 else 0) = if b < n then 1 else 0 := by
          by_cases e5 : b < n
          · rw [if_pos e5, if_pos (by omega)]
          · rw [if_neg e5, if_neg (by omega)]
        rw [e6]
        cases g : (fl K n && decide (K n < K b))
        · rw [if_neg (by decide)]
          omega
        · rw [e3 g, if_pos rfl]
          omega
  have := hX c (Nat.le_refl _)
  rw [if_pos hb] at this
  exact this
theorem rk_inj {c kd sd lm fu tb : Nat} {K V : Nat → Int32} (h : Inv c kd sd lm fu tb K V) {b r : Nat} (hb : b < c) (hr : r < c) (hb0 : 0 ≤ K b) (hr0 : 0 ≤ K r) (e : rk K c (K b) = rk K c (K r)) : b = r := by
  rcases i_tri (K b) (K r) with g | g | g
  · have := rk_lt h (r := r) hb hb0 g; omega
  · exact h.one' hb hr hb0 g
  · have := rk_lt h (r := b) hr hr0 g; omega
/-- a key's rank is less than their number -/
theorem rk_fu {c kd sd lm fu tb : Nat} {K V : Nat → Int32} (h : Inv c kd sd lm fu tb K V) {b : Nat} (hb : b < c) (hb0 : 0 ≤ K b) : rk K c (K b) < fu := by
  have hX : ∀ n, n ≤ c → cnt (fun s => fl K s && decide (K s < K b)) n + (if b < n then 1 else 0) ≤ cnt (fl K) n := fun n => by
    induction n with
    | zero => intro _; exact Nat.le_refl _
    | succ n ih =>
      intro hn
      have ih := ih (by omega)
      rw [cnt_s, cnt_s]
      by_cases e : n = b
      · subst e
        have e1 : fl K n = true := decide_eq_true hb0
        have e2 : (fl K n && decide (K n < K n)) = false := by rw [decide_eq_false i_lt_irr, Bool.and_false]
        rw [if_neg (Nat.lt_irrefl n)] at ih
        rw [e2, e1, if_pos rfl, if_neg (by decide), if_pos (by omega)]
        omega
      · have e6 : (if b < n + 1 then 1 else 0) = if b < n then 1 else 0 := by
          by_cases e5 : b < n
          · rw [if_pos e5, if_pos (by omega)]
          · rw [if_neg e5, if_neg (by omega)]
        rw [e6]
        cases g : fl K n
        · rw [Bool.false_and, if_neg (by decide)]
          omega
        · rw [Bool.true_and, if_pos rfl]
          split <;> omega
  have := hX c (Nat.le_refl _)
  rw [if_pos hb, h.fuc] at this
  exact this
/-- the class's next key -/
def kaP (K : Nat → Int32) (b : Int32) (n : Nat) (r : Int32) : Prop := (r = -1 ∧ ∀ t, t < n → 0 ≤ K t → K t ≤ b) ∨ (∃ s, s < n ∧ K s = r ∧ 0 ≤ r ∧ b < r ∧ ∀ t, t < n → 0 ≤ K t → b < K t → r ≤ K t)
theorem c_keyAfter_4 {c : Nat} {K : Nat → Int32} {b : Int32} (hc : cOK c) : ∀ n i r, i ≤ c → c - i < n → kaP K b i r → ∃ r', fX5_keyAfter_4 n (II c) K b r (II i) = some r' ∧ kaP K b c r'
  | 0, i, _, _, hn, _ => by omega
  | n + 1, i, r, hi, hn, hP => by
    have h64 := hc.le
    unfold fX5_keyAfter_4 fX5_keyAfter_47
    by_cases h : c ≤ i
    · have e : i = c := by omega
      subst e
      rw [if_pos ((n_le hc.lt hc.lt).mpr h)]
      exact ⟨r, rfl, hP⟩
    · rw [if_neg (fun e => h ((n_le hc.lt (by omega)).mp e)), c_content (by omega), ob, c_isFull (by omega), ob, show II i + (1 : Int32) = II (i + 1) from n_add i 1]
      have skip : (0 ≤ K i → K i ≤ b ∨ (0 ≤ r ∧ r ≤ K i)) → kaP K b (i + 1) r := fun hs => by
        rcases hP with ⟨e, g⟩ | ⟨s, hs1, e, g0, g1, g2⟩
        · refine Or.inl ⟨e, fun t ht h0 => ?_⟩
          by_cases e2 : t = i
          · subst e2
            rcases hs h0 with g9 | ⟨g9, -⟩
            · exact g9
            · rw [e] at g9; exact absurd g9 (by decide)
          · exact g t (by omega) h0
        · refine Or.inr ⟨s, by omega, e, g0, g1, fun t ht h0 hb => ?_⟩
          by_cases e2 : t = i
          · subst e2
            rcases hs h0 with g9 | ⟨-, g9⟩
            · exact absurd hb (i_nlt.mpr g9)
            · exact g9
          · exact g2 t (by omega) h0 hb
      by_cases hf : K i < 0
      · rw [if_pos hf, if_pos rfl]
        exact c_keyAfter_4 hc n (i + 1) r (by omega) (by omega) (skip (fun h0 => absurd hf (i_nlt.mpr h0)))
      · rw [if_neg hf, if_neg i1n0]
        have h0 := i_nlt.mp hf
        by_cases hb : K i ≤ b
        · rw [if_pos hb]
          exact c_keyAfter_4 hc n (i + 1) r (by omega) (by omega) (skip (fun _ => Or.inl hb))
        · rw [if_neg hb]
          have take : (∀ t, t < i → 0 ≤ K t → b < K t → K i ≤ K t) → kaP K b (i + 1) (K i) := fun ht => Or.inr ⟨i, by omega, rfl, h0, i_nle.mp hb, fun t ht1 ht0 htb => by
            by_cases e2 : t = i
            · rw [e2]; rw [fa_le]; omega
            · exact ht t (by omega) ht0 htb⟩
          by_cases hm : r = -1
          · rw [if_pos hm]
            refine c_keyAfter_4 hc n (i + 1) (K i) (by omega) (by omega) (take (fun t ht ht0 htb => ?_))
            rcases hP with ⟨e, g⟩ | ⟨s, hs1, e, g0, -⟩
            · exact absurd htb (i_nlt.mpr (g t ht ht0))
            · rw [hm] at g0; exact absurd g0 (by decide)
          · rw [if_neg hm]
            rcases hP with ⟨e, g⟩ | ⟨s, hs1, e, g0, g1, g2⟩
            · exact absurd e hm
            · by_cases hle : r ≤ K i
              · rw [if_pos hle]
                exact c_keyAfter_4 hc n (i + 1) r (by omega) (by omega) (skip (fun _ => Or.inr ⟨g0, hle⟩))
              · rw [if_neg hle]
                refine c_keyAfter_4 hc n (i + 1) (K i) (by omega) (by omega) (take (fun t ht ht0 htb => ?_))
                have g3 := g2 t ht ht0 htb
                have g4 := i_nle.mp hle
                rw [fa_le] at *
                rw [fa_lt] at g4
                omega
theorem c_keyAfter {c : Nat} {K : Nat → Int32} (hc : cOK c) (b : Int32) : ∃ r, fX5_keyAfter (II c) K b = some r ∧ kaP K b c r :=
  c_keyAfter_4 hc 1000 0 (-1) (Nat.zero_le _) (by have := hc.le; omega) (Or.inl ⟨rfl, fun t ht => absurd ht (Nat.not_lt_zero _)⟩)
/-- where the class stands ahead of the key with rank j -/
def kPrev (K : Nat → Int32) (c j : Nat) (b : Int32) : Prop := (j = 0 ∧ b = -1) ∨ (∃ s, s < c ∧ 0 ≤ K s ∧ K s = b ∧ rk K c b + 1 = j)
theorem c_nextKey {c kd sd lm fu tb j : Nat} {K V : Nat → Int32} {b : Int32} (h : Inv c kd sd lm fu tb K V) (hP : kPrev K c j b) (hj : j < fu) : ∃ s, s < c ∧ 0 ≤ K s ∧ rk K c (K s) = j ∧ fX5_keyAfter (II c) K b = some (K s) := by
  obtain ⟨r, g, hr⟩ := c_keyAfter (K := K) h.cok b
  rcases hP with ⟨rfl, rfl⟩ | ⟨p, hp, hp0, rfl, hrk⟩
  · rcases hr with ⟨-, g1⟩ | ⟨s, hs, e, g0, -, g2⟩
    · exfalso
      have : cnt (fl K) c = 0 := cnt_none (fun t ht => decide_eq_false (fun h0 => by
        have := g1 t ht h0
        rw [fa_le] at this h0
        have e1 : (-1 : Int32).toInt = -1 := by decide
        have e0 : (0 : Int32).toInt = 0 := by decide
        omega))
      rw [h.fuc] at this
      omega
    · refine ⟨s, hs, by rw [e]; exact g0, ?_, by rw [g, e]⟩
      refine cnt_none (fun t ht => ?_)
      cases hf : fl K t
      · rfl
      · have h0 : 0 ≤ K t := of_decide_eq_true hf
        have := g2 t ht h0 (i_lt_le (y := 0) (by decide) h0)
        rw [Bool.true_and, e]
        exact decide_eq_false (i_nlt.mpr this)
  · rcases hr with ⟨-, g1⟩ | ⟨s, hs, e, g0, gb, g2⟩
    · exfalso
      have hX : ∀ n, n ≤ c → cnt (fl K) n ≤ cnt (fun s => fl K s && decide (K s < K p)) n + if p < n then 1 else 0 := fun n => by
        induction n with
        | zero => intro _; exact Nat.le_refl _
        | succ n ih =>
          intro hn
          have ih := ih (by omega)
          rw [cnt_s, cnt_s]
          by_cases e : n = p
          · subst e
            rw [if_neg (Nat.lt_irrefl n)] at ih
            rw [if_pos (show n < n + 1 from by omega)]
            split <;> split <;> omega
          · have e6 : (if p < n + 1 then 1 else 0) = if p < n then 1 else 0 := by
              by_cases e5 : p < n
              · rw [if_pos e5, if_pos (by omega)]
              · rw [if_neg e5, if_neg (by omega)]
            rw [e6]
            cases hf : fl K n
            · rw [Bool.false_and, if_neg (by decide)]; omega
            · have h0 : 0 ≤ K n := of_decide_eq_true hf
              have hlt : K n < K p := by
                rcases i_tri (K n) (K p) with g | g | g
                · exact g
                · exact absurd (h.one' (by omega) hp h0 g) e
                · exact absurd g (i_nlt.mpr (g1 n (by omega) h0))
              rw [decide_eq_true hlt, Bool.true_and, if_pos rfl]
              omega
      have h1 := hX c (Nat.le_refl _)
      rw [if_pos hp, h.fuc] at h1
      unfold rk at hrk
      omega
    · refine ⟨s, hs, by rw [e]; exact g0, ?_, by rw [g, e]⟩
      rw [rk_next h hp hs hp0 (by rw [e]; exact gb) (fun t ht h0 hb => by rw [e]; exact g2 t ht h0 hb)]
      exact hrk
/-- the reference's slot by its rank -/
theorem r_ranked_30 {c kd sd lm fu tb : Nat} {K V mA : Nat → Int32} (hR : Rw 0 c kd sd lm fu tb K V mA) (hc : cOK c) {x : Int32} {k : Nat} (hk : k < c) (hk0 : 0 ≤ K k) (rec2 : (Nat → Int32) → Int32 → Int32 → Option Int32) : ∀ n i, i ≤ c → c - i < n →
    fX7_ranked_30 rec2 n mA x (II k) (II (cnt (fun s => fl K s && decide (K s < K k)) i)) (II i) = if II (rk K c (K k)) = x then some (II k) else rec2 mA x (II (k + 1))
  | 0, i, _, hn => by omega
  | n + 1, i, hi, hn => by
    have h64 := hc.le
    have e1 : mA (9 + 3 * k) = K k := by
      rcases hR.at (s := k) (by omega) with ⟨g, -⟩ | ⟨g, -⟩ | ⟨-, -, g, -⟩
      · rw [g] at hk0; exact absurd hk0 (by decide)
      · rw [g] at hk0; exact absurd hk0 (by decide)
      · exact g
    unfold fX7_ranked_30 fX7_ranked_89 fX7_ranked_74
    rw [hR.c0]
    by_cases h : c ≤ i
    · have e : i = c := by omega
      subst e
      rw [if_pos ((n_le hc.lt hc.lt).mpr h), show II k + (1 : Int32) = II (k + 1) from n_add k 1]
      rfl
    · rw [if_neg (fun e => h ((n_le hc.lt (by omega)).mp e)), r_at0 (by omega), ob, show II i + (1 : Int32) = II (i + 1) from n_add i 1]
      have hrec := r_ranked_30 hR hc (x := x) hk hk0 rec2 n (i + 1) (by omega) (by omega)
      rw [cnt_s] at hrec
      rcases hR.at (s := i) (by omega) with ⟨g, g1⟩ | ⟨g, g1⟩ | ⟨g, g1, g2, -⟩
      · have e2 : (fl K i && decide (K i < K k)) = false := by unfold fl; rw [g]; rfl
        rw [e2, if_neg (by decide), Nat.add_zero] at hrec
        rw [g1, if_neg (by decide), Int32.add_zero, hrec]
      · have e2 : (fl K i && decide (K i < K k)) = false := by unfold fl; rw [g]; rfl
        rw [e2, if_neg (by decide), Nat.add_zero] at hrec
        rw [g1, if_neg (by decide), Int32.add_zero, hrec]
      · rw [g1, if_pos rfl, r_at1 (by omega), ob, r_at1 (by omega), ob, e1, g2]
        by_cases h2 : K k ≤ K i
        · have e2 : (fl K i && decide (K i < K k)) = false := by rw [decide_eq_false (i_nlt.mpr h2), Bool.and_false]
          rw [e2, if_neg (by decide), Nat.add_zero] at hrec
          rw [if_pos h2, Int32.add_zero, hrec]
        · have e2 : (fl K i && decide (K i < K k)) = true := by unfold fl; rw [decide_eq_true g, decide_eq_true (i_nle.mp h2)]; rfl
          rw [e2, if_pos rfl] at hrec
          rw [if_neg h2, show II (cnt (fun s => fl K s && decide (K s < K k)) i) + (1 : Int32) = II (cnt (fun s => fl K s && decide (K s < K k)) i + 1) from n_add _ 1, hrec]
def pr (K : Nat → Int32) (c : Nat) (x : Int32) (s : Nat) : Bool := fl K s && decide (II (rk K c (K s)) = x)
theorem r_ranked_2 {c kd sd lm fu tb : Nat} {K V mA : Nat → Int32} (hR : Rw 0 c kd sd lm fu tb K V mA) (hc : cOK c) {x : Int32} : ∀ n i, i ≤ c → c - i < n →
    fX7_ranked_2 n mA x (II i) = some (if fi (pr K c x) (c - i) i < c then II (fi (pr K c x) (c - i) i) else -1)
  | 0, i, _, hn => by omega
  | n + 1, i, hi, hn => by
    have h64 := hc.le
    unfold fX7_ranked_2 fX7_ranked_89
    rw [hR.c0]
    by_cases h : c ≤ i
    · have e : i = c := by omega
      subst e
      rw [if_pos ((n_le hc.lt hc.lt).mpr h), Nat.sub_self]
      unfold fi
      rw [if_neg (by omega)]
    · have hrec := r_ranked_2 hR hc (x := x) n (i + 1) (by omega) (by omega)
      rw [if_neg (fun e => h ((n_le hc.lt (by omega)).mp e)), r_at0 (by omega), ob, show II i + (1 : Int32) = II (i + 1) from n_add i 1, show c - i = (c - (i + 1)) + 1 from by omega]
      have no : fl K i = false → some (if fi (pr K c x) (c - (i + 1) + 1) i < c then II (fi (pr K c x) (c - (i + 1) + 1) i) else -1) = fX7_ranked_2 n mA x (II (i + 1)) := fun hf => by
        rw [hrec, fi_step (by unfold pr; rw [hf, Bool.false_and])]
      rcases hR.at (s := i) (by omega) with ⟨g, g1⟩ | ⟨g, g1⟩ | ⟨g, g1, g2, -⟩
      · rw [g1, if_neg (by decide), no (by unfold fl; rw [g]; rfl)]
      · rw [g1, if_neg (by decide), no (by unfold fl; rw [g]; rfl)]
      · have h30 := r_ranked_30 hR hc (x := x) (k := i) (by omega) g (fX7_ranked_2 n) 1000 0 (Nat.zero_le _) (by omega)
        rw [g1, if_pos rfl]
        refine h30.trans ?_
        have hfl : fl K i = true := decide_eq_true g
        by_cases h2 : II (rk K c (K i)) = x
        · rw [if_pos h2, fi_here (by unfold pr; rw [hfl, decide_eq_true h2]; rfl), if_pos (by omega)]
        · rw [if_neg h2, fi_step (by unfold pr; rw [decide_eq_false h2, Bool.and_false]), hrec]
theorem r_ranked {c kd sd lm fu tb : Nat} {K V mA : Nat → Int32} (hR : Rw 0 c kd sd lm fu tb K V mA) (hc : cOK c) (x : Int32) : fX7_ranked mA x = some (if fi (pr K c x) c 0 < c then II (fi (pr K c x) c 0) else -1) :=
  r_ranked_2 hR hc 1000 0 (Nat.zero_le _) (by have := hc.le; omega)
theorem r_rankedY {c kd sd lm fu tb s j : Nat} {K V mA : Nat → Int32} (h : Inv c kd sd lm fu tb K V) (hR : Rw 0 c kd sd lm fu tb K V mA) (hs : s < c) (h0 : 0 ≤ K s) (e : rk K c (K s) = j) : fX7_ranked mA (II j) = some (II s) := by
  have h64 := h.cok.le
  have hj : j ≤ 64 := by rw [← e]; exact Nat.le_trans (cnt_le _ _) h64
  have hf : fi (pr K c (II j)) c 0 = s := by
    refine fi_eq (Nat.zero_le _) (by omega) (fun t _ ht => ?_) (fun _ => ?_)
    · unfold pr
      cases hfl : fl K t
      · rfl
      · rw [Bool.true_and]
        refine decide_eq_false (fun e2 => ?_)
        have e3 : rk K c (K t) = j := (n_eq (by have := cnt_le (fun s => fl K s && decide (K s < K t)) c; unfold rk; omega) (by omega)).mp e2
        have := rk_inj h (b := t) (r := s) (by omega) hs (of_decide_eq_true hfl) h0 (e3.trans e.symm)
        omega
    · unfold pr fl
      rw [decide_eq_true h0, e]
      exact decide_eq_true rfl
  rw [r_ranked hR h.cok, hf, if_pos hs]
theorem r_rankedN {c kd sd lm fu tb : Nat} {K V mA : Nat → Int32} {x : Int32} (h : Inv c kd sd lm fu tb K V) (hR : Rw 0 c kd sd lm fu tb K V mA) (hx : ¬ (0 ≤ x ∧ x < II fu)) : fX7_ranked mA x = some (-1) := by
  have h64 := h.cok.le
  have hft := h.ft
  rw [r_ranked hR h.cok, if_neg]
  intro hlt
  obtain ⟨a1, a2, a3, a4⟩ := fi_spec (pr K c x) c 0
  have h1 := a4 (by omega)
  generalize fi (pr K c x) c 0 = sl at h1 hlt
  unfold pr at h1
  rw [Bool.and_eq_true] at h1
  have h2 := rk_fu h hlt (of_decide_eq_true h1.1)
  have h3 := of_decide_eq_true h1.2
  exact hx ⟨by rw [← h3]; exact n_0le (by omega), by rw [← h3]; exact (n_lt (by omega) (by omega)).mpr h2⟩
