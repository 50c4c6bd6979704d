/-! whole numbers of 32 bits out of natural ones -/
abbrev II (n : Nat) : Int32 := Int32.ofNat n
theorem n_le {a b : Nat} (ha : a < 2147483648) (hb : b < 2147483648) : II a ≤ II b ↔ a ≤ b := Int32.ofNat_le_iff_le ha hb
theorem n_lt {a b : Nat} (ha : a < 2147483648) (hb : b < 2147483648) : II a < II b ↔ a < b := Int32.ofNat_lt_iff_lt ha hb
theorem n_cl {a : Nat} (ha : a < 2147483648) : (II a).toNatClampNeg = a := Int32.toNatClampNeg_ofNat_of_lt ha
theorem n_ti {a : Nat} (ha : a < 2147483648) : (II a).toInt = (a : Int) := Int32.toInt_ofNat_of_lt ha
theorem n_eq {a b : Nat} (ha : a < 2147483648) (hb : b < 2147483648) : II a = II b ↔ a = b :=
  ⟨fun h => by rw [← n_cl ha, h, n_cl hb], fun h => by rw [h]⟩
theorem n_add (a b : Nat) : II a + II b = II (a + b) := (Int32.ofNat_add a b).symm
theorem n_mul (a b : Nat) : II a * II b = II (a * b) := (Int32.ofNat_mul a b).symm
theorem n_sub {a b : Nat} (h : b ≤ a) : II a - II b = II (a - b) := (Int32.ofNat_sub a b h).symm
theorem n_div {a b : Nat} (ha : a < 2147483648) (hb : b < 2147483648) : II a / II b = II (a / b) := (Int32.ofNat_div ha hb).symm
theorem n_rem {a b : Nat} (ha : a < 2147483648) (hb : b < 2147483648) : hl_rem (II a) (II b) = II (a % b) := by
  unfold hl_rem
  have h1 : a / b * b ≤ a := Nat.div_mul_le_self a b
  rw [n_div ha hb, n_mul, n_sub h1]
  have h2 := Nat.div_add_mod a b
  rw [Nat.mul_comm] at h2
  exact congrArg II (by omega)
theorem n_0le {a : Nat} (ha : a < 2147483648) : (0 : Int32) ≤ II a := Int32.zero_le_ofNat_of_lt ha
theorem n_nlt0 {a : Nat} (ha : a < 2147483648) : ¬ II a < (0 : Int32) := fun h => by
  have := (n_lt (b := 0) ha (by decide)).mp h
  omega
theorem n_in {a n : Nat} (ha : a < 2147483648) (h : a < n) : hl_in (II a) n = true := by
  unfold hl_in
  rw [n_ti ha, decide_eq_true (by omega : (0 : Int) ≤ (a : Int)), decide_eq_true (by omega : (a : Int) < (n : Int))]
  rfl
theorem n_and (a b : Nat) : II a &&& II b = II (a &&& b) := by
  refine Int32.toBitVec_inj.mp ?_
  show BitVec.ofNat 32 a &&& BitVec.ofNat 32 b = BitVec.ofNat 32 (a &&& b)
  rw [BitVec.ofNat_and]
theorem n_mod (a : Nat) : II (a % 4294967296) = II a := by
  refine Int32.toBitVec_inj.mp ?_
  show BitVec.ofNat 32 (a % 4294967296) = BitVec.ofNat 32 a
  exact BitVec.eq_of_toNat_eq (by rw [BitVec.toNat_ofNat, BitVec.toNat_ofNat]; omega)
theorem n_neg {a b : Nat} (h : b ≤ 4294967296) : II a - II b = II (a + (4294967296 - b)) := by
  have h1 : II (a + 4294967296) = II a := by
    rw [← n_mod (a + 4294967296), ← n_mod a]
    exact congrArg II (by omega)
  rw [← h1, n_sub (by omega)]
  exact congrArg II (by omega)
theorem n_ne1 {a : Nat} (ha : a < 2147483648) : II a ≠ (-1 : Int32) := fun h => by
  have h1 := n_ti ha
  rw [h, show ((-1 : Int32)).toInt = -1 from by decide] at h1
  omega
theorem n_ne2 {a : Nat} (ha : a < 2147483648) : II a ≠ (-2 : Int32) := fun h => by
  have h1 := n_ti ha
  rw [h, show ((-2 : Int32)).toInt = -2 from by decide] at h1
  omega
theorem ob {α β : Type} (a : α) (f : α → Option β) : (some a).bind f = f a := rfl
/-- every number that is not below zero is one of these -/
theorem n_of {x : Int32} (h : 0 ≤ x) : ∃ a, a < 2147483648 ∧ x = II a := ⟨x.toNatClampNeg, Int32.toNatClampNeg_lt x, (Int32.ofNat_toNatClampNeg x h).symm⟩
theorem n_of2 {x : Int32} {n : Nat} (hn : n < 2147483648) (h : 0 ≤ x) (h2 : x ≤ II n) : ∃ a, a ≤ n ∧ x = II a := by
  obtain ⟨a, ha, rfl⟩ := n_of h
  exact ⟨a, (n_le ha hn).mp h2, rfl⟩
theorem i_nlt {x y : Int32} : ¬ x < y ↔ y ≤ x := by rw [fa_lt, fa_le]; omega
theorem i_nle {x y : Int32} : ¬ x ≤ y ↔ y < x := by rw [fa_lt, fa_le]; omega
theorem upd_at (f : Nat → Int32) (k : Nat) (x : Int32) : upd f k x k = x := if_pos rfl
theorem upd_ne {f : Nat → Int32} {k j : Nat} {x : Int32} (h : j ≠ k) : upd f k x j = f j := if_neg h
/-! the first number that fits -/
def fi (p : Nat → Bool) : Nat → Nat → Nat
  | 0, i => i
  | n + 1, i => if p i then i else fi p n (i + 1)
theorem fi_spec (p : Nat → Bool) : ∀ n i, i ≤ fi p n i ∧ fi p n i ≤ i + n ∧ (∀ j, i ≤ j → j < fi p n i → p j = false) ∧ (fi p n i < i + n → p (fi p n i) = true)
  | 0, i => ⟨Nat.le_refl _, Nat.le_refl _, fun j h1 h2 => by have : j < i := h2; omega, fun h => by have : i < i + 0 := h; omega⟩
  | n + 1, i => by
    unfold fi
    by_cases hp : p i = true
    · rw [if_pos hp]
      exact ⟨Nat.le_refl _, by omega, fun j h1 h2 => by omega, fun _ => hp⟩
    · rw [if_neg hp]
      obtain ⟨h1, h2, h3, h4⟩ := fi_spec p n (i + 1)
      refine ⟨by omega, by omega, fun j hj1 hj2 => ?_, fun h => h4 (by omega)⟩
      by_cases hj : j = i
      · subst hj
        exact Bool.eq_false_iff.mpr hp
      · exact h3 j (by omega) hj2
theorem fi_eq {p : Nat → Bool} {n i j : Nat} (h1 : i ≤ j) (h2 : j ≤ i + n) (h3 : ∀ k, i ≤ k → k < j → p k = false) (h4 : j < i + n → p j = true) : fi p n i = j := by
  obtain ⟨a1, a2, a3, a4⟩ := fi_spec p n i
  rcases Nat.lt_trichotomy (fi p n i) j with h | h | h
  · have b1 := h3 _ a1 h
    rw [a4 (by omega)] at b1
    cases b1
  · exact h
  · have b1 := a3 j h1 h
    rw [h4 (by omega)] at b1
    cases b1
theorem fi_cong {p q : Nat → Bool} : ∀ {n i : Nat}, (∀ k, i ≤ k → k < i + n → p k = q k) → fi p n i = fi q n i
  | 0, _, _ => rfl
  | n + 1, i, h => by
    unfold fi
    rw [h i (Nat.le_refl _) (by omega), fi_cong (n := n) (i := i + 1) (fun k h1 h2 => h k (by omega) (by omega))]
theorem fi_step {p : Nat → Bool} {n i : Nat} (h : p i = false) : fi p (n + 1) i = fi p n (i + 1) := if_neg (by rw [h]; decide)
theorem fi_here {p : Nat → Bool} {n i : Nat} (h : p i = true) : fi p (n + 1) i = i := if_pos h
/-! counting -/
def cnt (p : Nat → Bool) : Nat → Nat
  | 0 => 0
  | n + 1 => cnt p n + if p n then 1 else 0
theorem cnt_s (p : Nat → Bool) (n : Nat) : cnt p (n + 1) = cnt p n + if p n then 1 else 0 := rfl
theorem cnt_le (p : Nat → Bool) : ∀ n, cnt p n ≤ n
  | 0 => Nat.le_refl _
  | n + 1 => by
    have h := cnt_le p n
    unfold cnt
    split <;> omega
theorem cnt_cong {p q : Nat → Bool} : ∀ {n : Nat}, (∀ k, k < n → p k = q k) → cnt p n = cnt q n
  | 0, _ => rfl
  | n + 1, h => by
    unfold cnt
    rw [h n (by omega), cnt_cong (n := n) (fun k hk => h k (by omega))]
theorem cnt_set {p q : Nat → Bool} {s : Nat} (hp : p s = false) (hq : q s = true) (h : ∀ k, k ≠ s → p k = q k) : ∀ {n : Nat}, s < n → cnt q n = cnt p n + 1
  | 0, hs => by omega
  | n + 1, hs => by
    unfold cnt
    by_cases hn : s = n
    · subst hn
      rw [hp, hq, cnt_cong (p := q) (q := p) (fun k hk => (h k (by omega)).symm)]
      rfl
    · rw [cnt_set hp hq h (n := n) (by omega), h n (fun e => hn e.symm)]
      omega
theorem cnt_none {p : Nat → Bool} : ∀ {n : Nat}, (∀ k, k < n → p k = false) → cnt p n = 0
  | 0, _ => rfl
  | n + 1, h => by
    unfold cnt
    rw [h n (by omega), cnt_none (n := n) (fun k hk => h k (by omega))]
    rfl
theorem cnt_all {p : Nat → Bool} : ∀ {n : Nat}, (∀ k, k < n → p k = true) → cnt p n = n
  | 0, _ => rfl
  | n + 1, h => by
    unfold cnt
    rw [h n (by omega), cnt_all (n := n) (fun k hk => h k (by omega))]
    rfl
theorem cnt_mono (p : Nat → Bool) : ∀ {m n : Nat}, m ≤ n → cnt p m ≤ cnt p n
  | m, 0, h => by cases Nat.le_zero.mp h; exact Nat.le_refl _
  | m, n + 1, h => by
    by_cases hm : m = n + 1
    · rw [hm]; exact Nat.le_refl _
    · have := cnt_mono p (m := m) (n := n) (by omega)
      rw [cnt_s p n]
      omega
theorem cnt_ex {p : Nat → Bool} {n : Nat} (h : cnt p n < n) : ∃ k, k < n ∧ p k = false := by
  apply Classical.byContradiction
  intro hc
  have : cnt p n = n := cnt_all (fun k hk => by
    cases hp : p k
    · exact absurd ⟨k, hk, hp⟩ hc
    · rfl)
  omega
theorem cnt_pos {p : Nat → Bool} {n k : Nat} (hk : k < n) (hp : p k = true) : 0 < cnt p n := by
  have h1 := cnt_mono p (m := k + 1) (n := n) hk
  rw [cnt_s p k, hp, if_pos rfl] at h1
  omega
theorem cnt_two {p q r : Nat → Bool} : ∀ {n : Nat}, (∀ k, k < n → (r k = (p k || q k)) ∧ ¬ (p k = true ∧ q k = true)) → cnt r n = cnt p n + cnt q n
  | 0, _ => rfl
  | n + 1, h => by
    have h1 := h n (by omega)
    have h2 := cnt_two (p := p) (q := q) (r := r) (n := n) (fun k hk => h k (by omega))
    rw [cnt_s, cnt_s, cnt_s, h2, h1.1]
    have i1 : (if true = true then 1 else 0) = 1 := rfl
    have i0 : (if false = true then 1 else 0) = 0 := rfl
    cases hp : p n <;> cases hq : q n
    · rfl
    · rw [Bool.or_true, i1, i0]; omega
    · rw [Bool.or_false, i1, i0]; omega
    · exact absurd ⟨hp, hq⟩ h1.2
/-! probe sequences -/
def cOK (c : Nat) : Prop := c = 8 ∨ c = 16 ∨ c = 32 ∨ c = 64
theorem cOK.le {c : Nat} (h : cOK c) : c ≤ 64 := by rcases h with rfl | rfl | rfl | rfl <;> omega
theorem cOK.ge {c : Nat} (h : cOK c) : 8 ≤ c := by rcases h with rfl | rfl | rfl | rfl <;> omega
theorem cOK.lt {c : Nat} (h : cOK c) : c < 2147483648 := by rcases h with rfl | rfl | rfl | rfl <;> omega
def hN (k sd : Nat) : Nat := (40503 * k + 9973 * sd) % 65536
def stN (c kd h : Nat) : Nat := if kd = 2 then 2 * (h / c % (c / 2)) + 1 else 1
def ofN (kd i st : Nat) : Nat := if kd = 1 then i * (i + 1) / 2 else i * st
def sq (c kd sd k i : Nat) : Nat := (hN k sd + ofN kd i (stN c kd (hN k sd))) % c
theorem hN_lt (k sd : Nat) : hN k sd < 65536 := Nat.mod_lt _ (by decide)
theorem sq_lt {c kd sd k i : Nat} (hc : cOK c) : sq c kd sd k i < c := Nat.mod_lt _ (by have := hc.ge; omega)
theorem sq_64 {c kd sd k i : Nat} (hc : cOK c) : sq c kd sd k i < 64 := Nat.lt_of_lt_of_le (sq_lt hc) hc.le
theorem stN_lt {c kd h : Nat} (hc : cOK c) : stN c kd h < c := by
  unfold stN
  split
  · rcases hc with rfl | rfl | rfl | rfl <;> omega
  · have := hc.ge; omega
theorem stN_odd (c kd h : Nat) : stN c kd h % 2 = 1 := by
  unfold stN
  split <;> omega
theorem inv8 : ∀ st, st < 8 → st % 2 = 1 → ∃ t, t < 8 ∧ st * t % 8 = 1 := by decide +kernel
theorem inv16 : ∀ st, st < 16 → st % 2 = 1 → ∃ t, t < 16 ∧ st * t % 16 = 1 := by decide +kernel
theorem inv32 : ∀ st, st < 32 → st % 2 = 1 → ∃ t, t < 32 ∧ st * t % 32 = 1 := by decide +kernel
theorem inv64 : ∀ st, st < 64 → st % 2 = 1 → ∃ t, t < 64 ∧ st * t % 64 = 1 := by decide +kernel
theorem invC {c st : Nat} (hc : cOK c) (h : st < c) (ho : st % 2 = 1) : ∃ t, st * t % c = 1 := by
  rcases hc with rfl | rfl | rfl | rfl
  · exact (inv8 st h ho).imp fun _ h => h.2
  · exact (inv16 st h ho).imp fun _ h => h.2
  · exact (inv32 st h ho).imp fun _ h => h.2
  · exact (inv64 st h ho).imp fun _ h => h.2
theorem triI8 : ∀ i, i < 8 → ∀ j, j < 8 → i * (i + 1) / 2 % 8 = j * (j + 1) / 2 % 8 → i = j := by decide +kernel
theorem triI16 : ∀ i, i < 16 → ∀ j, j < 16 → i * (i + 1) / 2 % 16 = j * (j + 1) / 2 % 16 → i = j := by decide +kernel
theorem triI32 : ∀ i, i < 32 → ∀ j, j < 32 → i * (i + 1) / 2 % 32 = j * (j + 1) / 2 % 32 → i = j := by decide +kernel
theorem triI64 : ∀ i, i < 64 → ∀ j, j < 64 → i * (i + 1) / 2 % 64 = j * (j + 1) / 2 % 64 → i = j := by decide +kernel
theorem triS8 : ∀ s, s < 8 → ∃ i, i < 8 ∧ i * (i + 1) / 2 % 8 = s := by decide +kernel
theorem triS16 : ∀ s, s < 16 → ∃ i, i < 16 ∧ i * (i + 1) / 2 % 16 = s := by decide +kernel
theorem triS32 : ∀ s, s < 32 → ∃ i, i < 32 ∧ i * (i + 1) / 2 % 32 = s := by decide +kernel
theorem triS64 : ∀ s, s < 64 → ∃ i, i < 64 ∧ i * (i + 1) / 2 % 64 = s := by decide +kernel
theorem of_inj {c kd st i j : Nat} (hc : cOK c) (hs : st < c) (ho : st % 2 = 1) (hi : i < c) (hj : j < c) (h : ofN kd i st % c = ofN kd j st % c) : i = j := by
  unfold ofN at h
  by_cases hk : kd = 1
  · rw [if_pos hk, if_pos hk] at h
    rcases hc with rfl | rfl | rfl | rfl
    · exact triI8 i hi j hj h
    · exact triI16 i hi j hj h
    · exact triI32 i hi j hj h
    · exact triI64 i hi j hj h
  · rw [if_neg hk, if_neg hk] at h
    obtain ⟨t, ht⟩ := invC hc hs ho
    have key : ∀ x, x < c → x * st % c * t % c = x := fun x hx => by
      rw [Nat.mod_mul_mod, Nat.mul_assoc, ← Nat.mul_mod_mod, ht, Nat.mul_one, Nat.mod_eq_of_lt hx]
    rw [← key i hi, ← key j hj, h]
theorem of_sur {c kd st s : Nat} (hc : cOK c) (hs : st < c) (ho : st % 2 = 1) (h : s < c) : ∃ i, i < c ∧ ofN kd i st % c = s := by
  unfold ofN
  by_cases hk : kd = 1
  · simp only [if_pos hk]
    rcases hc with rfl | rfl | rfl | rfl
    · exact triS8 s h
    · exact triS16 s h
    · exact triS32 s h
    · exact triS64 s h
  · simp only [if_neg hk]
    obtain ⟨t, ht⟩ := invC hc hs ho
    refine ⟨s * t % c, Nat.mod_lt _ (by omega), ?_⟩
    rw [Nat.mod_mul_mod, Nat.mul_assoc, Nat.mul_comm t st, ← Nat.mul_mod_mod, ht, Nat.mul_one, Nat.mod_eq_of_lt h]
theorem sq_inj {c kd sd k i j : Nat} (hc : cOK c) (hi : i < c) (hj : j < c) (h : sq c kd sd k i = sq c kd sd k j) : i = j := by
  refine of_inj (kd := kd) hc (stN_lt hc (kd := kd) (h := hN k sd)) (stN_odd _ _ _) hi hj ?_
  unfold sq at h
  rcases hc with rfl | rfl | rfl | rfl <;> omega
theorem sq_sur {c kd sd k s : Nat} (hc : cOK c) (hs : s < c) : ∃ i, i < c ∧ sq c kd sd k i = s := by
  have h1 : (s + c - hN k sd % c) % c < c := Nat.mod_lt _ (by omega)
  obtain ⟨i, hi, h2⟩ := of_sur (kd := kd) hc (stN_lt hc (kd := kd) (h := hN k sd)) (stN_odd _ _ _) h1
  refine ⟨i, hi, ?_⟩
  unfold sq
  rw [← Nat.add_mod_mod, h2]
  rcases hc with rfl | rfl | rfl | rfl <;> omega
