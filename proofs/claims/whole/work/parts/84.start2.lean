/-! the law: what its entry gives, and its walk to the head of its loop -/
def hTm (i : Nat) : Term := .string RX4 (hVT.getD i (0, "")).1
theorem hVL_lt : ∀ i, i < 7 → hVL.getD i 0 < 2147483648 := by decide +kernel
theorem hV_apart : ∀ i, i < 7 → ∀ j, j < 7 → i ≠ j → Int32.ofNat (hVL.getD i 0) = Int32.ofNat (hVL.getD j 0) → ((List.range 7).any fun k => decide (k < hVL.getD i 0 ∧ k < hVL.getD j 0 ∧ (hVB.getD i []).getD k 0 ≠ (hVB.getD j []).getD k 0)) = true := by decide +kernel
abbrev lw_fl : List Cond := flatC (Jvm.Cond.and given_1 narrow_1)
theorem st_w1 : ∀ i, i < 7 → Cond.exactly (hTm i) "java/lang/String" ∈ lw_fl := by decide +kernel
theorem st_w2 : ∀ i, i < 7 → Cond.eq (.field (hTm i) "java/lang/String" "coder" "B") (.int 0) ∈ lw_fl := by decide +kernel
theorem st_w3 : ∀ i, i < 7 → Cond.arrayOf (.field (hTm i) "java/lang/String" "value" "[B") .byte ∈ lw_fl := by decide +kernel
theorem st_w4 : ∀ i, i < 7 → Cond.eq (.length (.field (hTm i) "java/lang/String" "value" "[B")) (.int (Int32.ofNat (hVL.getD i 0))) ∈ lw_fl := by decide +kernel
theorem st_w5a : ∀ i, i < 7 → ∀ j, j < hVL.getD i 0 → lw_fl[([507, 515, 526, 535, 545, 554, 565] : List Nat).getD i 0 + 4 + j]? = some (Cond.eq (.elem (.field (hTm i) "java/lang/String" "value" "[B") (.int (Int32.ofNat j))) (.int ((hVB.getD i []).getD j 0))) := by decide +kernel
theorem st_w5 : ∀ i, i < 7 → ∀ j, j < hVL.getD i 0 → Cond.eq (.elem (.field (hTm i) "java/lang/String" "value" "[B") (.int (Int32.ofNat j))) (.int ((hVB.getD i []).getD j 0)) ∈ lw_fl := fun i hi j hj => List.mem_of_getElem? (st_w5a i hi j hj)
theorem st_w6 : ∀ q ∈ hVT, Cond.stringRef RX4 q.1 q.2 ∈ lw_tbl := by decide +kernel
theorem st_w7 : ∀ q ∈ hStr, Cond.stringRef q.1 q.2.1 q.2.2 ∈ lw_tbl := by decide +kernel
theorem st_w8 : ∀ q ∈ hStr, Cond.exactly (.string q.1 q.2.1) "java/lang/String" ∈ lw_fl := by decide +kernel
theorem st_Sof {args : Array Value} {s : State} (hs : ∀ w ∈ lw_fl, w.before args s = true) {A : Nat → Prop} (hA : ∀ a : Nat, a < s.heap.size → ¬ A a) : ∃ adK adV : Nat → Nat, vk_S 7 hVL hVB adK adV A s s.heap ∧ ∀ i : Nat, i < 7 → (hTm i).eval args s none [] s = some (.ref (adK i)) := by
  have h0 : ∀ i : Nat, ∃ q : Nat × Nat, i < 7 → (hTm i).eval args s none [] s = some (.ref q.1) ∧ va_O "java/lang/String" q.1 A s s.heap ∧ va_OF "java/lang/String" "coder" "B" (.int 0) q.1 A s s.heap ∧ va_OF "java/lang/String" "value" "[B" (.ref q.2) q.1 A s s.heap ∧ va_T .byte q.2 (hVL.getD i 0) (fun j => .int ((hVB.getD i []).getD j 0)) A s s.heap := by
    intro i
    by_cases hi : i < 7
    · have one : ∀ j : Nat, j < 1 → j = 0 := fun j hj => by omega
      have a1 : ∀ j : Nat, j < 1 → ([hVL.getD i 0] : List Nat).getD j 0 < 2 ^ 31 := by
        intro j hj
        cases one j hj
        exact hVL_lt i hi
      have a4 : ∀ j : Nat, j < 1 → (Cond.eq (.length (.field (hTm i) "java/lang/String" "value" "[B")) (.int (Int32.ofNat (([hVL.getD i 0] : List Nat).getD j 0)))).before args s = true := by
        intro j hj
        cases one j hj
        exact hs _ (st_w4 i hi)
      have a5 : ∀ j : Nat, j < 1 → ∀ k : Nat, k < ([hVL.getD i 0] : List Nat).getD j 0 → (Cond.eq (.elem (.field (hTm i) "java/lang/String" "value" "[B") (.int (Int32.ofNat k))) (.int ((([hVB.getD i []] : List (List Int32)).getD j []).getD k 0))).before args s = true := by
        intro j hj
        cases one j hj
        exact fun k hk => hs _ (st_w5 i hi k hk)
      obtain ⟨a, v, h1, h2⟩ := vk_Sof (args := args) (s := s) (N := 1) (tm := fun _ => hTm i) (len := [hVL.getD i 0]) (byt := [hVB.getD i []]) (A := A) a1 (fun j _ => hs _ (st_w1 i hi)) (fun j _ => hs _ (st_w2 i hi)) (fun j _ => hs _ (st_w3 i hi)) a4 a5 (fun j k hj hk hne => absurd ((one j hj).trans (one k hk).symm) hne) hA
      exact ⟨(a 0, v 0), fun _ => ⟨h2 0 (by omega), h1.1 0 (by omega)⟩⟩
    · exact ⟨(0, 0), fun h => absurd h hi⟩
  obtain ⟨ad, had⟩ := Classical.axiomOfChoice h0
  refine ⟨fun i => (ad i).1, fun i => (ad i).2, ⟨fun i hi => (had i hi).2, fun i j hi hj e => ?_⟩, fun i hi => (had i hi).1⟩
  by_cases hij : i = j
  · exact hij
  · have g1 := (had i hi).2.2.2
    have g2 := (had j hj).2.2.2
    have e1 : (ad i).1 = (ad j).1 := e
    rw [e1] at g1
    have e2 : (ad i).2 = (ad j).2 := by
      have e3 := st_OF g1.1 g2.1
      injection e3
    have g3 := g1.2
    rw [e2] at g3
    obtain ⟨k1, k2⟩ := st_T g3 g2.2
    obtain ⟨k, -, q0⟩ := List.any_eq_true.mp (hV_apart i hi j hj hij k1)
    obtain ⟨q1, q2, q3⟩ := of_decide_eq_true q0
    have q4 := k2 k q1 q2
    injection q4 with q5
    exact absurd q5 q3
theorem st_hSt {args : Array Value} {s : State} (hts : ∀ w ∈ lw_tbl, w.before args s = true) (hs : ∀ w ∈ lw_fl, w.before args s = true) {A : Nat → Prop} (hA : ∀ a : Nat, a < s.heap.size → ¬ A a) : ∃ adK adV : Nat → Nat, hSt adK adV A s := by
  obtain ⟨adK, adV, h1, h2⟩ := st_Sof hs hA
  refine ⟨adK, adV, va_Zof (hts _ (by decide +kernel)) (hts _ (by decide +kernel)) (va_eqt (hs _ (by decide +kernel))) hA, h1, va_Zqof (hts _ (by decide +kernel)) (hts _ (by decide +kernel)) (hs _ (by decide +kernel)) hA, fun i q hi => ?_⟩
  have hl : i < 7 := (List.getElem?_eq_some_iff.mp hi).1
  refine vk_R.of (hts _ (st_w6 q (List.mem_of_getElem? hi))) ?_
  have e1 := h2 i hl
  have e2 : hVT.getD i (0, "") = q := by rw [List.getD_eq_getElem?_getD, hi]; rfl
  unfold hTm at e1
  rw [e2] at e1
  exact e1
theorem st_hSr {args : Array Value} {s : State} (hts : ∀ w ∈ lw_tbl, w.before args s = true) (hs : ∀ w ∈ lw_fl, w.before args s = true) : hSr s := by
  intro q hq
  obtain ⟨a, c, cA, kA, q1, -⟩ := Cond.exactly_spec (args := args) (first := s) (o := none) (s := s) (idx := []) (hs _ (st_w8 q hq))
  exact ⟨a, vk_R.of (hts _ (st_w7 q hq)) q1⟩
theorem st_hBw {args : Array Value} {s : State} (hts : ∀ w ∈ lw_tbl, w.before args s = true) : hBw s := by
  intro w hw
  have h1 := hts w (List.mem_filter.mp hw).1
  rcases hl_bad_cases w (List.mem_filter.mp hw).2 with ⟨a, b, rfl⟩ | ⟨x, rfl⟩
  · exact va_Nw.of rfl h1
  · exact va_Nw.of rfl h1
theorem st_hNw {args : Array Value} {s : State} (hts : ∀ w ∈ lw_tbl, w.before args s = true) : hNw s := by
  intro w hw
  have h1 := hts w (List.mem_filter.mp hw).1
  rcases hl_nest_cases w (List.mem_filter.mp hw).2 with ⟨a, i, b, n, d, k, rfl⟩ | ⟨a, i, x, k, rfl⟩
  · exact va_Nw.of rfl h1
  · exact va_Nw.of rfl h1
theorem st_hLw {args : Array Value} {s : State} (hts : ∀ w ∈ lw_tbl, w.before args s = true) (hs : ∀ w ∈ lw_fl, w.before args s = true) {A : Nat → Prop} (hA : ∀ a : Nat, a < s.heap.size → ¬ A a) : ∃ adK adV : Nat → Nat, hLw adK adV A s := by
  obtain ⟨adK, adV, h1⟩ := st_hSt hts hs hA
  exact ⟨adK, adV, ⟨⟨vx_Zqof (hts _ (by decide +kernel)) (hts _ (by decide +kernel)) (hs _ (by decide +kernel)) hA, vx_Zqof (hts _ (by decide +kernel)) (hts _ (by decide +kernel)) (hs _ (by decide +kernel)) hA⟩, st_hBw hts, st_hSr hts hs⟩, h1, va_Nc.of (hs _ (by decide +kernel)), va_Nc.of (hs _ (by decide +kernel)), va_Nc.of (hs _ (by decide +kernel)), va_Nc.of (hs _ (by decide +kernel))⟩
