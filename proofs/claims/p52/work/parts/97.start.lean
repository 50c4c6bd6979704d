/-! the law: what its entry gives -/
theorem st_inRJ0 : ∀ w ∈ u_ws RJ0 TJ0 4, w ∈ lw_tbl := by decide +kernel
theorem st_inRJ4 : ∀ w ∈ u_ws RJ4 TJ4 4, w ∈ lw_tbl := by decide +kernel
theorem st_inRX2 : ∀ w ∈ u_ws RX2 TX2 3, w ∈ lw_tbl := by decide +kernel
theorem st_inRX3 : ∀ w ∈ u_ws RX3 TX3 2, w ∈ lw_tbl := by decide +kernel
theorem st_inRX4 : ∀ w ∈ u_ws RX4 TX4 7, w ∈ lw_tbl := by decide +kernel
theorem st_inRX5 : ∀ w ∈ u_ws RX5 TX5 12, w ∈ lw_tbl := by decide +kernel
theorem st_inRX6 : ∀ w ∈ u_ws RX6 TX6 10, w ∈ lw_tbl := by decide +kernel
theorem st_kn {args : Array Value} {s : State} (hts : ∀ w ∈ lw_tbl, w.before args s = true) : ∃ (dC : Nat → ClassId) (dI : Nat → Nat → Nat), ∀ (k : Nat) (q : vw_C), vwCl[k]? = some q → u_Kn s q.1 q.2.1 q.2.2 (dC k) (dI k) := by
  have h0 : ∀ k : Nat, ∃ d : ClassId × (Nat → Nat), ∀ q : vw_C, vwCl[k]? = some q → u_Kn s q.1 q.2.1 q.2.2 d.1 d.2 := by
    intro k
    match k with
    | 0 =>
      obtain ⟨c, i, h⟩ := u_known (C := RJ0) (T := TJ0) (N := 4) (n := 4) hts st_inRJ0 (hts _ (by decide +kernel))
      exact ⟨(c, i), fun q hq => by obtain rfl : (RJ0, TJ0, 4) = q := Option.some.inj hq
                                    exact h⟩
    | 1 =>
      obtain ⟨c, i, h⟩ := u_known (C := RJ4) (T := TJ4) (N := 4) (n := 4) hts st_inRJ4 (hts _ (by decide +kernel))
      exact ⟨(c, i), fun q hq => by obtain rfl : (RJ4, TJ4, 4) = q := Option.some.inj hq
                                    exact h⟩
    | 2 =>
      obtain ⟨c, i, h⟩ := u_known (C := RX2) (T := TX2) (N := 3) (n := 3) hts st_inRX2 (hts _ (by decide +kernel))
      exact ⟨(c, i), fun q hq => by obtain rfl : (RX2, TX2, 3) = q := Option.some.inj hq
                                    exact h⟩
    | 3 =>
      obtain ⟨c, i, h⟩ := u_known (C := RX3) (T := TX3) (N := 2) (n := 2) hts st_inRX3 (hts _ (by decide +kernel))
      exact ⟨(c, i), fun q hq => by obtain rfl : (RX3, TX3, 2) = q := Option.some.inj hq
                                    exact h⟩
    | 4 =>
      obtain ⟨c, i, h⟩ := u_known (C := RX4) (T := TX4) (N := 7) (n := 7) hts st_inRX4 (hts _ (by decide +kernel))
      exact ⟨(c, i), fun q hq => by obtain rfl : (RX4, TX4, 7) = q := Option.some.inj hq
                                    exact h⟩
    | 5 =>
      obtain ⟨c, i, h⟩ := u_known (C := RX5) (T := TX5) (N := 12) (n := 12) hts st_inRX5 (hts _ (by decide +kernel))
      exact ⟨(c, i), fun q hq => by obtain rfl : (RX5, TX5, 12) = q := Option.some.inj hq
                                    exact h⟩
    | 6 =>
      obtain ⟨c, i, h⟩ := u_known (C := RX6) (T := TX6) (N := 10) (n := 10) hts st_inRX6 (hts _ (by decide +kernel))
      exact ⟨(c, i), fun q hq => by obtain rfl : (RX6, TX6, 10) = q := Option.some.inj hq
                                    exact h⟩
    | k + 7 => exact ⟨(0, fun _ => 0), fun q hq => by simp [vwCl] at hq⟩
  obtain ⟨d, hd⟩ := Classical.axiomOfChoice h0
  exact ⟨fun k => (d k).1, fun k => (d k).2, hd⟩
theorem st_K {args : Array Value} {s : State} (hts : ∀ w ∈ lw_tbl, w.before args s = true) : ∃ (D : va_G) (cB cC cI cO : ClassId), va_K D vwCl (hTy cB cC cI cO) s := by
  obtain ⟨dC, dI, hk⟩ := st_kn hts
  obtain ⟨cC, kC, pC, a1, a2, a3⟩ := Cond.arrayClass_spec (type := .char) (hts _ (by decide +kernel))
  obtain ⟨cI, kI, pI, b1, b2, b3⟩ := Cond.arrayClass_spec (type := .int) (hts _ (by decide +kernel))
  obtain ⟨pO, cO, kO, c1, c2, c3, c4, c5⟩ := Cond.arrayOver_spec (n := "HashLab$Table") (hts _ (by decide +kernel))
  obtain ⟨cB, kB, pB, d1, d2, d3⟩ := Cond.arrayClass_spec (type := .byte) (hts _ (by decide +kernel))
  refine ⟨(dC, dI), cB, cC, cI, cO, hk, ?_⟩
  intro k q hq
  match k, hq with
  | 0, hq => obtain rfl : (cC, FieldType.char) = q := Option.some.inj hq
             exact ⟨fun n z => ⟨fun k h => (by cases h), kC, a2, pC, a3⟩, a1⟩
  | 1, hq => obtain rfl : (cI, FieldType.int) = q := Option.some.inj hq
             exact ⟨fun n z => ⟨fun k h => (by cases h), kI, b2, pI, b3⟩, b1⟩
  | 2, hq => obtain rfl : (cO, FieldType.object "HashLab$Table") = q := Option.some.inj hq
             exact ⟨fun n z => ⟨fun k h => (by cases h), kO, c3, pO, c4⟩, ⟨kO, pO, c3, c4, c1, c5⟩⟩
  | 3, hq => obtain rfl : (cB, FieldType.byte) = q := Option.some.inj hq
             exact ⟨fun n z => ⟨fun k h => (by cases h), kB, d2, pB, d3⟩, d1⟩
  | k + 4, hq => simp [hTy] at hq
def kTm (i : Nat) : Term := .string RL (kVT.getD i (0, "")).1
theorem kVL_lt : ∀ i, i < 6 → kVL.getD i 0 < 2 ^ 31 := by decide +kernel
abbrev lw_fl : List Cond := flatC (Jvm.Cond.and given_1 narrow_1)
def kPos : List Nat := [771, 790, 811, 833, 856, 880]
def kPoN : List (List Nat) := [[], [810], [831, 832], [853, 854, 855], [876, 877, 878, 879], [900, 901, 902, 903, 904]]
theorem st_w1a : ∀ i, i < 6 → lw_fl[kPos.getD i 0]? = some (Cond.exactly (kTm i) "java/lang/String") := by decide +kernel
theorem st_w2a : ∀ i, i < 6 → lw_fl[kPos.getD i 0 + 1]? = some (Cond.eq (.field (kTm i) "java/lang/String" "coder" "B") (.int 0)) := by decide +kernel
theorem st_w3a : ∀ i, i < 6 → lw_fl[kPos.getD i 0 + 2]? = some (Cond.arrayOf (.field (kTm i) "java/lang/String" "value" "[B") .byte) := by decide +kernel
theorem st_w4a : ∀ i, i < 6 → lw_fl[kPos.getD i 0 + 3]? = some (Cond.eq (.length (.field (kTm i) "java/lang/String" "value" "[B")) (.int (Int32.ofNat (kVL.getD i 0)))) := by decide +kernel
theorem st_w5a : ∀ i, i < 6 → ∀ j, j < kVL.getD i 0 → lw_fl[kPos.getD i 0 + 4 + j]? = some (Cond.eq (.elem (.field (kTm i) "java/lang/String" "value" "[B") (.int (Int32.ofNat j))) (.int ((kVB.getD i []).getD j 0))) := by decide +kernel
theorem st_w9a : ∀ j, j < 6 → ∀ i, i < j → lw_fl[(kPoN.getD j []).getD i 0]? = some (Cond.not (Cond.eq (kTm i) (kTm j))) := by decide +kernel
theorem st_w6 : ∀ q ∈ kVT, Cond.stringRef RL q.1 q.2 ∈ lw_tbl := by decide +kernel
theorem st_w7 : ∀ q ∈ hStr, Cond.stringRef q.1 q.2.1 q.2.2 ∈ lw_tbl := by decide +kernel
theorem st_w8 : ∀ q ∈ hStr, Cond.exactly (.string q.1 q.2.1) "java/lang/String" ∈ lw_fl := by decide +kernel
theorem st_d1a : ∀ j, j < 100 → lw_fl[14 + j]? = some (Cond.eq (.elem (.static "java/lang/Integer" "DigitOnes" "[B") (.int (Int32.ofNat j))) (.int (dgO j))) := by decide +kernel
theorem st_d2a : ∀ j, j < 100 → lw_fl[117 + j]? = some (Cond.eq (.elem (.static "java/lang/Integer" "DigitTens" "[B") (.int (Int32.ofNat j))) (.int (dgT j))) := by decide +kernel
theorem st_hKt {g : LG} {args : Array Value} {s : State} (hts : ∀ w ∈ lw_tbl, w.before args s = true) (hs : ∀ w ∈ lw_fl, w.before args s = true) {A : Nat → Prop} (hA : ∀ a : Nat, a < s.heap.size → ¬ A a) : ∃ adK adV : Nat → Nat, hKt (adK, adV, g.2.2) A s := by
  obtain ⟨adK, adV, h1, h2⟩ := vk_Sof (args := args) (s := s) (N := 6) (tm := kTm) (len := kVL) (byt := kVB) (A := A) kVL_lt (fun i hi => hs _ (List.mem_of_getElem? (st_w1a i hi))) (fun i hi => hs _ (List.mem_of_getElem? (st_w2a i hi))) (fun i hi => hs _ (List.mem_of_getElem? (st_w3a i hi))) (fun i hi => hs _ (List.mem_of_getElem? (st_w4a i hi))) (fun i hi j hj => hs _ (List.mem_of_getElem? (st_w5a i hi j hj))) (fun i j hi hj hne => by
    by_cases e : i < j
    · exact Or.inl (hs _ (List.mem_of_getElem? (st_w9a j hj i e)))
    · exact Or.inr (hs _ (List.mem_of_getElem? (st_w9a i hi j (by omega))))) hA
  refine ⟨adK, adV, h1, fun i q hi => ?_⟩
  have hl : i < 6 := (List.getElem?_eq_some_iff.mp hi).1
  refine vk_R.of (hts _ (st_w6 q (List.mem_of_getElem? hi))) ?_
  have e1 := h2 i hl
  have e2 : kVT.getD i (0, "") = q := by rw [List.getD_eq_getElem?_getD, hi]; rfl
  unfold kTm at e1
  rw [e2] at e1
  exact e1
theorem st_hSr {args : Array Value} {s : State} (hts : ∀ w ∈ lw_tbl, w.before args s = true) (hs : ∀ w ∈ lw_fl, w.before args s = true) : hSr s := by
  intro q hq
  obtain ⟨a, c, cA, kA, q1, -⟩ := Cond.exactly_spec (args := args) (first := s) (o := none) (s := s) (idx := []) (hs _ (st_w8 q hq))
  exact ⟨a, vk_R.of (hts _ (st_w7 q hq)) q1⟩
theorem st_hBw {args : Array Value} {s : State} (hts : ∀ w ∈ lw_tbl, w.before args s = true) : hBw s := by
  intro w hw
  have h1 := hts w (List.mem_filter.mp hw).1
  rcases hl_bad_cases w (List.mem_filter.mp hw).2 with ⟨a, b, rfl⟩ | ⟨x, rfl⟩
  · exact va_Nw.of rfl h1
  · exact va_Nw.of rfl h1
theorem st_hNw {args : Array Value} {s : State} (hts : ∀ w ∈ lw_tbl, w.before args s = true) : hNw s := by
  intro w hw
  have h1 := hts w (List.mem_filter.mp hw).1
  rcases hl_nest_cases w (List.mem_filter.mp hw).2 with ⟨a, i, b, n, d, k, rfl⟩ | ⟨a, i, x, k, rfl⟩
  · exact va_Nw.of rfl h1
  · exact va_Nw.of rfl h1
theorem st_dE {args : Array Value} {s : State} (hts : ∀ w ∈ lw_tbl, w.before args s = true) (hs : ∀ w ∈ lw_fl, w.before args s = true) {A : Nat → Prop} (hA : ∀ a : Nat, a < s.heap.size → ¬ A a) : dE A s := by
  obtain ⟨a1, e1, t1⟩ := va_Tof (tm := .static "java/lang/Integer" "DigitOnes" "[B") (ty := .byte) (N := 100) (f := fun j => .int (dgO j)) (A := A) (by decide) (hs _ (List.mem_of_getElem? (i := 12) (by decide +kernel))) (va_eqt (hs _ (List.mem_of_getElem? (i := 13) (by decide +kernel)))) (fun j hj => va_eqt (hs _ (List.mem_of_getElem? (st_d1a j hj)))) hA
  obtain ⟨a2, e2, t2⟩ := va_Tof (tm := .static "java/lang/Integer" "DigitTens" "[B") (ty := .byte) (N := 100) (f := fun j => .int (dgT j)) (A := A) (by decide) (hs _ (List.mem_of_getElem? (i := 115) (by decide +kernel))) (va_eqt (hs _ (List.mem_of_getElem? (i := 116) (by decide +kernel)))) (fun j hj => va_eqt (hs _ (List.mem_of_getElem? (st_d2a j hj)))) hA
  exact ⟨a1, a2, ⟨va_Zof (hts _ (by decide +kernel)) (hts _ (by decide +kernel)) e1 hA, t1⟩, va_Zof (hts _ (by decide +kernel)) (hts _ (by decide +kernel)) e2 hA, t2⟩
theorem st_hLw {args : Array Value} {s : State} (hts : ∀ w ∈ lw_tbl, w.before args s = true) (hs : ∀ w ∈ lw_fl, w.before args s = true) {A : Nat → Prop} (hA : ∀ a : Nat, a < s.heap.size → ¬ A a) {b L : Nat} {xs : Nat → Int32} (hX : va_X b L xs s s.heap) (hbl : b < s.heap.size) (O0 : va_AO "HashLab$Table" s) : ∃ adK adV : Nat → Nat, hLw (adK, adV, b, L, xs) A s := by
  obtain ⟨adK, adV, h1⟩ := st_hKt (g := (fun _ => 0, fun _ => 0, b, L, xs)) hts hs hA
  exact ⟨adK, adV, ⟨⟨⟨vx_Zqof (hts _ (by decide +kernel)) (hts _ (by decide +kernel)) (hs _ (List.mem_of_getElem? (i := 4) (by decide +kernel))) hA, vx_Zqof (hts _ (by decide +kernel)) (hts _ (by decide +kernel)) (hs _ (List.mem_of_getElem? (i := 5) (by decide +kernel))) hA⟩, st_hBw hts, st_hSr hts hs⟩,
    va_Zof (hts _ (by decide +kernel)) (hts _ (by decide +kernel)) (va_eqt (hs _ (List.mem_of_getElem? (i := 6) (by decide +kernel)))) hA, va_Zqof (hts _ (by decide +kernel)) (hts _ (by decide +kernel)) (hs _ (List.mem_of_getElem? (i := 7) (by decide +kernel))) hA, st_hBw hts, st_dE hts hs hA⟩, h1, ⟨va_Nc.of (hs _ (by decide +kernel)), va_Nc.of (hs _ (by decide +kernel))⟩, O0, hX, hbl, hA b hbl⟩
