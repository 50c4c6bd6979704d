/-! the law: what its entry gives, and its walk to the head of its loop -/
theorem st_inRJ0 : ∀ w ∈ u_ws RJ0 TJ0 2, w ∈ lw_tbl := by decide +kernel
theorem st_inRJx00060 : ∀ w ∈ u_ws RJx00060 TJx00060 6, w ∈ lw_tbl := by decide +kernel
theorem st_inRX2 : ∀ w ∈ u_ws RX2 TX2 3, w ∈ lw_tbl := by decide +kernel
theorem st_inRX3 : ∀ w ∈ u_ws RX3 TX3 2, w ∈ lw_tbl := by decide +kernel
theorem st_inRX4 : ∀ w ∈ u_ws RX4 TX4 7, w ∈ lw_tbl := by decide +kernel
theorem st_inRX5 : ∀ w ∈ u_ws RX5 TX5 12, w ∈ lw_tbl := by decide +kernel
theorem st_inRX6 : ∀ w ∈ u_ws RX6 TX6 10, w ∈ lw_tbl := by decide +kernel
theorem st_inRX7 : ∀ w ∈ u_ws RX7 TX7 17, w ∈ lw_tbl := by decide +kernel
theorem st_kn {args : Array Value} {s : State} (hts : ∀ w ∈ lw_tbl, w.before args s = true) : ∃ (dC : Nat → ClassId) (dI : Nat → Nat → Nat), ∀ (k : Nat) (q : vw_C), vwCl[k]? = some q → u_Kn s q.1 q.2.1 q.2.2 (dC k) (dI k) := by
  have h0 : ∀ k : Nat, ∃ d : ClassId × (Nat → Nat), ∀ q : vw_C, vwCl[k]? = some q → u_Kn s q.1 q.2.1 q.2.2 d.1 d.2 := by
    intro k
    match k with
    | 0 =>
      obtain ⟨c, i, h⟩ := u_known (C := RJ0) (T := TJ0) (N := 2) (n := 4) hts st_inRJ0 (hts _ (by decide +kernel))
      exact ⟨(c, i), fun q hq => by obtain rfl : (RJ0, TJ0, 2) = q := Option.some.inj hq
                                    exact h⟩
    | 1 =>
      obtain ⟨c, i, h⟩ := u_known (C := RJx00060) (T := TJx00060) (N := 6) (n := 6) hts st_inRJx00060 (hts _ (by decide +kernel))
      exact ⟨(c, i), fun q hq => by obtain rfl : (RJx00060, TJx00060, 6) = q := Option.some.inj hq
                                    exact h⟩
    | 2 =>
      obtain ⟨c, i, h⟩ := u_known (C := RX2) (T := TX2) (N := 3) (n := 3) hts st_inRX2 (hts _ (by decide +kernel))
      exact ⟨(c, i), fun q hq => by obtain rfl : (RX2, TX2, 3) = q := Option.some.inj hq
                                    exact h⟩
    | 3 =>
      obtain ⟨c, i, h⟩ := u_known (C := RX3) (T := TX3) (N := 2) (n := 2) hts st_inRX3 (hts _ (by decide +kernel))
      exact ⟨(c, i), fun q hq => by obtain rfl : (RX3, TX3, 2) = q := Option.some.inj hq
                                    exact h⟩
    | 4 =>
      obtain ⟨c, i, h⟩ := u_known (C := RX4) (T := TX4) (N := 7) (n := 7) hts st_inRX4 (hts _ (by decide +kernel))
      exact ⟨(c, i), fun q hq => by obtain rfl : (RX4, TX4, 7) = q := Option.some.inj hq
                                    exact h⟩
    | 5 =>
      obtain ⟨c, i, h⟩ := u_known (C := RX5) (T := TX5) (N := 12) (n := 12) hts st_inRX5 (hts _ (by decide +kernel))
      exact ⟨(c, i), fun q hq => by obtain rfl : (RX5, TX5, 12) = q := Option.some.inj hq
                                    exact h⟩
    | 6 =>
      obtain ⟨c, i, h⟩ := u_known (C := RX6) (T := TX6) (N := 10) (n := 10) hts st_inRX6 (hts _ (by decide +kernel))
      exact ⟨(c, i), fun q hq => by obtain rfl : (RX6, TX6, 10) = q := Option.some.inj hq
                                    exact h⟩
    | 7 =>
      obtain ⟨c, i, h⟩ := u_known (C := RX7) (T := TX7) (N := 17) (n := 17) hts st_inRX7 (hts _ (by decide +kernel))
      exact ⟨(c, i), fun q hq => by obtain rfl : (RX7, TX7, 17) = q := Option.some.inj hq
                                    exact h⟩
    | k + 8 => exact ⟨(0, fun _ => 0), fun q hq => by simp [vwCl] at hq⟩
  obtain ⟨d, hd⟩ := Classical.axiomOfChoice h0
  exact ⟨fun k => (d k).1, fun k => (d k).2, hd⟩
theorem st_K {args : Array Value} {s : State} (hts : ∀ w ∈ lw_tbl, w.before args s = true) : ∃ (D : va_G) (cC cI cO cJ cD : ClassId), va_K D vwCl (hTy5 cC cI cO cJ cD) s := by
  obtain ⟨dC, dI, hk⟩ := st_kn hts
  obtain ⟨cC, kC, pC, a1, a2, a3⟩ := Cond.arrayClass_spec (type := .char) (hts _ (by decide +kernel))
  obtain ⟨cI, kI, pI, b1, b2, b3⟩ := Cond.arrayClass_spec (type := .int) (hts _ (by decide +kernel))
  obtain ⟨pO, cO, kO, c1, c2, c3, c4, c5⟩ := Cond.arrayOver_spec (n := "HashLab$Table") (hts _ (by decide +kernel))
  obtain ⟨cJ, kJ, pJ, d1, d2, d3⟩ := Cond.arrayClass_spec (type := .long) (hts _ (by decide +kernel))
  obtain ⟨cD, kD, pD, e1, e2, e3⟩ := Cond.arrayClass_spec (type := .double) (hts _ (by decide +kernel))
  refine ⟨(dC, dI), cC, cI, cO, cJ, cD, hk, ?_⟩
  intro k q hq
  match k, hq with
  | 0, hq => obtain rfl : (cC, FieldType.char) = q := Option.some.inj hq
             exact ⟨fun n z => ⟨fun k h => (by cases h), kC, a2, pC, a3⟩, a1⟩
  | 1, hq => obtain rfl : (cI, FieldType.int) = q := Option.some.inj hq
             exact ⟨fun n z => ⟨fun k h => (by cases h), kI, b2, pI, b3⟩, b1⟩
  | 2, hq => obtain rfl : (cO, FieldType.object "HashLab$Table") = q := Option.some.inj hq
             exact ⟨fun n z => ⟨fun k h => (by cases h), kO, c3, pO, c4⟩, ⟨kO, pO, c3, c4, c1, c5⟩⟩
  | 3, hq => obtain rfl : (cJ, FieldType.long) = q := Option.some.inj hq
             exact ⟨fun n z => ⟨fun k h => (by cases h), kJ, d2, pJ, d3⟩, d1⟩
  | 4, hq => obtain rfl : (cD, FieldType.double) = q := Option.some.inj hq
             exact ⟨fun n z => ⟨fun k h => (by cases h), kD, e2, pD, e3⟩, e1⟩
  | k + 5, hq => simp [hTy5] at hq
