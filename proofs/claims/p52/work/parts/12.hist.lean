/-! HashLab$History.newestState()LHashLab$Table;: 15 instructions -/
def fX2_newestState (hb : Nat → Nat → Nat) (hnw : Int32) : Option (Option Nat) := if hnw < 0 then (some ((none : Option Nat))) else (if (8 : Int32) ≤ hnw then (some ((none : Option Nat))) else (if hl_in hnw 8 = true then (some (hpf hb hnw.toNatClampNeg)) else none))
/-! HashLab$History.record(LHashLab$Table;)V: 31 instructions -/
def fX2_record_22  (hnw : Int32) (hct : Int32) (tcp : Int32) (tkd : Int32) (tsd : Int32) (tlm : Int32) (tfu : Int32) (ttb : Int32) (trb : Int32) (tgr : Int32) (tK : Nat → Int32) (tV : Nat → Int32) (hp : Nat → hTT) (k0 : Int32) : Option (Int32 × Int32 × (Nat → hTT)) := if hl_in k0 8 = true then ((fX5_copyFrom ((hp (k0.toNatClampNeg)).2.2.2.2.1) ((hp (k0.toNatClampNeg)).2.2.2.2.2.1) ((hp (k0.toNatClampNeg)).2.2.2.2.2.2.1) ((hp (k0.toNatClampNeg)).2.2.2.2.2.2.2.1) ((hp (k0.toNatClampNeg)).2.2.2.2.2.2.2.2.1) ((hp (k0.toNatClampNeg)).2.2.2.2.2.2.2.2.2.1) ((hp (k0.toNatClampNeg)).2.2.2.2.2.2.2.2.2.2.1) ((hp (k0.toNatClampNeg)).2.2.2.2.2.2.2.2.2.2.2) ((hp (k0.toNatClampNeg)).1) ((hp (k0.toNatClampNeg)).2.1) tcp tkd tsd tlm tfu ttb trb tgr tK tV).bind fun r3 => (some (k0, if (8 : Int32) < (hct + (1 : Int32)) then (8 : Int32) else (hct + (1 : Int32)), va_up hp (k0.toNatClampNeg) (r3.2.2.2.2.2.2.2.2.1, r3.2.2.2.2.2.2.2.2.2, (hp (k0.toNatClampNeg)).2.2.1, (hp (k0.toNatClampNeg)).2.2.2.1, r3.1, r3.2.1, r3.2.2.1, r3.2.2.2.1, r3.2.2.2.2.1, r3.2.2.2.2.2.1, r3.2.2.2.2.2.2.1, r3.2.2.2.2.2.2.2.1)))) else none
def fX2_record  (hnw : Int32) (hct : Int32) (tcp : Int32) (tkd : Int32) (tsd : Int32) (tlm : Int32) (tfu : Int32) (ttb : Int32) (trb : Int32) (tgr : Int32) (tK : Nat → Int32) (tV : Nat → Int32) (hp : Nat → hTT) : Option (Int32 × Int32 × (Nat → hTT)) := if (8 : Int32) ≤ (hnw + (1 : Int32)) then (fX2_record_22 hnw hct tcp tkd tsd tlm tfu ttb trb tgr tK tV hp (0 : Int32)) else (fX2_record_22 hnw hct tcp tkd tsd tlm tfu ttb trb tgr tK tV hp (hnw + (1 : Int32)))
abbrev rmX2_newestState : Room := { frames := 0, cells := 0, slots := 0, locals := 0 }
theorem hmX2_newestState : hMV yX2_newestState cX2_newestState 1 (some (.object "HashLab$Table")) 0 := ⟨q_690, q_15, q_689, q_10, by decide, by decide, by decide +kernel⟩
theorem dX2_newestState_0 : decode cX2_newestState 0 = .ok (.aload_n 0, 1) := by decide +kernel
theorem dX2_newestState_1 : decode cX2_newestState 1 = .ok (.getfield 16, 3) := by decide +kernel
theorem dX2_newestState_4 : decode cX2_newestState 4 = .ok (.ifCond .lt 24, 3) := by decide +kernel
theorem dX2_newestState_7 : decode cX2_newestState 7 = .ok (.aload_n 0, 1) := by decide +kernel
theorem dX2_newestState_8 : decode cX2_newestState 8 = .ok (.getfield 16, 3) := by decide +kernel
theorem dX2_newestState_11 : decode cX2_newestState 11 = .ok (.bipush 8, 2) := by decide +kernel
theorem dX2_newestState_13 : decode cX2_newestState 13 = .ok (.if_icmp .ge 15, 3) := by decide +kernel
theorem dX2_newestState_16 : decode cX2_newestState 16 = .ok (.aload_n 0, 1) := by decide +kernel
theorem dX2_newestState_17 : decode cX2_newestState 17 = .ok (.getfield 11, 3) := by decide +kernel
theorem dX2_newestState_20 : decode cX2_newestState 20 = .ok (.aload_n 0, 1) := by decide +kernel
theorem dX2_newestState_21 : decode cX2_newestState 21 = .ok (.getfield 16, 3) := by decide +kernel
theorem dX2_newestState_24 : decode cX2_newestState 24 = .ok (.aaload, 1) := by decide +kernel
theorem dX2_newestState_25 : decode cX2_newestState 25 = .ok (.goto 4, 3) := by decide +kernel
theorem dX2_newestState_28 : decode cX2_newestState 28 = .ok (.aconst_null, 1) := by decide +kernel
theorem dX2_newestState_29 : decode cX2_newestState 29 = .ok (.areturn, 1) := by decide +kernel
set_option maxHeartbeats 4000000 in
set_option maxRecDepth 100000 in
theorem bX2_newestState {p : Program} {l : Launch} {e : Env} {s : State} {m : MethodId} {args : Array Value} {below : List Frame} {meth : Method} {c : Code} {D : va_G} {cB cC cI cO : ClassId} {A : Nat → Prop} (C0 : gC RX2 cX2_newestState 1 (some (.object "HashLab$Table")) p s m args meth c D (hTy cB cC cI cO) A) (q0 q1 : Nat) (hb : Nat → Nat → Nat) (out : Option Nat) (hnw : Int32) (hct : Int32)  (hf : fX2_newestState hb hnw = some out) : gG p l e rmX2_newestState s m args below meth c D A 1 (MQ below (hQq D [(q0, .inr (2, [.ref q1, .int hnw, .int hct])), (q1, .inl (cO, 8, .inr (.inr (.inr (.inr (hpf hb))))))] out A) args s 0 0 A) 0 0 0 [(0, .ref q0)] [] [(q0, .inr (2, [.ref q1, .int hnw, .int hct])), (q1, .inl (cO, 8, .inr (.inr (.inr (.inr (hpf hb))))))] := by
  unfold fX2_newestState at hf
  refine g_aload_n C0 dX2_newestState_0 rfl 0 rfl ?_
  refine g_get C0 hinX2 0 rfl rfl 1 (by decide) q_117 rfl dX2_newestState_1 ?_
  refine g_if_lt C0 (tgt := 28) dX2_newestState_4 (by decide) (fun c1 => ?_) (fun c1 => ?_)
  · rw [if_pos c1] at hf
    refine g_aconst_null C0 dX2_newestState_28 ?_
    cases hf
    exact g_qret C0 dX2_newestState_29 rfl rfl rfl
  · rw [if_neg c1] at hf
    refine g_aload_n C0 dX2_newestState_7 rfl 0 rfl ?_
    refine g_get C0 hinX2 0 rfl rfl 1 (by decide) q_117 rfl dX2_newestState_8 ?_
    refine g_bipush C0 (v := (8 : Int32)) dX2_newestState_11 (by decide) ?_
    refine g_icmp_ge C0 (tgt := 28) dX2_newestState_13 (by decide) (fun c2 => ?_) (fun c2 => ?_)
    · rw [if_pos c2] at hf
      refine g_aconst_null C0 dX2_newestState_28 ?_
      cases hf
      exact g_qret C0 dX2_newestState_29 rfl rfl rfl
    · rw [if_neg c2] at hf
      refine g_aload_n C0 dX2_newestState_16 rfl 0 rfl ?_
      refine g_get C0 hinX2 0 rfl rfl 0 (by decide) q_116 rfl dX2_newestState_17 ?_
      refine g_aload_n C0 dX2_newestState_20 rfl 0 rfl ?_
      refine g_get C0 hinX2 0 rfl rfl 1 (by decide) q_117 rfl dX2_newestState_21 ?_
      obtain ⟨i3, hf⟩ := hl_ifS hf
      refine g_aldq C0 1 2 rfl rfl i3 rfl dX2_newestState_24 ?_
      refine g_goto C0 (tgt := 29) dX2_newestState_25 (by decide) ?_
      cases hf
      exact g_qret C0 dX2_newestState_29 rfl rfl rfl
theorem mX2_newestState (l : Launch) (D : va_G) (cB cC cI cO : ClassId)  (q0 q1 : Nat) (hb : Nat → Nat → Nat) (hnw : Int32) (hct : Int32)  (out : Option Nat) (hf : fX2_newestState hb hnw = some out) : ∀ sz, Met l yX2_newestState (ws_ yX2_newestState cX2_newestState 1 (some (.object "HashLab$Table"))) rmX2_newestState (va_Pc [.ref q0] (hPre D (hTy cB cC cI cO) [(q0, .inr (2, [.ref q1, .int hnw, .int hct])), (q1, .inl (cO, 8, .inr (.inr (.inr (.inr (hpf hb))))))] sz)) (hQq D [(q0, .inr (2, [.ref q1, .int hnw, .int hct])), (q1, .inl (cO, 8, .inr (.inr (.inr (.inr (hpf hb))))))] out (va_A [(q0, .inr (2, [.ref q1, .int hnw, .int hct])), (q1, .inl (cO, 8, .inr (.inr (.inr (.inr (hpf hb))))))] sz)) 0 0 (va_A [(q0, .inr (2, [.ref q1, .int hnw, .int hct])), (q1, .inl (cO, 8, .inr (.inr (.inr (.inr (hpf hb))))))] sz) :=
  g_met (Qf := fun A => hQq D [(q0, .inr (2, [.ref q1, .int hnw, .int hct])), (q1, .inl (cO, 8, .inr (.inr (.inr (.inr (hpf hb))))))] out A) (by decide +kernel) (Nat.le_of_ble_eq_true rfl) rfl (fun C0 => bX2_newestState C0 q0 q1 hb out hnw hct  hf)
theorem hl_newest (hb : Nat → Nat → Nat) {nw : Int32} {j : Nat} (h : hl_in nw 8 = true) (hj : nw.toNatClampNeg = j) : fX2_newestState hb nw = some (some (hb j 0)) := by
  have h1 := hl_inI h
  have h2 : ¬ nw < 0 := fun z => by
    have z1 := (fa_lt _ _).mp z
    have z2 : (0 : Int32).toInt = 0 := rfl
    omega
  have h3 : ¬ (8 : Int32) ≤ nw := fun z => by
    have z1 := (fa_le _ _).mp z
    have z2 : (8 : Int32).toInt = 8 := rfl
    omega
  unfold fX2_newestState
  rw [if_neg h2, if_neg h3, if_pos h, hj]
  rfl
abbrev rmX2_record : Room := { frames := 2, cells := 0, slots := 0, locals := 221 }
theorem hmX2_record : hMV yX2_record cX2_record 3 none 1 := ⟨q_685, q_15, q_683, q_684, by decide, by decide, by decide +kernel⟩
theorem dX2_record_0 : decode cX2_record 0 = .ok (.aload_n 0, 1) := by decide +kernel
theorem dX2_record_1 : decode cX2_record 1 = .ok (.aload_n 0, 1) := by decide +kernel
theorem dX2_record_2 : decode cX2_record 2 = .ok (.getfield 16, 3) := by decide +kernel
theorem dX2_record_5 : decode cX2_record 5 = .ok (.iconst 1, 1) := by decide +kernel
theorem dX2_record_6 : decode cX2_record 6 = .ok (.iadd, 1) := by decide +kernel
theorem dX2_record_7 : decode cX2_record 7 = .ok (.bipush 8, 2) := by decide +kernel
theorem dX2_record_9 : decode cX2_record 9 = .ok (.if_icmp .ge 12, 3) := by decide +kernel
theorem dX2_record_12 : decode cX2_record 12 = .ok (.aload_n 0, 1) := by decide +kernel
theorem dX2_record_13 : decode cX2_record 13 = .ok (.getfield 16, 3) := by decide +kernel
theorem dX2_record_16 : decode cX2_record 16 = .ok (.iconst 1, 1) := by decide +kernel
theorem dX2_record_17 : decode cX2_record 17 = .ok (.iadd, 1) := by decide +kernel
theorem dX2_record_18 : decode cX2_record 18 = .ok (.goto 4, 3) := by decide +kernel
theorem dX2_record_21 : decode cX2_record 21 = .ok (.iconst 0, 1) := by decide +kernel
theorem dX2_record_22 : decode cX2_record 22 = .ok (.putfield 16, 3) := by decide +kernel
theorem dX2_record_25 : decode cX2_record 25 = .ok (.aload_n 0, 1) := by decide +kernel
theorem dX2_record_26 : decode cX2_record 26 = .ok (.aload_n 0, 1) := by decide +kernel
theorem dX2_record_27 : decode cX2_record 27 = .ok (.getfield 20, 3) := by decide +kernel
theorem dX2_record_30 : decode cX2_record 30 = .ok (.iconst 1, 1) := by decide +kernel
theorem dX2_record_31 : decode cX2_record 31 = .ok (.iadd, 1) := by decide +kernel
theorem dX2_record_32 : decode cX2_record 32 = .ok (.bipush 8, 2) := by decide +kernel
theorem dX2_record_34 : decode cX2_record 34 = .ok (.invokestatic 23, 3) := by decide +kernel
theorem dX2_record_37 : decode cX2_record 37 = .ok (.putfield 20, 3) := by decide +kernel
theorem dX2_record_40 : decode cX2_record 40 = .ok (.aload_n 0, 1) := by decide +kernel
theorem dX2_record_41 : decode cX2_record 41 = .ok (.invokevirtual 29, 3) := by decide +kernel
theorem dX2_record_44 : decode cX2_record 44 = .ok (.astore_n 2, 1) := by decide +kernel
theorem dX2_record_45 : decode cX2_record 45 = .ok (.aload_n 2, 1) := by decide +kernel
theorem dX2_record_46 : decode cX2_record 46 = .ok (.ifnull 8, 3) := by decide +kernel
theorem dX2_record_49 : decode cX2_record 49 = .ok (.aload_n 2, 1) := by decide +kernel
theorem dX2_record_50 : decode cX2_record 50 = .ok (.aload_n 1, 1) := by decide +kernel
theorem dX2_record_51 : decode cX2_record 51 = .ok (.invokevirtual 33, 3) := by decide +kernel
theorem dX2_record_54 : decode cX2_record 54 = .ok (.return_, 1) := by decide +kernel
set_option maxHeartbeats 4000000 in
set_option maxRecDepth 100000 in
theorem bX2_record_22 {p : Program} {l : Launch} {e : Env} {s : State} {m : MethodId} {args : Array Value} {below : List Frame} {meth : Method} {c : Code} {D : va_G} {cB cC cI cO : ClassId} {A : Nat → Prop} (C0 : gC RX2 cX2_record 3 none p s m args meth c D (hTy cB cC cI cO) A) (q0 q1 h0 h1 h2 h3 h4 : Nat) (hb : Nat → Nat → Nat) (out : Int32 × Int32 × (Nat → hTT)) (tO : Nat → Int32) (tW : Nat → Int32)   : ∀ (hnw : Int32) (hct : Int32) (tcp : Int32) (tkd : Int32) (tsd : Int32) (tlm : Int32) (tfu : Int32) (ttb : Int32) (trb : Int32) (tgr : Int32) (tK : Nat → Int32) (tV : Nat → Int32) (hp : Nat → hTT) (k0 : Int32), fX2_record_22 hnw hct tcp tkd tsd tlm tfu ttb trb tgr tK tV hp k0 = some out → gG p l e rmX2_record s m args below meth c D A 3 (MQ below (hQv D (List.append [(q0, .inr (2, [.ref q1, .int out.1, .int out.2.1])), (q1, .inl (cO, 8, .inr (.inr (.inr (.inr (hpf hb)))))), (h0, .inr (5, [.ref h1, .ref h2, .ref h3, .ref h4, .int tcp, .int tkd, .int tsd, .int tlm, .int tfu, .int ttb, .int trb, .int tgr])), (h1, .inl (cI, 64, .inl tK)), (h2, .inl (cI, 64, .inl tV)), (h3, .inl (cI, 64, .inl tO)), (h4, .inl (cI, 64, .inl tW))] (pastW cI hb out.2.2)) A) args s 0 0 A) 0 0 22 [(0, .ref q0), (1, .ref h0)] [.int k0, .ref q0] (List.append [(q0, .inr (2, [.ref q1, .int hnw, .int hct])), (q1, .inl (cO, 8, .inr (.inr (.inr (.inr (hpf hb)))))), (h0, .inr (5, [.ref h1, .ref h2, .ref h3, .ref h4, .int tcp, .int tkd, .int tsd, .int tlm, .int tfu, .int ttb, .int trb, .int tgr])), (h1, .inl (cI, 64, .inl tK)), (h2, .inl (cI, 64, .inl tV)), (h3, .inl (cI, 64, .inl tO)), (h4, .inl (cI, 64, .inl tW))] (pastW cI hb hp)) := by
  intro hnw hct tcp tkd tsd tlm tfu ttb trb tgr tK tV hp k0 hf
  unfold fX2_record_22 at hf
  refine g_put C0 (ws' := (List.append [(q0, .inr (2, [.ref q1, .int k0, .int hct])), (q1, .inl (cO, 8, .inr (.inr (.inr (.inr (hpf hb)))))), (h0, .inr (5, [.ref h1, .ref h2, .ref h3, .ref h4, .int tcp, .int tkd, .int tsd, .int tlm, .int tfu, .int ttb, .int trb, .int tgr])), (h1, .inl (cI, 64, .inl tK)), (h2, .inl (cI, 64, .inl tV)), (h3, .inl (cI, 64, .inl tO)), (h4, .inl (cI, 64, .inl tW))] (pastW cI hb hp))) hinX2 0 rfl rfl 1 (by decide) q_117 tyX2_ok nmX2 rfl rfl rfl (Nat.le_of_ble_eq_true rfl) rfl dX2_record_22 ?_
  refine g_aload_n C0 dX2_record_25 rfl 0 rfl ?_
  refine g_aload_n C0 dX2_record_26 rfl 0 rfl ?_
  refine g_get C0 hinX2 0 rfl rfl 2 (by decide) q_118 rfl dX2_record_27 ?_
  refine g_iconst C0 (v := (1 : Int32)) dX2_record_30 (by decide) ?_
  refine g_iadd C0 dX2_record_31 ?_
  refine g_bipush C0 (v := (8 : Int32)) dX2_record_32 (by decide) ?_
  refine g_mmin C0 q_686 q_583 q_22 q_584 (Nat.le_of_ble_eq_true rfl) ⟨Nat.le_of_ble_eq_true rfl, Nat.le_of_ble_eq_true rfl⟩ (Nat.le_of_ble_eq_true rfl) dX2_record_34 ?_
  refine g_put C0 (ws' := (List.append [(q0, .inr (2, [.ref q1, .int k0, .int (if (8 : Int32) < (hct + (1 : Int32)) then (8 : Int32) else (hct + (1 : Int32)))])), (q1, .inl (cO, 8, .inr (.inr (.inr (.inr (hpf hb)))))), (h0, .inr (5, [.ref h1, .ref h2, .ref h3, .ref h4, .int tcp, .int tkd, .int tsd, .int tlm, .int tfu, .int ttb, .int trb, .int tgr])), (h1, .inl (cI, 64, .inl tK)), (h2, .inl (cI, 64, .inl tV)), (h3, .inl (cI, 64, .inl tO)), (h4, .inl (cI, 64, .inl tW))] (pastW cI hb hp))) hinX2 0 rfl rfl 2 (by decide) q_118 tyX2_ok nmX2 rfl rfl rfl (Nat.le_of_ble_eq_true rfl) rfl dX2_record_37 ?_
  refine g_aload_n C0 dX2_record_40 rfl 0 rfl ?_
  obtain ⟨i2, hf⟩ := hl_ifS hf
  obtain ⟨j, hj8, hj⟩ := hl_inE i2
  rw [hj] at hf
  rcases hl_lt8 hj8 with rfl | rfl | rfl | rfl | rfl | rfl | rfl | rfl
  · refine g_callVq C0 (ws' := (List.append [(q0, .inr (2, [.ref q1, .int k0, .int (if (8 : Int32) < (hct + (1 : Int32)) then (8 : Int32) else (hct + (1 : Int32)))])), (q1, .inl (cO, 8, .inr (.inr (.inr (.inr (hpf hb)))))), (h0, .inr (5, [.ref h1, .ref h2, .ref h3, .ref h4, .int tcp, .int tkd, .int tsd, .int tlm, .int tfu, .int ttb, .int trb, .int tgr])), (h1, .inl (cI, 64, .inl tK)), (h2, .inl (cI, 64, .inl tV)), (h3, .inl (cI, 64, .inl tO)), (h4, .inl (cI, 64, .inl tW))] (pastW cI hb hp))) (mX2_newestState l D cB cC cI cO q0 q1 hb k0 (if (8 : Int32) < (hct + (1 : Int32)) then (8 : Int32) else (hct + (1 : Int32))) (some (hb 0 0)) (hl_newest hb i2 hj)) hmX2_newestState q_687 ⟨Nat.le_of_ble_eq_true rfl, Nat.le_of_ble_eq_true rfl⟩ ⟨Nat.le_of_ble_eq_true rfl, Nat.le_of_ble_eq_true rfl⟩ rfl rfl [0, 1] rfl rfl rfl rfl rfl 0 rfl rfl rfl (Nat.le_of_ble_eq_true rfl) dX2_record_41 ?_
    refine g_astore_n C0 (lv' := [(2, .ref (hb 0 0)), (0, .ref q0), (1, .ref h0)]) dX2_record_44 rfl (by decide) rfl ?_
    refine g_aload_n C0 dX2_record_45 rfl 0 rfl ?_
    refine g_ifnull C0 dX2_record_46 ?_
    refine g_aload_n C0 dX2_record_49 rfl 0 rfl ?_
    refine g_aload_n C0 dX2_record_50 rfl 2 rfl ?_
    obtain ⟨r3, er3, hf⟩ := hl_bd hf
    try dsimp only at hf
    refine g_callVv C0 (ws' := (List.append [(q0, .inr (2, [.ref q1, .int k0, .int (if (8 : Int32) < (hct + (1 : Int32)) then (8 : Int32) else (hct + (1 : Int32)))])), (q1, .inl (cO, 8, .inr (.inr (.inr (.inr (hpf hb)))))), (h0, .inr (5, [.ref h1, .ref h2, .ref h3, .ref h4, .int tcp, .int tkd, .int tsd, .int tlm, .int tfu, .int ttb, .int trb, .int tgr])), (h1, .inl (cI, 64, .inl tK)), (h2, .inl (cI, 64, .inl tV)), (h3, .inl (cI, 64, .inl tO)), (h4, .inl (cI, 64, .inl tW))] (pastW cI hb (va_up hp 0 (r3.2.2.2.2.2.2.2.2.1, r3.2.2.2.2.2.2.2.2.2, (hp 0).2.2.1, (hp 0).2.2.2.1, r3.1, r3.2.1, r3.2.2.1, r3.2.2.2.1, r3.2.2.2.2.1, r3.2.2.2.2.2.1, r3.2.2.2.2.2.2.1, r3.2.2.2.2.2.2.2.1))))) (mX5_copyFrom l D cB cC cI cO  (hb 0 0) (hb 0 1) (hb 0 2) (hb 0 3) (hb 0 4) h0 h1 h2 h3 h4 ((hp 0).2.2.2.2.1) ((hp 0).2.2.2.2.2.1) ((hp 0).2.2.2.2.2.2.1) ((hp 0).2.2.2.2.2.2.2.1) ((hp 0).2.2.2.2.2.2.2.2.1) ((hp 0).2.2.2.2.2.2.2.2.2.1) ((hp 0).2.2.2.2.2.2.2.2.2.2.1) ((hp 0).2.2.2.2.2.2.2.2.2.2.2) ((hp 0).1) ((hp 0).2.1) ((hp 0).2.2.1) ((hp 0).2.2.2.1) tcp tkd tsd tlm tfu ttb trb tgr tK tV tO tW  r3 er3) hmX5_copyFrom q_691 ⟨Nat.le_of_ble_eq_true rfl, Nat.le_of_ble_eq_true rfl⟩ ⟨Nat.le_of_ble_eq_true rfl, Nat.le_of_ble_eq_true rfl⟩ rfl rfl [7, 8, 9, 10, 11, 2, 3, 4, 5, 6] rfl rfl rfl rfl rfl 0 rfl rfl rfl (Nat.le_of_ble_eq_true rfl) dX2_record_51 ?_
    cases hf
    exact g_vret C0 dX2_record_54 rfl
  · refine g_callVq C0 (ws' := (List.append [(q0, .inr (2, [.ref q1, .int k0, .int (if (8 : Int32) < (hct + (1 : Int32)) then (8 : Int32) else (hct + (1 : Int32)))])), (q1, .inl (cO, 8, .inr (.inr (.inr (.inr (hpf hb)))))), (h0, .inr (5, [.ref h1, .ref h2, .ref h3, .ref h4, .int tcp, .int tkd, .int tsd, .int tlm, .int tfu, .int ttb, .int trb, .int tgr])), (h1, .inl (cI, 64, .inl tK)), (h2, .inl (cI, 64, .inl tV)), (h3, .inl (cI, 64, .inl tO)), (h4, .inl (cI, 64, .inl tW))] (pastW cI hb hp))) (mX2_newestState l D cB cC cI cO q0 q1 hb k0 (if (8 : Int32) < (hct + (1 : Int32)) then (8 : Int32) else (hct + (1 : Int32))) (some (hb 1 0)) (hl_newest hb i2 hj)) hmX2_newestState q_687 ⟨Nat.le_of_ble_eq_true rfl, Nat.le_of_ble_eq_true rfl⟩ ⟨Nat.le_of_ble_eq_true rfl, Nat.le_of_ble_eq_true rfl⟩ rfl rfl [0, 1] rfl rfl rfl rfl rfl 0 rfl rfl rfl (Nat.le_of_ble_eq_true rfl) dX2_record_41 ?_
    refine g_astore_n C0 (lv' := [(2, .ref (hb 1 0)), (0, .ref q0), (1, .ref h0)]) dX2_record_44 rfl (by decide) rfl ?_
    refine g_aload_n C0 dX2_record_45 rfl 0 rfl ?_
    refine g_ifnull C0 dX2_record_46 ?_
    refine g_aload_n C0 dX2_record_49 rfl 0 rfl ?_
    refine g_aload_n C0 dX2_record_50 rfl 2 rfl ?_
    obtain ⟨r3, er3, hf⟩ := hl_bd hf
    try dsimp only at hf
    refine g_callVv C0 (ws' := (List.append [(q0, .inr (2, [.ref q1, .int k0, .int (if (8 : Int32) < (hct + (1 : Int32)) then (8 : Int32) else (hct + (1 : Int32)))])), (q1, .inl (cO, 8, .inr (.inr (.inr (.inr (hpf hb)))))), (h0, .inr (5, [.ref h1, .ref h2, .ref h3, .ref h4, .int tcp, .int tkd, .int tsd, .int tlm, .int tfu, .int ttb, .int trb, .int tgr])), (h1, .inl (cI, 64, .inl tK)), (h2, .inl (cI, 64, .inl tV)), (h3, .inl (cI, 64, .inl tO)), (h4, .inl (cI, 64, .inl tW))] (pastW cI hb (va_up hp 1 (r3.2.2.2.2.2.2.2.2.1, r3.2.2.2.2.2.2.2.2.2, (hp 1).2.2.1, (hp 1).2.2.2.1, r3.1, r3.2.1, r3.2.2.1, r3.2.2.2.1, r3.2.2.2.2.1, r3.2.2.2.2.2.1, r3.2.2.2.2.2.2.1, r3.2.2.2.2.2.2.2.1))))) (mX5_copyFrom l D cB cC cI cO  (hb 1 0) (hb 1 1) (hb 1 2) (hb 1 3) (hb 1 4) h0 h1 h2 h3 h4 ((hp 1).2.2.2.2.1) ((hp 1).2.2.2.2.2.1) ((hp 1).2.2.2.2.2.2.1) ((hp 1).2.2.2.2.2.2.2.1) ((hp 1).2.2.2.2.2.2.2.2.1) ((hp 1).2.2.2.2.2.2.2.2.2.1) ((hp 1).2.2.2.2.2.2.2.2.2.2.1) ((hp 1).2.2.2.2.2.2.2.2.2.2.2) ((hp 1).1) ((hp 1).2.1) ((hp 1).2.2.1) ((hp 1).2.2.2.1) tcp tkd tsd tlm tfu ttb trb tgr tK tV tO tW  r3 er3) hmX5_copyFrom q_691 ⟨Nat.le_of_ble_eq_true rfl, Nat.le_of_ble_eq_true rfl⟩ ⟨Nat.le_of_ble_eq_true rfl, Nat.le_of_ble_eq_true rfl⟩ rfl rfl [12, 13, 14, 15, 16, 2, 3, 4, 5, 6] rfl rfl rfl rfl rfl 0 rfl rfl rfl (Nat.le_of_ble_eq_true rfl) dX2_record_51 ?_
    cases hf
    exact g_vret C0 dX2_record_54 rfl
  · refine g_callVq C0 (ws' := (List.append [(q0, .inr (2, [.ref q1, .int k0, .int (if (8 : Int32) < (hct + (1 : Int32)) then (8 : Int32) else (hct + (1 : Int32)))])), (q1, .inl (cO, 8, .inr (.inr (.inr (.inr (hpf hb)))))), (h0, .inr (5, [.ref h1, .ref h2, .ref h3, .ref h4, .int tcp, .int tkd, .int tsd, .int tlm, .int tfu, .int ttb, .int trb, .int tgr])), (h1, .inl (cI, 64, .inl tK)), (h2, .inl (cI, 64, .inl tV)), (h3, .inl (cI, 64, .inl tO)), (h4, .inl (cI, 64, .inl tW))] (pastW cI hb hp))) (mX2_newestState l D cB cC cI cO q0 q1 hb k0 (if (8 : Int32) < (hct + (1 : Int32)) then (8 : Int32) else (hct + (1 : Int32))) (some (hb 2 0)) (hl_newest hb i2 hj)) hmX2_newestState q_687 ⟨Nat.le_of_ble_eq_true rfl, Nat.le_of_ble_eq_true rfl⟩ ⟨Nat.le_of_ble_eq_true rfl, Nat.le_of_ble_eq_true rfl⟩ rfl rfl [0, 1] rfl rfl rfl rfl rfl 0 rfl rfl rfl (Nat.le_of_ble_eq_true rfl) dX2_record_41 ?_
    refine g_astore_n C0 (lv' := [(2, .ref (hb 2 0)), (0, .ref q0), (1, .ref h0)]) dX2_record_44 rfl (by decide) rfl ?_
    refine g_aload_n C0 dX2_record_45 rfl 0 rfl ?_
    refine g_ifnull C0 dX2_record_46 ?_
    refine g_aload_n C0 dX2_record_49 rfl 0 rfl ?_
    refine g_aload_n C0 dX2_record_50 rfl 2 rfl ?_
    obtain ⟨r3, er3, hf⟩ := hl_bd hf
    try dsimp only at hf
    refine g_callVv C0 (ws' := (List.append [(q0, .inr (2, [.ref q1, .int k0, .int (if (8 : Int32) < (hct + (1 : Int32)) then (8 : Int32) else (hct + (1 : Int32)))])), (q1, .inl (cO, 8, .inr (.inr (.inr (.inr (hpf hb)))))), (h0, .inr (5, [.ref h1, .ref h2, .ref h3, .ref h4, .int tcp, .int tkd, .int tsd, .int tlm, .int tfu, .int ttb, .int trb, .int tgr])), (h1, .inl (cI, 64, .inl tK)), (h2, .inl (cI, 64, .inl tV)), (h3, .inl (cI, 64, .inl tO)), (h4, .inl (cI, 64, .inl tW))] (pastW cI hb (va_up hp 2 (r3.2.2.2.2.2.2.2.2.1, r3.2.2.2.2.2.2.2.2.2, (hp 2).2.2.1, (hp 2).2.2.2.1, r3.1, r3.2.1, r3.2.2.1, r3.2.2.2.1, r3.2.2.2.2.1, r3.2.2.2.2.2.1, r3.2.2.2.2.2.2.1, r3.2.2.2.2.2.2.2.1))))) (mX5_copyFrom l D cB cC cI cO  (hb 2 0) (hb 2 1) (hb 2 2) (hb 2 3) (hb 2 4) h0 h1 h2 h3 h4 ((hp 2).2.2.2.2.1) ((hp 2).2.2.2.2.2.1) ((hp 2).2.2.2.2.2.2.1) ((hp 2).2.2.2.2.2.2.2.1) ((hp 2).2.2.2.2.2.2.2.2.1) ((hp 2).2.2.2.2.2.2.2.2.2.1) ((hp 2).2.2.2.2.2.2.2.2.2.2.1) ((hp 2).2.2.2.2.2.2.2.2.2.2.2) ((hp 2).1) ((hp 2).2.1) ((hp 2).2.2.1) ((hp 2).2.2.2.1) tcp tkd tsd tlm tfu ttb trb tgr tK tV tO tW  r3 er3) hmX5_copyFrom q_691 ⟨Nat.le_of_ble_eq_true rfl, Nat.le_of_ble_eq_true rfl⟩ ⟨Nat.le_of_ble_eq_true rfl, Nat.le_of_ble_eq_true rfl⟩ rfl rfl [17, 18, 19, 20, 21, 2, 3, 4, 5, 6] rfl rfl rfl rfl rfl 0 rfl rfl rfl (Nat.le_of_ble_eq_true rfl) dX2_record_51 ?_
    cases hf
    exact g_vret C0 dX2_record_54 rfl
  · refine g_callVq C0 (ws' := (List.append [(q0, .inr (2, [.ref q1, .int k0, .int (if (8 : Int32) < (hct + (1 : Int32)) then (8 : Int32) else (hct + (1 : Int32)))])), (q1, .inl (cO, 8, .inr (.inr (.inr (.inr (hpf hb)))))), (h0, .inr (5, [.ref h1, .ref h2, .ref h3, .ref h4, .int tcp, .int tkd, .int tsd, .int tlm, .int tfu, .int ttb, .int trb, .int tgr])), (h1, .inl (cI, 64, .inl tK)), (h2, .inl (cI, 64, .inl tV)), (h3, .inl (cI, 64, .inl tO)), (h4, .inl (cI, 64, .inl tW))] (pastW cI hb hp))) (mX2_newestState l D cB cC cI cO q0 q1 hb k0 (if (8 : Int32) < (hct + (1 : Int32)) then (8 : Int32) else (hct + (1 : Int32))) (some (hb 3 0)) (hl_newest hb i2 hj)) hmX2_newestState q_687 ⟨Nat.le_of_ble_eq_true rfl, Nat.le_of_ble_eq_true rfl⟩ ⟨Nat.le_of_ble_eq_true rfl, Nat.le_of_ble_eq_true rfl⟩ rfl rfl [0, 1] rfl rfl rfl rfl rfl 0 rfl rfl rfl (Nat.le_of_ble_eq_true rfl) dX2_record_41 ?_
    refine g_astore_n C0 (lv' := [(2, .ref (hb 3 0)), (0, .ref q0), (1, .ref h0)]) dX2_record_44 rfl (by decide) rfl ?_
    refine g_aload_n C0 dX2_record_45 rfl 0 rfl ?_
    refine g_ifnull C0 dX2_record_46 ?_
    refine g_aload_n C0 dX2_record_49 rfl 0 rfl ?_
    refine g_aload_n C0 dX2_record_50 rfl 2 rfl ?_
    obtain ⟨r3, er3, hf⟩ := hl_bd hf
    try dsimp only at hf
    refine g_callVv C0 (ws' := (List.append [(q0, .inr (2, [.ref q1, .int k0, .int (if (8 : Int32) < (hct + (1 : Int32)) then (8 : Int32) else (hct + (1 : Int32)))])), (q1, .inl (cO, 8, .inr (.inr (.inr (.inr (hpf hb)))))), (h0, .inr (5, [.ref h1, .ref h2, .ref h3, .ref h4, .int tcp, .int tkd, .int tsd, .int tlm, .int tfu, .int ttb, .int trb, .int tgr])), (h1, .inl (cI, 64, .inl tK)), (h2, .inl (cI, 64, .inl tV)), (h3, .inl (cI, 64, .inl tO)), (h4, .inl (cI, 64, .inl tW))] (pastW cI hb (va_up hp 3 (r3.2.2.2.2.2.2.2.2.1, r3.2.2.2.2.2.2.2.2.2, (hp 3).2.2.1, (hp 3).2.2.2.1, r3.1, r3.2.1, r3.2.2.1, r3.2.2.2.1, r3.2.2.2.2.1, r3.2.2.2.2.2.1, r3.2.2.2.2.2.2.1, r3.2.2.2.2.2.2.2.1))))) (mX5_copyFrom l D cB cC cI cO  (hb 3 0) (hb 3 1) (hb 3 2) (hb 3 3) (hb 3 4) h0 h1 h2 h3 h4 ((hp 3).2.2.2.2.1) ((hp 3).2.2.2.2.2.1) ((hp 3).2.2.2.2.2.2.1) ((hp 3).2.2.2.2.2.2.2.1) ((hp 3).2.2.2.2.2.2.2.2.1) ((hp 3).2.2.2.2.2.2.2.2.2.1) ((hp 3).2.2.2.2.2.2.2.2.2.2.1) ((hp 3).2.2.2.2.2.2.2.2.2.2.2) ((hp 3).1) ((hp 3).2.1) ((hp 3).2.2.1) ((hp 3).2.2.2.1) tcp tkd tsd tlm tfu ttb trb tgr tK tV tO tW  r3 er3) hmX5_copyFrom q_691 ⟨Nat.le_of_ble_eq_true rfl, Nat.le_of_ble_eq_true rfl⟩ ⟨Nat.le_of_ble_eq_true rfl, Nat.le_of_ble_eq_true rfl⟩ rfl rfl [22, 23, 24, 25, 26, 2, 3, 4, 5, 6] rfl rfl rfl rfl rfl 0 rfl rfl rfl (Nat.le_of_ble_eq_true rfl) dX2_record_51 ?_
    cases hf
    exact g_vret C0 dX2_record_54 rfl
  · refine g_callVq C0 (ws' := (List.append [(q0, .inr (2, [.ref q1, .int k0, .int (if (8 : Int32) < (hct + (1 : Int32)) then (8 : Int32) else (hct + (1 : Int32)))])), (q1, .inl (cO, 8, .inr (.inr (.inr (.inr (hpf hb)))))), (h0, .inr (5, [.ref h1, .ref h2, .ref h3, .ref h4, .int tcp, .int tkd, .int tsd, .int tlm, .int tfu, .int ttb, .int trb, .int tgr])), (h1, .inl (cI, 64, .inl tK)), (h2, .inl (cI, 64, .inl tV)), (h3, .inl (cI, 64, .inl tO)), (h4, .inl (cI, 64, .inl tW))] (pastW cI hb hp))) (mX2_newestState l D cB cC cI cO q0 q1 hb k0 (if (8 : Int32) < (hct + (1 : Int32)) then (8 : Int32) else (hct + (1 : Int32))) (some (hb 4 0)) (hl_newest hb i2 hj)) hmX2_newestState q_687 ⟨Nat.le_of_ble_eq_true rfl, Nat.le_of_ble_eq_true rfl⟩ ⟨Nat.le_of_ble_eq_true rfl, Nat.le_of_ble_eq_true rfl⟩ rfl rfl [0, 1] rfl rfl rfl rfl rfl 0 rfl rfl rfl (Nat.le_of_ble_eq_true rfl) dX2_record_41 ?_
    refine g_astore_n C0 (lv' := [(2, .ref (hb 4 0)), (0, .ref q0), (1, .ref h0)]) dX2_record_44 rfl (by decide) rfl ?_
    refine g_aload_n C0 dX2_record_45 rfl 0 rfl ?_
    refine g_ifnull C0 dX2_record_46 ?_
    refine g_aload_n C0 dX2_record_49 rfl 0 rfl ?_
    refine g_aload_n C0 dX2_record_50 rfl 2 rfl ?_
    obtain ⟨r3, er3, hf⟩ := hl_bd hf
    try dsimp only at hf
    refine g_callVv C0 (ws' := (List.append [(q0, .inr (2, [.ref q1, .int k0, .int (if (8 : Int32) < (hct + (1 : Int32)) then (8 : Int32) else (hct + (1 : Int32)))])), (q1, .inl (cO, 8, .inr (.inr (.inr (.inr (hpf hb)))))), (h0, .inr (5, [.ref h1, .ref h2, .ref h3, .ref h4, .int tcp, .int tkd, .int tsd, .int tlm, .int tfu, .int ttb, .int trb, .int tgr])), (h1, .inl (cI, 64, .inl tK)), (h2, .inl (cI, 64, .inl tV)), (h3, .inl (cI, 64, .inl tO)), (h4, .inl (cI, 64, .inl tW))] (pastW cI hb (va_up hp 4 (r3.2.2.2.2.2.2.2.2.1, r3.2.2.2.2.2.2.2.2.2, (hp 4).2.2.1, (hp 4).2.2.2.1, r3.1, r3.2.1, r3.2.2.1, r3.2.2.2.1, r3.2.2.2.2.1, r3.2.2.2.2.2.1, r3.2.2.2.2.2.2.1, r3.2.2.2.2.2.2.2.1))))) (mX5_copyFrom l D cB cC cI cO  (hb 4 0) (hb 4 1) (hb 4 2) (hb 4 3) (hb 4 4) h0 h1 h2 h3 h4 ((hp 4).2.2.2.2.1) ((hp 4).2.2.2.2.2.1) ((hp 4).2.2.2.2.2.2.1) ((hp 4).2.2.2.2.2.2.2.1) ((hp 4).2.2.2.2.2.2.2.2.1) ((hp 4).2.2.2.2.2.2.2.2.2.1) ((hp 4).2.2.2.2.2.2.2.2.2.2.1) ((hp 4).2.2.2.2.2.2.2.2.2.2.2) ((hp 4).1) ((hp 4).2.1) ((hp 4).2.2.1) ((hp 4).2.2.2.1) tcp tkd tsd tlm tfu ttb trb tgr tK tV tO tW  r3 er3) hmX5_copyFrom q_691 ⟨Nat.le_of_ble_eq_true rfl, Nat.le_of_ble_eq_true rfl⟩ ⟨Nat.le_of_ble_eq_true rfl, Nat.le_of_ble_eq_true rfl⟩ rfl rfl [27, 28, 29, 30, 31, 2, 3, 4, 5, 6] rfl rfl rfl rfl rfl 0 rfl rfl rfl (Nat.le_of_ble_eq_true rfl) dX2_record_51 ?_
    cases hf
    exact g_vret C0 dX2_record_54 rfl
  · refine g_callVq C0 (ws' := (List.append [(q0, .inr (2, [.ref q1, .int k0, .int (if (8 : Int32) < (hct + (1 : Int32)) then (8 : Int32) else (hct + (1 : Int32)))])), (q1, .inl (cO, 8, .inr (.inr (.inr (.inr (hpf hb)))))), (h0, .inr (5, [.ref h1, .ref h2, .ref h3, .ref h4, .int tcp, .int tkd, .int tsd, .int tlm, .int tfu, .int ttb, .int trb, .int tgr])), (h1, .inl (cI, 64, .inl tK)), (h2, .inl (cI, 64, .inl tV)), (h3, .inl (cI, 64, .inl tO)), (h4, .inl (cI, 64, .inl tW))] (pastW cI hb hp))) (mX2_newestState l D cB cC cI cO q0 q1 hb k0 (if (8 : Int32) < (hct + (1 : Int32)) then (8 : Int32) else (hct + (1 : Int32))) (some (hb 5 0)) (hl_newest hb i2 hj)) hmX2_newestState q_687 ⟨Nat.le_of_ble_eq_true rfl, Nat.le_of_ble_eq_true rfl⟩ ⟨Nat.le_of_ble_eq_true rfl, Nat.le_of_ble_eq_true rfl⟩ rfl rfl [0, 1] rfl rfl rfl rfl rfl 0 rfl rfl rfl (Nat.le_of_ble_eq_true rfl) dX2_record_41 ?_
    refine g_astore_n C0 (lv' := [(2, .ref (hb 5 0)), (0, .ref q0), (1, .ref h0)]) dX2_record_44 rfl (by decide) rfl ?_
    refine g_aload_n C0 dX2_record_45 rfl 0 rfl ?_
    refine g_ifnull C0 dX2_record_46 ?_
    refine g_aload_n C0 dX2_record_49 rfl 0 rfl ?_
    refine g_aload_n C0 dX2_record_50 rfl 2 rfl ?_
    obtain ⟨r3, er3, hf⟩ := hl_bd hf
    try dsimp only at hf
    refine g_callVv C0 (ws' := (List.append [(q0, .inr (2, [.ref q1, .int k0, .int (if (8 : Int32) < (hct + (1 : Int32)) then (8 : Int32) else (hct + (1 : Int32)))])), (q1, .inl (cO, 8, .inr (.inr (.inr (.inr (hpf hb)))))), (h0, .inr (5, [.ref h1, .ref h2, .ref h3, .ref h4, .int tcp, .int tkd, .int tsd, .int tlm, .int tfu, .int ttb, .int trb, .int tgr])), (h1, .inl (cI, 64, .inl tK)), (h2, .inl (cI, 64, .inl tV)), (h3, .inl (cI, 64, .inl tO)), (h4, .inl (cI, 64, .inl tW))] (pastW cI hb (va_up hp 5 (r3.2.2.2.2.2.2.2.2.1, r3.2.2.2.2.2.2.2.2.2, (hp 5).2.2.1, (hp 5).2.2.2.1, r3.1, r3.2.1, r3.2.2.1, r3.2.2.2.1, r3.2.2.2.2.1, r3.2.2.2.2.2.1, r3.2.2.2.2.2.2.1, r3.2.2.2.2.2.2.2.1))))) (mX5_copyFrom l D cB cC cI cO  (hb 5 0) (hb 5 1) (hb 5 2) (hb 5 3) (hb 5 4) h0 h1 h2 h3 h4 ((hp 5).2.2.2.2.1) ((hp 5).2.2.2.2.2.1) ((hp 5).2.2.2.2.2.2.1) ((hp 5).2.2.2.2.2.2.2.1) ((hp 5).2.2.2.2.2.2.2.2.1) ((hp 5).2.2.2.2.2.2.2.2.2.1) ((hp 5).2.2.2.2.2.2.2.2.2.2.1) ((hp 5).2.2.2.2.2.2.2.2.2.2.2) ((hp 5).1) ((hp 5).2.1) ((hp 5).2.2.1) ((hp 5).2.2.2.1) tcp tkd tsd tlm tfu ttb trb tgr tK tV tO tW  r3 er3) hmX5_copyFrom q_691 ⟨Nat.le_of_ble_eq_true rfl, Nat.le_of_ble_eq_true rfl⟩ ⟨Nat.le_of_ble_eq_true rfl, Nat.le_of_ble_eq_true rfl⟩ rfl rfl [32, 33, 34, 35, 36, 2, 3, 4, 5, 6] rfl rfl rfl rfl rfl 0 rfl rfl rfl (Nat.le_of_ble_eq_true rfl) dX2_record_51 ?_
    cases hf
    exact g_vret C0 dX2_record_54 rfl
  · refine g_callVq C0 (ws' := (List.append [(q0, .inr (2, [.ref q1, .int k0, .int (if (8 : Int32) < (hct + (1 : Int32)) then (8 : Int32) else (hct + (1 : Int32)))])), (q1, .inl (cO, 8, .inr (.inr (.inr (.inr (hpf hb)))))), (h0, .inr (5, [.ref h1, .ref h2, .ref h3, .ref h4, .int tcp, .int tkd, .int tsd, .int tlm, .int tfu, .int ttb, .int trb, .int tgr])), (h1, .inl (cI, 64, .inl tK)), (h2, .inl (cI, 64, .inl tV)), (h3, .inl (cI, 64, .inl tO)), (h4, .inl (cI, 64, .inl tW))] (pastW cI hb hp))) (mX2_newestState l D cB cC cI cO q0 q1 hb k0 (if (8 : Int32) < (hct + (1 : Int32)) then (8 : Int32) else (hct + (1 : Int32))) (some (hb 6 0)) (hl_newest hb i2 hj)) hmX2_newestState q_687 ⟨Nat.le_of_ble_eq_true rfl, Nat.le_of_ble_eq_true rfl⟩ ⟨Nat.le_of_ble_eq_true rfl, Nat.le_of_ble_eq_true rfl⟩ rfl rfl [0, 1] rfl rfl rfl rfl rfl 0 rfl rfl rfl (Nat.le_of_ble_eq_true rfl) dX2_record_41 ?_
    refine g_astore_n C0 (lv' := [(2, .ref (hb 6 0)), (0, .ref q0), (1, .ref h0)]) dX2_record_44 rfl (by decide) rfl ?_
    refine g_aload_n C0 dX2_record_45 rfl 0 rfl ?_
    refine g_ifnull C0 dX2_record_46 ?_
    refine g_aload_n C0 dX2_record_49 rfl 0 rfl ?_
    refine g_aload_n C0 dX2_record_50 rfl 2 rfl ?_
    obtain ⟨r3, er3, hf⟩ := hl_bd hf
    try dsimp only at hf
    refine g_callVv C0 (ws' := (List.append [(q0, .inr (2, [.ref q1, .int k0, .int (if (8 : Int32) < (hct + (1 : Int32)) then (8 : Int32) else (hct + (1 : Int32)))])), (q1, .inl (cO, 8, .inr (.inr (.inr (.inr (hpf hb)))))), (h0, .inr (5, [.ref h1, .ref h2, .ref h3, .ref h4, .int tcp, .int tkd, .int tsd, .int tlm, .int tfu, .int ttb, .int trb, .int tgr])), (h1, .inl (cI, 64, .inl tK)), (h2, .inl (cI, 64, .inl tV)), (h3, .inl (cI, 64, .inl tO)), (h4, .inl (cI, 64, .inl tW))] (pastW cI hb (va_up hp 6 (r3.2.2.2.2.2.2.2.2.1, r3.2.2.2.2.2.2.2.2.2, (hp 6).2.2.1, (hp 6).2.2.2.1, r3.1, r3.2.1, r3.2.2.1, r3.2.2.2.1, r3.2.2.2.2.1, r3.2.2.2.2.2.1, r3.2.2.2.2.2.2.1, r3.2.2.2.2.2.2.2.1))))) (mX5_copyFrom l D cB cC cI cO  (hb 6 0) (hb 6 1) (hb 6 2) (hb 6 3) (hb 6 4) h0 h1 h2 h3 h4 ((hp 6).2.2.2.2.1) ((hp 6).2.2.2.2.2.1) ((hp 6).2.2.2.2.2.2.1) ((hp 6).2.2.2.2.2.2.2.1) ((hp 6).2.2.2.2.2.2.2.2.1) ((hp 6).2.2.2.2.2.2.2.2.2.1) ((hp 6).2.2.2.2.2.2.2.2.2.2.1) ((hp 6).2.2.2.2.2.2.2.2.2.2.2) ((hp 6).1) ((hp 6).2.1) ((hp 6).2.2.1) ((hp 6).2.2.2.1) tcp tkd tsd tlm tfu ttb trb tgr tK tV tO tW  r3 er3) hmX5_copyFrom q_691 ⟨Nat.le_of_ble_eq_true rfl, Nat.le_of_ble_eq_true rfl⟩ ⟨Nat.le_of_ble_eq_true rfl, Nat.le_of_ble_eq_true rfl⟩ rfl rfl [37, 38, 39, 40, 41, 2, 3, 4, 5, 6] rfl rfl rfl rfl rfl 0 rfl rfl rfl (Nat.le_of_ble_eq_true rfl) dX2_record_51 ?_
    cases hf
    exact g_vret C0 dX2_record_54 rfl
  · refine g_callVq C0 (ws' := (List.append [(q0, .inr (2, [.ref q1, .int k0, .int (if (8 : Int32) < (hct + (1 : Int32)) then (8 : Int32) else (hct + (1 : Int32)))])), (q1, .inl (cO, 8, .inr (.inr (.inr (.inr (hpf hb)))))), (h0, .inr (5, [.ref h1, .ref h2, .ref h3, .ref h4, .int tcp, .int tkd, .int tsd, .int tlm, .int tfu, .int ttb, .int trb, .int tgr])), (h1, .inl (cI, 64, .inl tK)), (h2, .inl (cI, 64, .inl tV)), (h3, .inl (cI, 64, .inl tO)), (h4, .inl (cI, 64, .inl tW))] (pastW cI hb hp))) (mX2_newestState l D cB cC cI cO q0 q1 hb k0 (if (8 : Int32) < (hct + (1 : Int32)) then (8 : Int32) else (hct + (1 : Int32))) (some (hb 7 0)) (hl_newest hb i2 hj)) hmX2_newestState q_687 ⟨Nat.le_of_ble_eq_true rfl, Nat.le_of_ble_eq_true rfl⟩ ⟨Nat.le_of_ble_eq_true rfl, Nat.le_of_ble_eq_true rfl⟩ rfl rfl [0, 1] rfl rfl rfl rfl rfl 0 rfl rfl rfl (Nat.le_of_ble_eq_true rfl) dX2_record_41 ?_
    refine g_astore_n C0 (lv' := [(2, .ref (hb 7 0)), (0, .ref q0), (1, .ref h0)]) dX2_record_44 rfl (by decide) rfl ?_
    refine g_aload_n C0 dX2_record_45 rfl 0 rfl ?_
    refine g_ifnull C0 dX2_record_46 ?_
    refine g_aload_n C0 dX2_record_49 rfl 0 rfl ?_
    refine g_aload_n C0 dX2_record_50 rfl 2 rfl ?_
    obtain ⟨r3, er3, hf⟩ := hl_bd hf
    try dsimp only at hf
    refine g_callVv C0 (ws' := (List.append [(q0, .inr (2, [.ref q1, .int k0, .int (if (8 : Int32) < (hct + (1 : Int32)) then (8 : Int32) else (hct + (1 : Int32)))])), (q1, .inl (cO, 8, .inr (.inr (.inr (.inr (hpf hb)))))), (h0, .inr (5, [.ref h1, .ref h2, .ref h3, .ref h4, .int tcp, .int tkd, .int tsd, .int tlm, .int tfu, .int ttb, .int trb, .int tgr])), (h1, .inl (cI, 64, .inl tK)), (h2, .inl (cI, 64, .inl tV)), (h3, .inl (cI, 64, .inl tO)), (h4, .inl (cI, 64, .inl tW))] (pastW cI hb (va_up hp 7 (r3.2.2.2.2.2.2.2.2.1, r3.2.2.2.2.2.2.2.2.2, (hp 7).2.2.1, (hp 7).2.2.2.1, r3.1, r3.2.1, r3.2.2.1, r3.2.2.2.1, r3.2.2.2.2.1, r3.2.2.2.2.2.1, r3.2.2.2.2.2.2.1, r3.2.2.2.2.2.2.2.1))))) (mX5_copyFrom l D cB cC cI cO  (hb 7 0) (hb 7 1) (hb 7 2) (hb 7 3) (hb 7 4) h0 h1 h2 h3 h4 ((hp 7).2.2.2.2.1) ((hp 7).2.2.2.2.2.1) ((hp 7).2.2.2.2.2.2.1) ((hp 7).2.2.2.2.2.2.2.1) ((hp 7).2.2.2.2.2.2.2.2.1) ((hp 7).2.2.2.2.2.2.2.2.2.1) ((hp 7).2.2.2.2.2.2.2.2.2.2.1) ((hp 7).2.2.2.2.2.2.2.2.2.2.2) ((hp 7).1) ((hp 7).2.1) ((hp 7).2.2.1) ((hp 7).2.2.2.1) tcp tkd tsd tlm tfu ttb trb tgr tK tV tO tW  r3 er3) hmX5_copyFrom q_691 ⟨Nat.le_of_ble_eq_true rfl, Nat.le_of_ble_eq_true rfl⟩ ⟨Nat.le_of_ble_eq_true rfl, Nat.le_of_ble_eq_true rfl⟩ rfl rfl [42, 43, 44, 45, 46, 2, 3, 4, 5, 6] rfl rfl rfl rfl rfl 0 rfl rfl rfl (Nat.le_of_ble_eq_true rfl) dX2_record_51 ?_
    cases hf
    exact g_vret C0 dX2_record_54 rfl
set_option maxHeartbeats 4000000 in
set_option maxRecDepth 100000 in
theorem bX2_record {p : Program} {l : Launch} {e : Env} {s : State} {m : MethodId} {args : Array Value} {below : List Frame} {meth : Method} {c : Code} {D : va_G} {cB cC cI cO : ClassId} {A : Nat → Prop} (C0 : gC RX2 cX2_record 3 none p s m args meth c D (hTy cB cC cI cO) A) (q0 q1 h0 h1 h2 h3 h4 : Nat) (hb : Nat → Nat → Nat) (out : Int32 × Int32 × (Nat → hTT)) (hnw : Int32) (hct : Int32) (tcp : Int32) (tkd : Int32) (tsd : Int32) (tlm : Int32) (tfu : Int32) (ttb : Int32) (trb : Int32) (tgr : Int32) (tK : Nat → Int32) (tV : Nat → Int32) (tO : Nat → Int32) (tW : Nat → Int32) (hp : Nat → hTT)  (hf : fX2_record hnw hct tcp tkd tsd tlm tfu ttb trb tgr tK tV hp = some out) : gG p l e rmX2_record s m args below meth c D A 3 (MQ below (hQv D (List.append [(q0, .inr (2, [.ref q1, .int out.1, .int out.2.1])), (q1, .inl (cO, 8, .inr (.inr (.inr (.inr (hpf hb)))))), (h0, .inr (5, [.ref h1, .ref h2, .ref h3, .ref h4, .int tcp, .int tkd, .int tsd, .int tlm, .int tfu, .int ttb, .int trb, .int tgr])), (h1, .inl (cI, 64, .inl tK)), (h2, .inl (cI, 64, .inl tV)), (h3, .inl (cI, 64, .inl tO)), (h4, .inl (cI, 64, .inl tW))] (pastW cI hb out.2.2)) A) args s 0 0 A) 0 0 0 [(0, .ref q0), (1, .ref h0)] [] (List.append [(q0, .inr (2, [.ref q1, .int hnw, .int hct])), (q1, .inl (cO, 8, .inr (.inr (.inr (.inr (hpf hb)))))), (h0, .inr (5, [.ref h1, .ref h2, .ref h3, .ref h4, .int tcp, .int tkd, .int tsd, .int tlm, .int tfu, .int ttb, .int trb, .int tgr])), (h1, .inl (cI, 64, .inl tK)), (h2, .inl (cI, 64, .inl tV)), (h3, .inl (cI, 64, .inl tO)), (h4, .inl (cI, 64, .inl tW))] (pastW cI hb hp)) := by
  unfold fX2_record at hf
  refine g_aload_n C0 dX2_record_0 rfl 0 rfl ?_
  refine g_aload_n C0 dX2_record_1 rfl 0 rfl ?_
  refine g_get C0 hinX2 0 rfl rfl 1 (by decide) q_117 rfl dX2_record_2 ?_
  refine g_iconst C0 (v := (1 : Int32)) dX2_record_5 (by decide) ?_
  refine g_iadd C0 dX2_record_6 ?_
  refine g_bipush C0 (v := (8 : Int32)) dX2_record_7 (by decide) ?_
  refine g_icmp_ge C0 (tgt := 21) dX2_record_9 (by decide) (fun c1 => ?_) (fun c1 => ?_)
  · rw [if_pos c1] at hf
    refine g_iconst C0 (v := (0 : Int32)) dX2_record_21 (by decide) ?_
    refine g_lv [0, 1] (lv' := [(0, .ref q0), (1, .ref h0)]) rfl ?_
    exact bX2_record_22 C0 q0 q1 h0 h1 h2 h3 h4 hb out tO tW  hnw hct tcp tkd tsd tlm tfu ttb trb tgr tK tV hp (0 : Int32) hf
  · rw [if_neg c1] at hf
    refine g_aload_n C0 dX2_record_12 rfl 0 rfl ?_
    refine g_get C0 hinX2 0 rfl rfl 1 (by decide) q_117 rfl dX2_record_13 ?_
    refine g_iconst C0 (v := (1 : Int32)) dX2_record_16 (by decide) ?_
    refine g_iadd C0 dX2_record_17 ?_
    refine g_goto C0 (tgt := 22) dX2_record_18 (by decide) ?_
    refine g_lv [0, 1] (lv' := [(0, .ref q0), (1, .ref h0)]) rfl ?_
    exact bX2_record_22 C0 q0 q1 h0 h1 h2 h3 h4 hb out tO tW  hnw hct tcp tkd tsd tlm tfu ttb trb tgr tK tV hp (hnw + (1 : Int32)) hf
theorem mX2_record (l : Launch) (D : va_G) (cB cC cI cO : ClassId)  (q0 q1 h0 h1 h2 h3 h4 : Nat) (hb : Nat → Nat → Nat) (hnw : Int32) (hct : Int32) (tcp : Int32) (tkd : Int32) (tsd : Int32) (tlm : Int32) (tfu : Int32) (ttb : Int32) (trb : Int32) (tgr : Int32) (tK : Nat → Int32) (tV : Nat → Int32) (tO : Nat → Int32) (tW : Nat → Int32) (hp : Nat → hTT)  (out : Int32 × Int32 × (Nat → hTT)) (hf : fX2_record hnw hct tcp tkd tsd tlm tfu ttb trb tgr tK tV hp = some out) : ∀ sz, Met l yX2_record (ws_ yX2_record cX2_record 3 none) rmX2_record (va_Pc [.ref q0, .ref h0] (hPre D (hTy cB cC cI cO) (List.append [(q0, .inr (2, [.ref q1, .int hnw, .int hct])), (q1, .inl (cO, 8, .inr (.inr (.inr (.inr (hpf hb)))))), (h0, .inr (5, [.ref h1, .ref h2, .ref h3, .ref h4, .int tcp, .int tkd, .int tsd, .int tlm, .int tfu, .int ttb, .int trb, .int tgr])), (h1, .inl (cI, 64, .inl tK)), (h2, .inl (cI, 64, .inl tV)), (h3, .inl (cI, 64, .inl tO)), (h4, .inl (cI, 64, .inl tW))] (pastW cI hb hp)) sz)) (hQv D (List.append [(q0, .inr (2, [.ref q1, .int out.1, .int out.2.1])), (q1, .inl (cO, 8, .inr (.inr (.inr (.inr (hpf hb)))))), (h0, .inr (5, [.ref h1, .ref h2, .ref h3, .ref h4, .int tcp, .int tkd, .int tsd, .int tlm, .int tfu, .int ttb, .int trb, .int tgr])), (h1, .inl (cI, 64, .inl tK)), (h2, .inl (cI, 64, .inl tV)), (h3, .inl (cI, 64, .inl tO)), (h4, .inl (cI, 64, .inl tW))] (pastW cI hb out.2.2)) (va_A (List.append [(q0, .inr (2, [.ref q1, .int hnw, .int hct])), (q1, .inl (cO, 8, .inr (.inr (.inr (.inr (hpf hb)))))), (h0, .inr (5, [.ref h1, .ref h2, .ref h3, .ref h4, .int tcp, .int tkd, .int tsd, .int tlm, .int tfu, .int ttb, .int trb, .int tgr])), (h1, .inl (cI, 64, .inl tK)), (h2, .inl (cI, 64, .inl tV)), (h3, .inl (cI, 64, .inl tO)), (h4, .inl (cI, 64, .inl tW))] (pastW cI hb hp)) sz)) 0 0 (va_A (List.append [(q0, .inr (2, [.ref q1, .int hnw, .int hct])), (q1, .inl (cO, 8, .inr (.inr (.inr (.inr (hpf hb)))))), (h0, .inr (5, [.ref h1, .ref h2, .ref h3, .ref h4, .int tcp, .int tkd, .int tsd, .int tlm, .int tfu, .int ttb, .int trb, .int tgr])), (h1, .inl (cI, 64, .inl tK)), (h2, .inl (cI, 64, .inl tV)), (h3, .inl (cI, 64, .inl tO)), (h4, .inl (cI, 64, .inl tW))] (pastW cI hb hp)) sz) :=
  g_met (Qf := fun A => hQv D (List.append [(q0, .inr (2, [.ref q1, .int out.1, .int out.2.1])), (q1, .inl (cO, 8, .inr (.inr (.inr (.inr (hpf hb)))))), (h0, .inr (5, [.ref h1, .ref h2, .ref h3, .ref h4, .int tcp, .int tkd, .int tsd, .int tlm, .int tfu, .int ttb, .int trb, .int tgr])), (h1, .inl (cI, 64, .inl tK)), (h2, .inl (cI, 64, .inl tV)), (h3, .inl (cI, 64, .inl tO)), (h4, .inl (cI, 64, .inl tW))] (pastW cI hb out.2.2)) A) (by decide +kernel) (Nat.le_of_ble_eq_true rfl) rfl (fun C0 => bX2_record C0 q0 q1 h0 h1 h2 h3 h4 hb out hnw hct tcp tkd tsd tlm tfu ttb trb tgr tK tV tO tW hp  hf)
