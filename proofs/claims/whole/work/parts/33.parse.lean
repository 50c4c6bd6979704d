/-! HashLab$Program.sharedLength(Ljava/lang/String;)I: 20 instructions -/
def fX4_sharedLength_2  : Nat → Int32 → Int32 → (Nat → Int32) → Nat → Int32 → Option (Int32)
  | 0, _, _, _, _, _ => none
  | n + 1, pl, pp, pS, v1, v2 => (fJ0_length v1).bind fun r1 => (if r1 ≤ v2 then (some (v2)) else ((fX4_signAt pl pS (pp + v2)).bind fun r3 => ((fJ0_charAt v1 v2).bind fun r4 => (if r3 = r4 then (fX4_sharedLength_2 n pl pp pS v1 (v2 + (1 : Int32))) else (some (v2))))))
def fX4_sharedLength  (pl : Int32) (pp : Int32) (pS : Nat → Int32) (x0 : Nat) : Option (Int32) := fX4_sharedLength_2 1000 pl pp pS x0 (0 : Int32)
/-! HashLab$Program.readVerb()I: 40 instructions -/
def fX4_readVerb_4  : Nat → Int32 → Int32 → (Nat → Int32) → Int32 → Int32 → Option (Int32 × Int32)
  | 0, _, _, _, _, _ => none
  | n + 1, pl, pp, pS, v1, v2 => if (7 : Int32) ≤ v2 then (some ((-1 : Int32), pp + v1)) else ((fX4_wordOf v2).bind fun r2 => ((fX4_sharedLength pl pp pS r2).bind fun r3 => ((fJ0_length r2).bind fun r4 => (if r3 = r4 then (some (v2, pp + r3)) else (fX4_readVerb_4 n pl pp pS (if v1 < r3 then r3 else v1) (v2 + (1 : Int32)))))))
def fX4_readVerb  (pl : Int32) (pp : Int32) (pS : Nat → Int32) : Option (Int32 × Int32) := fX4_readVerb_4 1000 pl pp pS (0 : Int32) (0 : Int32)
/-! HashLab$Program.readCommand()Z: 49 instructions -/
def fX4_readCommand  (pl : Int32) (pp : Int32) (pn : Int32) (pS : Nat → Int32) (pV : Nat → Int32) (pO : Nat → Int32) (pW : Nat → Int32) : Option (Int32 × Int32 × Int32 × (Nat → Int32) × (Nat → Int32) × (Nat → Int32)) := if pn < 0 then (some ((0 : Int32), pp, pn, pV, pO, pW)) else (if pn < (60 : Int32) then ((fX4_readVerb pl pp pS).bind fun r3 => (if hl_in pn 60 = true then (if hl_in pn 60 = true then (if hl_in pn 60 = true then (if r3.1 = (-1 : Int32) then (some ((0 : Int32), r3.2, pn + (1 : Int32), upd pV (pn.toNatClampNeg) r3.1, upd pO (pn.toNatClampNeg) (-1 : Int32), upd pW (pn.toNatClampNeg) (0 : Int32))) else ((fX4_readOperands pl r3.2 pn pS (upd pO (pn.toNatClampNeg) (-1 : Int32)) (upd pW (pn.toNatClampNeg) (0 : Int32)) r3.1).bind fun r8 => (if r8.1 = 0 then (some ((0 : Int32), r8.2.1, pn + (1 : Int32), upd pV (pn.toNatClampNeg) r3.1, r8.2.2.1, r8.2.2.2)) else (some ((1 : Int32), r8.2.1, pn + (1 : Int32), upd pV (pn.toNatClampNeg) r3.1, r8.2.2.1, r8.2.2.2))))) else none) else none) else none)) else (some ((0 : Int32), pp, pn, pV, pO, pW)))
/-! HashLab$Program.parse()Z: 33 instructions -/
def fX4_parse_12  : Nat → Int32 → Int32 → Int32 → (Nat → Int32) → (Nat → Int32) → (Nat → Int32) → (Nat → Int32) → Int32 → Option (Int32 × Int32 × Int32 × (Nat → Int32) × (Nat → Int32) × (Nat → Int32))
  | 0, _, _, _, _, _, _, _, _ => none
  | n + 1, pl, pp, pn, pS, pV, pO, pW, v1 => if (60 : Int32) ≤ v1 then (some ((0 : Int32), pp, pn, pV, pO, pW)) else ((fX4_readCommand pl pp pn pS pV pO pW).bind fun r2 => (if r2.1 = 0 then (some ((0 : Int32), r2.2.1, r2.2.2.1, r2.2.2.2.1, r2.2.2.2.2.1, r2.2.2.2.2.2)) else (if r2.2.1 < pl then ((fX4_readSign pl r2.2.1 pS (59 : Int32)).bind fun r5 => (if r5.1 = 0 then (some ((0 : Int32), r5.2, r2.2.2.1, r2.2.2.2.1, r2.2.2.2.2.1, r2.2.2.2.2.2)) else (fX4_parse_12 n pl r5.2 r2.2.2.1 pS r2.2.2.2.1 r2.2.2.2.2.1 r2.2.2.2.2.2 (v1 + (1 : Int32))))) else (some ((1 : Int32), r2.2.1, r2.2.2.1, r2.2.2.2.1, r2.2.2.2.2.1, r2.2.2.2.2.2)))))
def fX4_parse  (pl : Int32) (pp : Int32) (pn : Int32) (pS : Nat → Int32) (pV : Nat → Int32) (pO : Nat → Int32) (pW : Nat → Int32) : Option (Int32 × Int32 × Int32 × (Nat → Int32) × (Nat → Int32) × (Nat → Int32)) := fX4_parse_12 1000 pl (0 : Int32) (0 : Int32) pS pV pO pW (0 : Int32)
/-! HashLab.run()I: 63 instructions -/
def fX6_run_80  (rpo : Int32) (rco : Int32) (tcp : Int32) (tkd : Int32) (tsd : Int32) (tlm : Int32) (tfu : Int32) (ttb : Int32) (trb : Int32) (tgr : Int32) (tK : Nat → Int32) (tV : Nat → Int32) (tO : Nat → Int32) (tW : Nat → Int32) (bcp : Int32) (bkd : Int32) (bsd : Int32) (blm : Int32) (bfu : Int32) (btb : Int32) (brb : Int32) (bgr : Int32) (bK : Nat → Int32) (bV : Nat → Int32) (hnw : Int32) (hct : Int32) (pl : Int32) (pp : Int32) (pn : Int32) (pS : Nat → Int32) (pV : Nat → Int32) (pO : Nat → Int32) (pW : Nat → Int32) (hp : Nat → hTT) (v2 : Int32) : Option ((Int32 ⊕ Nat) × Int32 × Int32 × Int32 × Int32 × Int32 × Int32 × Int32 × Int32 × Int32 × Int32 × (Nat → Int32) × (Nat → Int32) × (Nat → Int32) × (Nat → Int32) × Int32 × Int32 × Int32 × Int32 × Int32 × Int32 × Int32 × Int32 × (Nat → Int32) × (Nat → Int32) × Int32 × Int32 × Int32 × Int32 × Int32 × (Nat → Int32) × (Nat → Int32) × (Nat → Int32) × (Nat → hTT)) := if pn ≤ v2 then ((fX2_record hnw hct bcp bkd bsd blm bfu btb brb bgr bK bV hp).bind fun r8 => (some (Sum.inl v2, rpo, rco, tcp, tkd, tsd, tlm, tfu, ttb, trb, tgr, tK, tV, tO, tW, bcp, bkd, bsd, blm, bfu, btb, brb, bgr, bK, bV, r8.1, r8.2.1, pl, pp, pn, pV, pO, pW, r8.2.2))) else ((fX5_copyFrom tcp tkd tsd tlm tfu ttb trb tgr tK tV bcp bkd bsd blm bfu btb brb bgr bK bV).bind fun r9 => (some (Sum.inr 6, rpo, v2, r9.1, r9.2.1, r9.2.2.1, r9.2.2.2.1, r9.2.2.2.2.1, r9.2.2.2.2.2.1, r9.2.2.2.2.2.2.1, r9.2.2.2.2.2.2.2.1, r9.2.2.2.2.2.2.2.2.1, r9.2.2.2.2.2.2.2.2.2, tO, tW, bcp, bkd, bsd, blm, bfu, btb, brb, bgr, bK, bV, hnw, hct, pl, pp, pn, pV, pO, pW, hp)))
def fX6_run_55  : Nat → Int32 → Int32 → Int32 → Int32 → Int32 → Int32 → Int32 → Int32 → Int32 → Int32 → (Nat → Int32) → (Nat → Int32) → (Nat → Int32) → (Nat → Int32) → Int32 → Int32 → Int32 → Int32 → Int32 → Int32 → Int32 → Int32 → (Nat → Int32) → (Nat → Int32) → Int32 → Int32 → Int32 → Int32 → Int32 → (Nat → Int32) → (Nat → Int32) → (Nat → Int32) → (Nat → Int32) → (Nat → hTT) → Int32 → Option ((Int32 ⊕ Nat) × Int32 × Int32 × Int32 × Int32 × Int32 × Int32 × Int32 × Int32 × Int32 × Int32 × (Nat → Int32) × (Nat → Int32) × (Nat → Int32) × (Nat → Int32) × Int32 × Int32 × Int32 × Int32 × Int32 × Int32 × Int32 × Int32 × (Nat → Int32) × (Nat → Int32) × Int32 × Int32 × Int32 × Int32 × Int32 × (Nat → Int32) × (Nat → Int32) × (Nat → Int32) × (Nat → hTT))
  | 0, _, _, _, _, _, _, _, _, _, _, _, _, _, _, _, _, _, _, _, _, _, _, _, _, _, _, _, _, _, _, _, _, _, _, _ => none
  | n + 1, rpo, rco, tcp, tkd, tsd, tlm, tfu, ttb, trb, tgr, tK, tV, tO, tW, bcp, bkd, bsd, blm, bfu, btb, brb, bgr, bK, bV, hnw, hct, pl, pp, pn, pS, pV, pO, pW, hp, v2 => if pn ≤ v2 then (fX6_run_80 rpo rco tcp tkd tsd tlm tfu ttb trb tgr tK tV tO tW bcp bkd bsd blm bfu btb brb bgr bK bV hnw hct pl pp pn pS pV pO pW hp v2) else ((fX6_execute tcp tkd tsd tlm tfu ttb trb tgr tK tV tO tW pn pV pO pW v2).bind fun r5 => (if r5.1 = 0 then (fX6_run_80 rpo rco r5.2.1 r5.2.2.1 r5.2.2.2.1 r5.2.2.2.2.1 r5.2.2.2.2.2.1 r5.2.2.2.2.2.2.1 r5.2.2.2.2.2.2.2.1 r5.2.2.2.2.2.2.2.2.1 r5.2.2.2.2.2.2.2.2.2.1 r5.2.2.2.2.2.2.2.2.2.2.1 r5.2.2.2.2.2.2.2.2.2.2.2.1 r5.2.2.2.2.2.2.2.2.2.2.2.2 bcp bkd bsd blm bfu btb brb bgr bK bV hnw hct pl pp pn pS pV pO pW hp v2) else (fX6_run_55 n rpo rco r5.2.1 r5.2.2.1 r5.2.2.2.1 r5.2.2.2.2.1 r5.2.2.2.2.2.1 r5.2.2.2.2.2.2.1 r5.2.2.2.2.2.2.2.1 r5.2.2.2.2.2.2.2.2.1 r5.2.2.2.2.2.2.2.2.2.1 r5.2.2.2.2.2.2.2.2.2.2.1 r5.2.2.2.2.2.2.2.2.2.2.2.1 r5.2.2.2.2.2.2.2.2.2.2.2.2 bcp bkd bsd blm bfu btb brb bgr bK bV hnw hct pl pp pn pS pV pO pW hp (v2 + (1 : Int32)))))
def fX6_run  (rpo : Int32) (rco : Int32) (tcp : Int32) (tkd : Int32) (tsd : Int32) (tlm : Int32) (tfu : Int32) (ttb : Int32) (trb : Int32) (tgr : Int32) (tK : Nat → Int32) (tV : Nat → Int32) (tO : Nat → Int32) (tW : Nat → Int32) (bcp : Int32) (bkd : Int32) (bsd : Int32) (blm : Int32) (bfu : Int32) (btb : Int32) (brb : Int32) (bgr : Int32) (bK : Nat → Int32) (bV : Nat → Int32) (hnw : Int32) (hct : Int32) (pl : Int32) (pp : Int32) (pn : Int32) (pS : Nat → Int32) (pV : Nat → Int32) (pO : Nat → Int32) (pW : Nat → Int32) (hp : Nat → hTT) : Option ((Int32 ⊕ Nat) × Int32 × Int32 × Int32 × Int32 × Int32 × Int32 × Int32 × Int32 × Int32 × Int32 × (Nat → Int32) × (Nat → Int32) × (Nat → Int32) × (Nat → Int32) × Int32 × Int32 × Int32 × Int32 × Int32 × Int32 × Int32 × Int32 × (Nat → Int32) × (Nat → Int32) × Int32 × Int32 × Int32 × Int32 × Int32 × (Nat → Int32) × (Nat → Int32) × (Nat → Int32) × (Nat → hTT)) := (fX4_parse pl pp pn pS pV pO pW).bind fun r1 => (if r1.1 = 0 then (some (Sum.inr 1, r1.2.1, rco, tcp, tkd, tsd, tlm, tfu, ttb, trb, tgr, tK, tV, tO, tW, bcp, bkd, bsd, blm, bfu, btb, brb, bgr, bK, bV, hnw, hct, (0 : Int32), r1.2.1, r1.2.2.1, r1.2.2.2.1, r1.2.2.2.2.1, r1.2.2.2.2.2, hp)) else ((fX5_copyFrom bcp bkd bsd blm bfu btb brb bgr bK bV tcp tkd tsd tlm tfu ttb trb tgr tK tV).bind fun r3 => (fX6_run_55 1000 rpo rco tcp tkd tsd tlm tfu ttb trb tgr tK tV tO tW r3.1 r3.2.1 r3.2.2.1 r3.2.2.2.1 r3.2.2.2.2.1 r3.2.2.2.2.2.1 r3.2.2.2.2.2.2.1 r3.2.2.2.2.2.2.2.1 r3.2.2.2.2.2.2.2.2.1 r3.2.2.2.2.2.2.2.2.2 hnw hct (0 : Int32) r1.2.1 r1.2.2.1 pS r1.2.2.2.1 r1.2.2.2.2.1 r1.2.2.2.2.2 hp (0 : Int32))))
abbrev rmX4_sharedLength : Room := { frames := 4, cells := 0, slots := 0, locals := 160 }
theorem hmX4_sharedLength : hMV yX4_sharedLength cX4_sharedLength 3 (some .int) 1 := ⟨q_966, q_69, q_965, q_13, by decide, by decide, by decide +kernel⟩
theorem dX4_sharedLength_0 : decode cX4_sharedLength 0 = .ok (.iconst 0, 1) := by decide +kernel
theorem dX4_sharedLength_1 : decode cX4_sharedLength 1 = .ok (.istore_n 2, 1) := by decide +kernel
theorem dX4_sharedLength_2 : decode cX4_sharedLength 2 = .ok (.iload_n 2, 1) := by decide +kernel
theorem dX4_sharedLength_3 : decode cX4_sharedLength 3 = .ok (.aload_n 1, 1) := by decide +kernel
theorem dX4_sharedLength_4 : decode cX4_sharedLength 4 = .ok (.invokevirtual 86, 3) := by decide +kernel
theorem dX4_sharedLength_7 : decode cX4_sharedLength 7 = .ok (.if_icmp .ge 27, 3) := by decide +kernel
theorem dX4_sharedLength_10 : decode cX4_sharedLength 10 = .ok (.aload_n 0, 1) := by decide +kernel
theorem dX4_sharedLength_11 : decode cX4_sharedLength 11 = .ok (.aload_n 0, 1) := by decide +kernel
theorem dX4_sharedLength_12 : decode cX4_sharedLength 12 = .ok (.getfield 33, 3) := by decide +kernel
theorem dX4_sharedLength_15 : decode cX4_sharedLength 15 = .ok (.iload_n 2, 1) := by decide +kernel
theorem dX4_sharedLength_16 : decode cX4_sharedLength 16 = .ok (.iadd, 1) := by decide +kernel
theorem dX4_sharedLength_17 : decode cX4_sharedLength 17 = .ok (.invokevirtual 67, 3) := by decide +kernel
theorem dX4_sharedLength_20 : decode cX4_sharedLength 20 = .ok (.aload_n 1, 1) := by decide +kernel
theorem dX4_sharedLength_21 : decode cX4_sharedLength 21 = .ok (.iload_n 2, 1) := by decide +kernel
theorem dX4_sharedLength_22 : decode cX4_sharedLength 22 = .ok (.invokevirtual 96, 3) := by decide +kernel
theorem dX4_sharedLength_25 : decode cX4_sharedLength 25 = .ok (.if_icmp .ne 9, 3) := by decide +kernel
theorem dX4_sharedLength_28 : decode cX4_sharedLength 28 = .ok (.iinc 2 1, 3) := by decide +kernel
theorem dX4_sharedLength_31 : decode cX4_sharedLength 31 = .ok (.goto (-29), 3) := by decide +kernel
theorem dX4_sharedLength_34 : decode cX4_sharedLength 34 = .ok (.iload_n 2, 1) := by decide +kernel
theorem dX4_sharedLength_35 : decode cX4_sharedLength 35 = .ok (.ireturn, 1) := by decide +kernel
set_option maxHeartbeats 4000000 in
set_option maxRecDepth 100000 in
theorem bX4_sharedLength_2 {p : Program} {l : Launch} {e : Env} {s : State} {m : MethodId} {args : Array Value} {below : List Frame} {meth : Method} {c : Code} {D : va_G} {cC cI cO : ClassId} {A : Nat → Prop} {adK adV : Nat → Nat} (C0 : gC RX4 cX4_sharedLength 3 (some .int) p s m args meth c D (hTy cC cI cO) A) (E0 : hSt adK adV A s) (p0 p1 p2 p3 p4 : Nat) (out : Int32) (pn : Int32) (pV : Nat → Int32) (pO : Nat → Int32) (pW : Nat → Int32)   : ∀ (n : Nat) (pl : Int32) (pp : Int32) (pS : Nat → Int32) (v1 : Nat) (v2 : Int32), fX4_sharedLength_2 n pl pp pS v1 v2 = some out → gG p l e rmX4_sharedLength s m args below meth c D A 3 (MQ below (hQi D [(p0, .inr (4, [.ref p1, .ref p2, .ref p3, .ref p4, .int pl, .int pp, .int pn])), (p1, .inl (cC, 60, .inl pS)), (p2, .inl (cI, 60, .inl pV)), (p3, .inl (cI, 60, .inl pO)), (p4, .inl (cI, 60, .inl pW))] out A) args s 0 0 A) 0 0 2 [(0, .ref p0), (1, .ref (adK v1)), (2, .int v2)] [] [(p0, .inr (4, [.ref p1, .ref p2, .ref p3, .ref p4, .int pl, .int pp, .int pn])), (p1, .inl (cC, 60, .inl pS)), (p2, .inl (cI, 60, .inl pV)), (p3, .inl (cI, 60, .inl pO)), (p4, .inl (cI, 60, .inl pW))] := by
  intro n
  induction n with
  | zero => intro pl pp pS v1 v2 hf; rw [fX4_sharedLength_2] at hf; cases hf
  | succ n ih =>
    intro pl pp pS v1 v2 hf
    rw [fX4_sharedLength_2] at hf
    refine g_iload_n C0 dX4_sharedLength_2 rfl 2 rfl ?_
    refine g_aload_n C0 dX4_sharedLength_3 rfl 1 rfl ?_
    obtain ⟨r1, er1, hf⟩ := hl_bd hf
    try dsimp only at hf
    refine g_callECi C0 (hSt_ok adK adV) E0 (ws' := [(p0, .inr (4, [.ref p1, .ref p2, .ref p3, .ref p4, .int pl, .int pp, .int pn])), (p1, .inl (cC, 60, .inl pS)), (p2, .inl (cI, 60, .inl pV)), (p3, .inl (cI, 60, .inl pO)), (p4, .inl (cI, 60, .inl pW))]) (mJ0_length_8abf5 l D cC cI cO adK adV v1 (hlenI er1)) hmJ0_length_8abf5 q_967 ⟨Nat.le_of_ble_eq_true rfl, Nat.le_of_ble_eq_true rfl⟩ ⟨Nat.le_of_ble_eq_true rfl, Nat.le_of_ble_eq_true rfl⟩ rfl rfl [] rfl rfl rfl rfl rfl (fun hS => vk_recv E0.2.1 (hlenI er1) hS) rfl (Nat.le_of_ble_eq_true rfl) dX4_sharedLength_4 ?_
    rw [hlenV er1]
    refine g_icmp_ge C0 (tgt := 34) dX4_sharedLength_7 (by decide) (fun c2 => ?_) (fun c2 => ?_)
    · rw [if_pos c2] at hf
      refine g_iload_n C0 dX4_sharedLength_34 rfl 2 rfl ?_
      cases hf
      exact g_iret C0 rfl dX4_sharedLength_35 rfl rfl
    · rw [if_neg c2] at hf
      refine g_aload_n C0 dX4_sharedLength_10 rfl 0 rfl ?_
      refine g_aload_n C0 dX4_sharedLength_11 rfl 0 rfl ?_
      refine g_get C0 hinX4 0 rfl rfl 5 (by decide) q_190 rfl dX4_sharedLength_12 ?_
      refine g_iload_n C0 dX4_sharedLength_15 rfl 2 rfl ?_
      refine g_iadd C0 dX4_sharedLength_16 ?_
      obtain ⟨r3, er3, hf⟩ := hl_bd hf
      try dsimp only at hf
      refine g_callVi C0 (ws' := [(p0, .inr (4, [.ref p1, .ref p2, .ref p3, .ref p4, .int pl, .int pp, .int pn])), (p1, .inl (cC, 60, .inl pS)), (p2, .inl (cI, 60, .inl pV)), (p3, .inl (cI, 60, .inl pO)), (p4, .inl (cI, 60, .inl pW))]) (mX4_signAt l D cC cI cO  p0 p1 p2 p3 p4 pl pp pn pS pV pO pW (pp + v2) r3 er3) hmX4_signAt q_977 ⟨Nat.le_of_ble_eq_true rfl, Nat.le_of_ble_eq_true rfl⟩ ⟨Nat.le_of_ble_eq_true rfl, Nat.le_of_ble_eq_true rfl⟩ rfl rfl [0, 1, 2, 3, 4] rfl rfl rfl rfl rfl 0 rfl rfl rfl (Nat.le_of_ble_eq_true rfl) dX4_sharedLength_17 ?_
      refine g_aload_n C0 dX4_sharedLength_20 rfl 1 rfl ?_
      refine g_iload_n C0 dX4_sharedLength_21 rfl 2 rfl ?_
      obtain ⟨r4, er4, hf⟩ := hl_bd hf
      try dsimp only at hf
      refine g_callECi C0 (hSt_ok adK adV) E0 (ws' := [(p0, .inr (4, [.ref p1, .ref p2, .ref p3, .ref p4, .int pl, .int pp, .int pn])), (p1, .inl (cC, 60, .inl pS)), (p2, .inl (cI, 60, .inl pV)), (p3, .inl (cI, 60, .inl pO)), (p4, .inl (cI, 60, .inl pW))]) (mJ0_charAt_5068e l D cC cI cO adK adV v1 v2 (hchrI er4).1 (hchrI er4).2) hmJ0_charAt_5068e q_981 ⟨Nat.le_of_ble_eq_true rfl, Nat.le_of_ble_eq_true rfl⟩ ⟨Nat.le_of_ble_eq_true rfl, Nat.le_of_ble_eq_true rfl⟩ rfl rfl [] rfl rfl rfl rfl rfl (fun hS => vk_recv E0.2.1 (hchrI er4).1 hS) rfl (Nat.le_of_ble_eq_true rfl) dX4_sharedLength_22 ?_
      rw [hchrV er4]
      refine g_icmp_ne C0 (tgt := 34) dX4_sharedLength_25 (by decide) (fun c5 => ?_) (fun c5 => ?_)
      · rw [if_neg c5] at hf
        refine g_iload_n C0 dX4_sharedLength_34 rfl 2 rfl ?_
        cases hf
        exact g_iret C0 rfl dX4_sharedLength_35 rfl rfl
      · rw [if_pos c5] at hf
        refine g_iinc C0 (lv' := [(2, .int (v2 + (1 : Int32))), (0, .ref p0), (1, .ref (adK v1))]) dX4_sharedLength_28 2 rfl rfl (by decide) rfl ?_
        refine g_goto C0 (tgt := 2) dX4_sharedLength_31 (by decide) ?_
        refine g_lv [1, 2, 0] (lv' := [(0, .ref p0), (1, .ref (adK v1)), (2, .int (v2 + (1 : Int32)))]) rfl ?_
        exact ih pl pp pS v1 (v2 + (1 : Int32)) hf
set_option maxHeartbeats 4000000 in
set_option maxRecDepth 100000 in
theorem bX4_sharedLength {p : Program} {l : Launch} {e : Env} {s : State} {m : MethodId} {args : Array Value} {below : List Frame} {meth : Method} {c : Code} {D : va_G} {cC cI cO : ClassId} {A : Nat → Prop} {adK adV : Nat → Nat} (C0 : gC RX4 cX4_sharedLength 3 (some .int) p s m args meth c D (hTy cC cI cO) A) (E0 : hSt adK adV A s) (p0 p1 p2 p3 p4 : Nat) (out : Int32) (pl : Int32) (pp : Int32) (pn : Int32) (pS : Nat → Int32) (pV : Nat → Int32) (pO : Nat → Int32) (pW : Nat → Int32) (x0 : Nat) (hf : fX4_sharedLength pl pp pS x0 = some out) : gG p l e rmX4_sharedLength s m args below meth c D A 3 (MQ below (hQi D [(p0, .inr (4, [.ref p1, .ref p2, .ref p3, .ref p4, .int pl, .int pp, .int pn])), (p1, .inl (cC, 60, .inl pS)), (p2, .inl (cI, 60, .inl pV)), (p3, .inl (cI, 60, .inl pO)), (p4, .inl (cI, 60, .inl pW))] out A) args s 0 0 A) 0 0 0 [(0, .ref p0), (1, .ref (adK x0))] [] [(p0, .inr (4, [.ref p1, .ref p2, .ref p3, .ref p4, .int pl, .int pp, .int pn])), (p1, .inl (cC, 60, .inl pS)), (p2, .inl (cI, 60, .inl pV)), (p3, .inl (cI, 60, .inl pO)), (p4, .inl (cI, 60, .inl pW))] := by
  unfold fX4_sharedLength at hf
  refine g_iconst C0 (v := (0 : Int32)) dX4_sharedLength_0 (by decide) ?_
  refine g_istore_n C0 (lv' := [(2, .int (0 : Int32)), (0, .ref p0), (1, .ref (adK x0))]) dX4_sharedLength_1 rfl (by decide) rfl ?_
  refine g_lv [1, 2, 0] (lv' := [(0, .ref p0), (1, .ref (adK x0)), (2, .int (0 : Int32))]) rfl ?_
  exact bX4_sharedLength_2 C0 E0 p0 p1 p2 p3 p4 out pn pV pO pW  1000 pl pp pS x0 (0 : Int32) hf
theorem mX4_sharedLength (l : Launch) (D : va_G) (cC cI cO : ClassId) (adK adV : Nat → Nat)  (p0 p1 p2 p3 p4 : Nat) (pl : Int32) (pp : Int32) (pn : Int32) (pS : Nat → Int32) (pV : Nat → Int32) (pO : Nat → Int32) (pW : Nat → Int32) (x0 : Nat) (out : Int32) (hf : fX4_sharedLength pl pp pS x0 = some out) : ∀ sz, Met l yX4_sharedLength (ws_ yX4_sharedLength cX4_sharedLength 3 (some .int)) rmX4_sharedLength (va_Pc [.ref p0, .ref (adK x0)] (hPreE (hSt adK adV) D (hTy cC cI cO) [(p0, .inr (4, [.ref p1, .ref p2, .ref p3, .ref p4, .int pl, .int pp, .int pn])), (p1, .inl (cC, 60, .inl pS)), (p2, .inl (cI, 60, .inl pV)), (p3, .inl (cI, 60, .inl pO)), (p4, .inl (cI, 60, .inl pW))] sz)) (hQi D [(p0, .inr (4, [.ref p1, .ref p2, .ref p3, .ref p4, .int pl, .int pp, .int pn])), (p1, .inl (cC, 60, .inl pS)), (p2, .inl (cI, 60, .inl pV)), (p3, .inl (cI, 60, .inl pO)), (p4, .inl (cI, 60, .inl pW))] out (va_A [(p0, .inr (4, [.ref p1, .ref p2, .ref p3, .ref p4, .int pl, .int pp, .int pn])), (p1, .inl (cC, 60, .inl pS)), (p2, .inl (cI, 60, .inl pV)), (p3, .inl (cI, 60, .inl pO)), (p4, .inl (cI, 60, .inl pW))] sz)) 0 0 (va_A [(p0, .inr (4, [.ref p1, .ref p2, .ref p3, .ref p4, .int pl, .int pp, .int pn])), (p1, .inl (cC, 60, .inl pS)), (p2, .inl (cI, 60, .inl pV)), (p3, .inl (cI, 60, .inl pO)), (p4, .inl (cI, 60, .inl pW))] sz) :=
  g_metE (Qf := fun A => hQi D [(p0, .inr (4, [.ref p1, .ref p2, .ref p3, .ref p4, .int pl, .int pp, .int pn])), (p1, .inl (cC, 60, .inl pS)), (p2, .inl (cI, 60, .inl pV)), (p3, .inl (cI, 60, .inl pO)), (p4, .inl (cI, 60, .inl pW))] out A) (by decide +kernel) (Nat.le_of_ble_eq_true rfl) rfl (fun C0 E0 => bX4_sharedLength C0 E0 p0 p1 p2 p3 p4 out pl pp pn pS pV pO pW x0 hf)
abbrev rmX4_readVerb : Room := { frames := 5, cells := 0, slots := 0, locals := 182 }
theorem hmX4_readVerb : hMV yX4_readVerb cX4_readVerb 5 (some .int) 0 := ⟨q_952, q_69, q_951, q_12, by decide, by decide, by decide +kernel⟩
theorem dX4_readVerb_0 : decode cX4_readVerb 0 = .ok (.iconst 0, 1) := by decide +kernel
theorem dX4_readVerb_1 : decode cX4_readVerb 1 = .ok (.istore_n 1, 1) := by decide +kernel
theorem dX4_readVerb_2 : decode cX4_readVerb 2 = .ok (.iconst 0, 1) := by decide +kernel
theorem dX4_readVerb_3 : decode cX4_readVerb 3 = .ok (.istore_n 2, 1) := by decide +kernel
theorem dX4_readVerb_4 : decode cX4_readVerb 4 = .ok (.iload_n 2, 1) := by decide +kernel
theorem dX4_readVerb_5 : decode cX4_readVerb 5 = .ok (.bipush 7, 2) := by decide +kernel
theorem dX4_readVerb_7 : decode cX4_readVerb 7 = .ok (.if_icmp .ge 50, 3) := by decide +kernel
theorem dX4_readVerb_10 : decode cX4_readVerb 10 = .ok (.iload_n 2, 1) := by decide +kernel
theorem dX4_readVerb_11 : decode cX4_readVerb 11 = .ok (.invokestatic 78, 3) := by decide +kernel
theorem dX4_readVerb_14 : decode cX4_readVerb 14 = .ok (.astore_n 3, 1) := by decide +kernel
theorem dX4_readVerb_15 : decode cX4_readVerb 15 = .ok (.aload_n 0, 1) := by decide +kernel
theorem dX4_readVerb_16 : decode cX4_readVerb 16 = .ok (.aload_n 3, 1) := by decide +kernel
theorem dX4_readVerb_17 : decode cX4_readVerb 17 = .ok (.invokevirtual 82, 3) := by decide +kernel
theorem dX4_readVerb_20 : decode cX4_readVerb 20 = .ok (.istore 4, 2) := by decide +kernel
theorem dX4_readVerb_22 : decode cX4_readVerb 22 = .ok (.iload 4, 2) := by decide +kernel
theorem dX4_readVerb_24 : decode cX4_readVerb 24 = .ok (.aload_n 3, 1) := by decide +kernel
theorem dX4_readVerb_25 : decode cX4_readVerb 25 = .ok (.invokevirtual 86, 3) := by decide +kernel
theorem dX4_readVerb_28 : decode cX4_readVerb 28 = .ok (.if_icmp .ne 16, 3) := by decide +kernel
theorem dX4_readVerb_31 : decode cX4_readVerb 31 = .ok (.aload_n 0, 1) := by decide +kernel
theorem dX4_readVerb_32 : decode cX4_readVerb 32 = .ok (.dup, 1) := by decide +kernel
theorem dX4_readVerb_33 : decode cX4_readVerb 33 = .ok (.getfield 33, 3) := by decide +kernel
theorem dX4_readVerb_36 : decode cX4_readVerb 36 = .ok (.iload 4, 2) := by decide +kernel
theorem dX4_readVerb_38 : decode cX4_readVerb 38 = .ok (.iadd, 1) := by decide +kernel
theorem dX4_readVerb_39 : decode cX4_readVerb 39 = .ok (.putfield 33, 3) := by decide +kernel
theorem dX4_readVerb_42 : decode cX4_readVerb 42 = .ok (.iload_n 2, 1) := by decide +kernel
theorem dX4_readVerb_43 : decode cX4_readVerb 43 = .ok (.ireturn, 1) := by decide +kernel
theorem dX4_readVerb_44 : decode cX4_readVerb 44 = .ok (.iload_n 1, 1) := by decide +kernel
theorem dX4_readVerb_45 : decode cX4_readVerb 45 = .ok (.iload 4, 2) := by decide +kernel
theorem dX4_readVerb_47 : decode cX4_readVerb 47 = .ok (.invokestatic 90, 3) := by decide +kernel
theorem dX4_readVerb_50 : decode cX4_readVerb 50 = .ok (.istore_n 1, 1) := by decide +kernel
theorem dX4_readVerb_51 : decode cX4_readVerb 51 = .ok (.iinc 2 1, 3) := by decide +kernel
theorem dX4_readVerb_54 : decode cX4_readVerb 54 = .ok (.goto (-50), 3) := by decide +kernel
theorem dX4_readVerb_57 : decode cX4_readVerb 57 = .ok (.aload_n 0, 1) := by decide +kernel
theorem dX4_readVerb_58 : decode cX4_readVerb 58 = .ok (.dup, 1) := by decide +kernel
theorem dX4_readVerb_59 : decode cX4_readVerb 59 = .ok (.getfield 33, 3) := by decide +kernel
theorem dX4_readVerb_62 : decode cX4_readVerb 62 = .ok (.iload_n 1, 1) := by decide +kernel
theorem dX4_readVerb_63 : decode cX4_readVerb 63 = .ok (.iadd, 1) := by decide +kernel
theorem dX4_readVerb_64 : decode cX4_readVerb 64 = .ok (.putfield 33, 3) := by decide +kernel
theorem dX4_readVerb_67 : decode cX4_readVerb 67 = .ok (.iconst (-1), 1) := by decide +kernel
theorem dX4_readVerb_68 : decode cX4_readVerb 68 = .ok (.ireturn, 1) := by decide +kernel
set_option maxHeartbeats 4000000 in
set_option maxRecDepth 100000 in
theorem bX4_readVerb_4 {p : Program} {l : Launch} {e : Env} {s : State} {m : MethodId} {args : Array Value} {below : List Frame} {meth : Method} {c : Code} {D : va_G} {cC cI cO : ClassId} {A : Nat → Prop} {adK adV : Nat → Nat} (C0 : gC RX4 cX4_readVerb 5 (some .int) p s m args meth c D (hTy cC cI cO) A) (E0 : hSt adK adV A s) (p0 p1 p2 p3 p4 : Nat) (out : Int32 × Int32) (pn : Int32) (pV : Nat → Int32) (pO : Nat → Int32) (pW : Nat → Int32)   : ∀ (n : Nat) (pl : Int32) (pp : Int32) (pS : Nat → Int32) (v1 : Int32) (v2 : Int32), fX4_readVerb_4 n pl pp pS v1 v2 = some out → gG p l e rmX4_readVerb s m args below meth c D A 5 (MQ below (hQi D [(p0, .inr (4, [.ref p1, .ref p2, .ref p3, .ref p4, .int pl, .int out.2, .int pn])), (p1, .inl (cC, 60, .inl pS)), (p2, .inl (cI, 60, .inl pV)), (p3, .inl (cI, 60, .inl pO)), (p4, .inl (cI, 60, .inl pW))] out.1 A) args s 0 0 A) 0 0 4 [(0, .ref p0), (1, .int v1), (2, .int v2)] [] [(p0, .inr (4, [.ref p1, .ref p2, .ref p3, .ref p4, .int pl, .int pp, .int pn])), (p1, .inl (cC, 60, .inl pS)), (p2, .inl (cI, 60, .inl pV)), (p3, .inl (cI, 60, .inl pO)), (p4, .inl (cI, 60, .inl pW))] := by
  intro n
  induction n with
  | zero => intro pl pp pS v1 v2 hf; rw [fX4_readVerb_4] at hf; cases hf
  | succ n ih =>
    intro pl pp pS v1 v2 hf
    rw [fX4_readVerb_4] at hf
    refine g_iload_n C0 dX4_readVerb_4 rfl 2 rfl ?_
    refine g_bipush C0 (v := (7 : Int32)) dX4_readVerb_5 (by decide) ?_
    refine g_icmp_ge C0 (tgt := 57) dX4_readVerb_7 (by decide) (fun c1 => ?_) (fun c1 => ?_)
    · rw [if_pos c1] at hf
      refine g_aload_n C0 dX4_readVerb_57 rfl 0 rfl ?_
      refine g_dup C0 dX4_readVerb_58 rfl ?_
      refine g_get C0 hinX4 0 rfl rfl 5 (by decide) q_190 rfl dX4_readVerb_59 ?_
      refine g_iload_n C0 dX4_readVerb_62 rfl 1 rfl ?_
      refine g_iadd C0 dX4_readVerb_63 ?_
      refine g_put C0 (ws' := [(p0, .inr (4, [.ref p1, .ref p2, .ref p3, .ref p4, .int pl, .int (pp + v1), .int pn])), (p1, .inl (cC, 60, .inl pS)), (p2, .inl (cI, 60, .inl pV)), (p3, .inl (cI, 60, .inl pO)), (p4, .inl (cI, 60, .inl pW))]) hinX4 0 rfl rfl 5 (by decide) q_190 tyX4_ok nmX4 rfl rfl rfl (Nat.le_of_ble_eq_true rfl) rfl dX4_readVerb_64 ?_
      refine g_iconst C0 (v := (-1 : Int32)) dX4_readVerb_67 (by decide) ?_
      cases hf
      exact g_iret C0 rfl dX4_readVerb_68 rfl rfl
    · rw [if_neg c1] at hf
      refine g_iload_n C0 dX4_readVerb_10 rfl 2 rfl ?_
      obtain ⟨r2, er2, hf⟩ := hl_bd hf
      try dsimp only at hf
      refine g_callESq C0 (hSt_ok adK adV) E0 (ws' := [(p0, .inr (4, [.ref p1, .ref p2, .ref p3, .ref p4, .int pl, .int pp, .int pn])), (p1, .inl (cC, 60, .inl pS)), (p2, .inl (cI, 60, .inl pV)), (p3, .inl (cI, 60, .inl pO)), (p4, .inl (cI, 60, .inl pW))]) (mX4_wordOf l D cC cI cO adK adV r2 v2 er2) hmX4_wordOf q_953 ⟨Nat.le_of_ble_eq_true rfl, Nat.le_of_ble_eq_true rfl⟩ ⟨Nat.le_of_ble_eq_true rfl, Nat.le_of_ble_eq_true rfl⟩ rfl rfl [] rfl rfl rfl rfl rfl rfl (Nat.le_of_ble_eq_true rfl) dX4_readVerb_11 ?_
      refine g_astore_n C0 (lv' := [(3, .ref (adK r2)), (0, .ref p0), (1, .int v1), (2, .int v2)]) dX4_readVerb_14 rfl (by decide) rfl ?_
      refine g_aload_n C0 dX4_readVerb_15 rfl 1 rfl ?_
      refine g_aload_n C0 dX4_readVerb_16 rfl 0 rfl ?_
      obtain ⟨r3, er3, hf⟩ := hl_bd hf
      try dsimp only at hf
      refine g_callEVi C0 (hSt_ok adK adV) E0 (ws' := [(p0, .inr (4, [.ref p1, .ref p2, .ref p3, .ref p4, .int pl, .int pp, .int pn])), (p1, .inl (cC, 60, .inl pS)), (p2, .inl (cI, 60, .inl pV)), (p3, .inl (cI, 60, .inl pO)), (p4, .inl (cI, 60, .inl pW))]) (mX4_sharedLength l D cC cI cO adK adV  p0 p1 p2 p3 p4 pl pp pn pS pV pO pW r2 r3 er3) hmX4_sharedLength q_963 ⟨Nat.le_of_ble_eq_true rfl, Nat.le_of_ble_eq_true rfl⟩ ⟨Nat.le_of_ble_eq_true rfl, Nat.le_of_ble_eq_true rfl⟩ rfl rfl [0, 1, 2, 3, 4] rfl rfl rfl rfl rfl 0 rfl rfl rfl (Nat.le_of_ble_eq_true rfl) dX4_readVerb_17 ?_
      refine g_istore C0 (lv' := [(4, .int r3), (3, .ref (adK r2)), (0, .ref p0), (1, .int v1), (2, .int v2)]) dX4_readVerb_20 (by decide) rfl ?_
      refine g_iload C0 dX4_readVerb_22 0 rfl ?_
      refine g_aload_n C0 dX4_readVerb_24 rfl 1 rfl ?_
      obtain ⟨r4, er4, hf⟩ := hl_bd hf
      try dsimp only at hf
      refine g_callECi C0 (hSt_ok adK adV) E0 (ws' := [(p0, .inr (4, [.ref p1, .ref p2, .ref p3, .ref p4, .int pl, .int pp, .int pn])), (p1, .inl (cC, 60, .inl pS)), (p2, .inl (cI, 60, .inl pV)), (p3, .inl (cI, 60, .inl pO)), (p4, .inl (cI, 60, .inl pW))]) (mJ0_length_8abf5 l D cC cI cO adK adV r2 (hlenI er4)) hmJ0_length_8abf5 q_967 ⟨Nat.le_of_ble_eq_true rfl, Nat.le_of_ble_eq_true rfl⟩ ⟨Nat.le_of_ble_eq_true rfl, Nat.le_of_ble_eq_true rfl⟩ rfl rfl [] rfl rfl rfl rfl rfl (fun hS => vk_recv E0.2.1 (hlenI er4) hS) rfl (Nat.le_of_ble_eq_true rfl) dX4_readVerb_25 ?_
      rw [hlenV er4]
      refine g_icmp_ne C0 (tgt := 44) dX4_readVerb_28 (by decide) (fun c5 => ?_) (fun c5 => ?_)
      · rw [if_neg c5] at hf
        refine g_iload_n C0 dX4_readVerb_44 rfl 3 rfl ?_
        refine g_iload C0 dX4_readVerb_45 0 rfl ?_
        refine g_mmax C0 q_1019 q_402 q_76 q_403 (Nat.le_of_ble_eq_true rfl) ⟨Nat.le_of_ble_eq_true rfl, Nat.le_of_ble_eq_true rfl⟩ (Nat.le_of_ble_eq_true rfl) dX4_readVerb_47 ?_
        refine g_istore_n C0 (lv' := [(1, .int (if v1 < r3 then r3 else v1)), (4, .int r3), (3, .ref (adK r2)), (0, .ref p0), (2, .int v2)]) dX4_readVerb_50 rfl (by decide) rfl ?_
        refine g_iinc C0 (lv' := [(2, .int (v2 + (1 : Int32))), (1, .int (if v1 < r3 then r3 else v1)), (4, .int r3), (3, .ref (adK r2)), (0, .ref p0)]) dX4_readVerb_51 4 rfl rfl (by decide) rfl ?_
        refine g_goto C0 (tgt := 4) dX4_readVerb_54 (by decide) ?_
        refine g_lv [4, 1, 0] (lv' := [(0, .ref p0), (1, .int (if v1 < r3 then r3 else v1)), (2, .int (v2 + (1 : Int32)))]) rfl ?_
        exact ih pl pp pS (if v1 < r3 then r3 else v1) (v2 + (1 : Int32)) hf
      · rw [if_pos c5] at hf
        refine g_aload_n C0 dX4_readVerb_31 rfl 2 rfl ?_
        refine g_dup C0 dX4_readVerb_32 rfl ?_
        refine g_get C0 hinX4 0 rfl rfl 5 (by decide) q_190 rfl dX4_readVerb_33 ?_
        refine g_iload C0 dX4_readVerb_36 0 rfl ?_
        refine g_iadd C0 dX4_readVerb_38 ?_
        refine g_put C0 (ws' := [(p0, .inr (4, [.ref p1, .ref p2, .ref p3, .ref p4, .int pl, .int (pp + r3), .int pn])), (p1, .inl (cC, 60, .inl pS)), (p2, .inl (cI, 60, .inl pV)), (p3, .inl (cI, 60, .inl pO)), (p4, .inl (cI, 60, .inl pW))]) hinX4 0 rfl rfl 5 (by decide) q_190 tyX4_ok nmX4 rfl rfl rfl (Nat.le_of_ble_eq_true rfl) rfl dX4_readVerb_39 ?_
        refine g_iload_n C0 dX4_readVerb_42 rfl 4 rfl ?_
        cases hf
        exact g_iret C0 rfl dX4_readVerb_43 rfl rfl
set_option maxHeartbeats 4000000 in
set_option maxRecDepth 100000 in
theorem bX4_readVerb {p : Program} {l : Launch} {e : Env} {s : State} {m : MethodId} {args : Array Value} {below : List Frame} {meth : Method} {c : Code} {D : va_G} {cC cI cO : ClassId} {A : Nat → Prop} {adK adV : Nat → Nat} (C0 : gC RX4 cX4_readVerb 5 (some .int) p s m args meth c D (hTy cC cI cO) A) (E0 : hSt adK adV A s) (p0 p1 p2 p3 p4 : Nat) (out : Int32 × Int32) (pl : Int32) (pp : Int32) (pn : Int32) (pS : Nat → Int32) (pV : Nat → Int32) (pO : Nat → Int32) (pW : Nat → Int32)  (hf : fX4_readVerb pl pp pS = some out) : gG p l e rmX4_readVerb s m args below meth c D A 5 (MQ below (hQi D [(p0, .inr (4, [.ref p1, .ref p2, .ref p3, .ref p4, .int pl, .int out.2, .int pn])), (p1, .inl (cC, 60, .inl pS)), (p2, .inl (cI, 60, .inl pV)), (p3, .inl (cI, 60, .inl pO)), (p4, .inl (cI, 60, .inl pW))] out.1 A) args s 0 0 A) 0 0 0 [(0, .ref p0)] [] [(p0, .inr (4, [.ref p1, .ref p2, .ref p3, .ref p4, .int pl, .int pp, .int pn])), (p1, .inl (cC, 60, .inl pS)), (p2, .inl (cI, 60, .inl pV)), (p3, .inl (cI, 60, .inl pO)), (p4, .inl (cI, 60, .inl pW))] := by
  unfold fX4_readVerb at hf
  refine g_iconst C0 (v := (0 : Int32)) dX4_readVerb_0 (by decide) ?_
  refine g_istore_n C0 (lv' := [(1, .int (0 : Int32)), (0, .ref p0)]) dX4_readVerb_1 rfl (by decide) rfl ?_
  refine g_iconst C0 (v := (0 : Int32)) dX4_readVerb_2 (by decide) ?_
  refine g_istore_n C0 (lv' := [(2, .int (0 : Int32)), (1, .int (0 : Int32)), (0, .ref p0)]) dX4_readVerb_3 rfl (by decide) rfl ?_
  refine g_lv [2, 1, 0] (lv' := [(0, .ref p0), (1, .int (0 : Int32)), (2, .int (0 : Int32))]) rfl ?_
  exact bX4_readVerb_4 C0 E0 p0 p1 p2 p3 p4 out pn pV pO pW  1000 pl pp pS (0 : Int32) (0 : Int32) hf
theorem mX4_readVerb (l : Launch) (D : va_G) (cC cI cO : ClassId) (adK adV : Nat → Nat)  (p0 p1 p2 p3 p4 : Nat) (pl : Int32) (pp : Int32) (pn : Int32) (pS : Nat → Int32) (pV : Nat → Int32) (pO : Nat → Int32) (pW : Nat → Int32)  (out : Int32 × Int32) (hf : fX4_readVerb pl pp pS = some out) : ∀ sz, Met l yX4_readVerb (ws_ yX4_readVerb cX4_readVerb 5 (some .int)) rmX4_readVerb (va_Pc [.ref p0] (hPreE (hSt adK adV) D (hTy cC cI cO) [(p0, .inr (4, [.ref p1, .ref p2, .ref p3, .ref p4, .int pl, .int pp, .int pn])), (p1, .inl (cC, 60, .inl pS)), (p2, .inl (cI, 60, .inl pV)), (p3, .inl (cI, 60, .inl pO)), (p4, .inl (cI, 60, .inl pW))] sz)) (hQi D [(p0, .inr (4, [.ref p1, .ref p2, .ref p3, .ref p4, .int pl, .int out.2, .int pn])), (p1, .inl (cC, 60, .inl pS)), (p2, .inl (cI, 60, .inl pV)), (p3, .inl (cI, 60, .inl pO)), (p4, .inl (cI, 60, .inl pW))] out.1 (va_A [(p0, .inr (4, [.ref p1, .ref p2, .ref p3, .ref p4, .int pl, .int pp, .int pn])), (p1, .inl (cC, 60, .inl pS)), (p2, .inl (cI, 60, .inl pV)), (p3, .inl (cI, 60, .inl pO)), (p4, .inl (cI, 60, .inl pW))] sz)) 0 0 (va_A [(p0, .inr (4, [.ref p1, .ref p2, .ref p3, .ref p4, .int pl, .int pp, .int pn])), (p1, .inl (cC, 60, .inl pS)), (p2, .inl (cI, 60, .inl pV)), (p3, .inl (cI, 60, .inl pO)), (p4, .inl (cI, 60, .inl pW))] sz) :=
  g_metE (Qf := fun A => hQi D [(p0, .inr (4, [.ref p1, .ref p2, .ref p3, .ref p4, .int pl, .int out.2, .int pn])), (p1, .inl (cC, 60, .inl pS)), (p2, .inl (cI, 60, .inl pV)), (p3, .inl (cI, 60, .inl pO)), (p4, .inl (cI, 60, .inl pW))] out.1 A) (by decide +kernel) (Nat.le_of_ble_eq_true rfl) rfl (fun C0 E0 => bX4_readVerb C0 E0 p0 p1 p2 p3 p4 out pl pp pn pS pV pO pW  hf)
abbrev rmX4_readCommand : Room := { frames := 6, cells := 0, slots := 0, locals := 206 }
theorem hmX4_readCommand : hMV yX4_readCommand cX4_readCommand 3 (some .boolean) 0 := ⟨q_948, q_69, q_947, q_11, by decide, by decide, by decide +kernel⟩
theorem dX4_readCommand_0 : decode cX4_readCommand 0 = .ok (.aload_n 0, 1) := by decide +kernel
theorem dX4_readCommand_1 : decode cX4_readCommand 1 = .ok (.getfield 36, 3) := by decide +kernel
theorem dX4_readCommand_4 : decode cX4_readCommand 4 = .ok (.ifCond .lt 12, 3) := by decide +kernel
theorem dX4_readCommand_7 : decode cX4_readCommand 7 = .ok (.aload_n 0, 1) := by decide +kernel
theorem dX4_readCommand_8 : decode cX4_readCommand 8 = .ok (.getfield 36, 3) := by decide +kernel
theorem dX4_readCommand_11 : decode cX4_readCommand 11 = .ok (.bipush 60, 2) := by decide +kernel
theorem dX4_readCommand_13 : decode cX4_readCommand 13 = .ok (.if_icmp .lt 5, 3) := by decide +kernel
theorem dX4_readCommand_16 : decode cX4_readCommand 16 = .ok (.iconst 0, 1) := by decide +kernel
theorem dX4_readCommand_17 : decode cX4_readCommand 17 = .ok (.ireturn, 1) := by decide +kernel
theorem dX4_readCommand_18 : decode cX4_readCommand 18 = .ok (.aload_n 0, 1) := by decide +kernel
theorem dX4_readCommand_19 : decode cX4_readCommand 19 = .ok (.invokevirtual 47, 3) := by decide +kernel
theorem dX4_readCommand_22 : decode cX4_readCommand 22 = .ok (.istore_n 1, 1) := by decide +kernel
theorem dX4_readCommand_23 : decode cX4_readCommand 23 = .ok (.aload_n 0, 1) := by decide +kernel
theorem dX4_readCommand_24 : decode cX4_readCommand 24 = .ok (.getfield 15, 3) := by decide +kernel
theorem dX4_readCommand_27 : decode cX4_readCommand 27 = .ok (.aload_n 0, 1) := by decide +kernel
theorem dX4_readCommand_28 : decode cX4_readCommand 28 = .ok (.getfield 36, 3) := by decide +kernel
theorem dX4_readCommand_31 : decode cX4_readCommand 31 = .ok (.iload_n 1, 1) := by decide +kernel
theorem dX4_readCommand_32 : decode cX4_readCommand 32 = .ok (.iastore, 1) := by decide +kernel
theorem dX4_readCommand_33 : decode cX4_readCommand 33 = .ok (.aload_n 0, 1) := by decide +kernel
theorem dX4_readCommand_34 : decode cX4_readCommand 34 = .ok (.getfield 19, 3) := by decide +kernel
theorem dX4_readCommand_37 : decode cX4_readCommand 37 = .ok (.aload_n 0, 1) := by decide +kernel
theorem dX4_readCommand_38 : decode cX4_readCommand 38 = .ok (.getfield 36, 3) := by decide +kernel
theorem dX4_readCommand_41 : decode cX4_readCommand 41 = .ok (.iconst (-1), 1) := by decide +kernel
theorem dX4_readCommand_42 : decode cX4_readCommand 42 = .ok (.iastore, 1) := by decide +kernel
theorem dX4_readCommand_43 : decode cX4_readCommand 43 = .ok (.aload_n 0, 1) := by decide +kernel
theorem dX4_readCommand_44 : decode cX4_readCommand 44 = .ok (.getfield 22, 3) := by decide +kernel
theorem dX4_readCommand_47 : decode cX4_readCommand 47 = .ok (.aload_n 0, 1) := by decide +kernel
theorem dX4_readCommand_48 : decode cX4_readCommand 48 = .ok (.getfield 36, 3) := by decide +kernel
theorem dX4_readCommand_51 : decode cX4_readCommand 51 = .ok (.iconst 0, 1) := by decide +kernel
theorem dX4_readCommand_52 : decode cX4_readCommand 52 = .ok (.iastore, 1) := by decide +kernel
theorem dX4_readCommand_53 : decode cX4_readCommand 53 = .ok (.iload_n 1, 1) := by decide +kernel
theorem dX4_readCommand_54 : decode cX4_readCommand 54 = .ok (.iconst (-1), 1) := by decide +kernel
theorem dX4_readCommand_55 : decode cX4_readCommand 55 = .ok (.if_icmp .eq 15, 3) := by decide +kernel
theorem dX4_readCommand_58 : decode cX4_readCommand 58 = .ok (.aload_n 0, 1) := by decide +kernel
theorem dX4_readCommand_59 : decode cX4_readCommand 59 = .ok (.iload_n 1, 1) := by decide +kernel
theorem dX4_readCommand_60 : decode cX4_readCommand 60 = .ok (.invokevirtual 51, 3) := by decide +kernel
theorem dX4_readCommand_63 : decode cX4_readCommand 63 = .ok (.ifCond .eq 7, 3) := by decide +kernel
theorem dX4_readCommand_66 : decode cX4_readCommand 66 = .ok (.iconst 1, 1) := by decide +kernel
theorem dX4_readCommand_67 : decode cX4_readCommand 67 = .ok (.goto 4, 3) := by decide +kernel
theorem dX4_readCommand_70 : decode cX4_readCommand 70 = .ok (.iconst 0, 1) := by decide +kernel
theorem dX4_readCommand_71 : decode cX4_readCommand 71 = .ok (.istore_n 2, 1) := by decide +kernel
theorem dX4_readCommand_72 : decode cX4_readCommand 72 = .ok (.aload_n 0, 1) := by decide +kernel
theorem dX4_readCommand_73 : decode cX4_readCommand 73 = .ok (.dup, 1) := by decide +kernel
theorem dX4_readCommand_74 : decode cX4_readCommand 74 = .ok (.getfield 36, 3) := by decide +kernel
theorem dX4_readCommand_77 : decode cX4_readCommand 77 = .ok (.iconst 1, 1) := by decide +kernel
theorem dX4_readCommand_78 : decode cX4_readCommand 78 = .ok (.iadd, 1) := by decide +kernel
theorem dX4_readCommand_79 : decode cX4_readCommand 79 = .ok (.putfield 36, 3) := by decide +kernel
theorem dX4_readCommand_82 : decode cX4_readCommand 82 = .ok (.iload_n 2, 1) := by decide +kernel
theorem dX4_readCommand_83 : decode cX4_readCommand 83 = .ok (.ireturn, 1) := by decide +kernel
set_option maxHeartbeats 4000000 in
set_option maxRecDepth 100000 in
theorem bX4_readCommand {p : Program} {l : Launch} {e : Env} {s : State} {m : MethodId} {args : Array Value} {below : List Frame} {meth : Method} {c : Code} {D : va_G} {cC cI cO : ClassId} {A : Nat → Prop} {adK adV : Nat → Nat} (C0 : gC RX4 cX4_readCommand 3 (some .boolean) p s m args meth c D (hTy cC cI cO) A) (E0 : hSt adK adV A s) (p0 p1 p2 p3 p4 : Nat) (out : Int32 × Int32 × Int32 × (Nat → Int32) × (Nat → Int32) × (Nat → Int32)) (pl : Int32) (pp : Int32) (pn : Int32) (pS : Nat → Int32) (pV : Nat → Int32) (pO : Nat → Int32) (pW : Nat → Int32)  (hf : fX4_readCommand pl pp pn pS pV pO pW = some out) : gG p l e rmX4_readCommand s m args below meth c D A 3 (MQ below (hQi D [(p0, .inr (4, [.ref p1, .ref p2, .ref p3, .ref p4, .int pl, .int out.2.1, .int out.2.2.1])), (p1, .inl (cC, 60, .inl pS)), (p2, .inl (cI, 60, .inl out.2.2.2.1)), (p3, .inl (cI, 60, .inl out.2.2.2.2.1)), (p4, .inl (cI, 60, .inl out.2.2.2.2.2))] out.1 A) args s 0 0 A) 0 0 0 [(0, .ref p0)] [] [(p0, .inr (4, [.ref p1, .ref p2, .ref p3, .ref p4, .int pl, .int pp, .int pn])), (p1, .inl (cC, 60, .inl pS)), (p2, .inl (cI, 60, .inl pV)), (p3, .inl (cI, 60, .inl pO)), (p4, .inl (cI, 60, .inl pW))] := by
  unfold fX4_readCommand at hf
  refine g_aload_n C0 dX4_readCommand_0 rfl 0 rfl ?_
  refine g_get C0 hinX4 0 rfl rfl 6 (by decide) q_192 rfl dX4_readCommand_1 ?_
  refine g_if_lt C0 (tgt := 16) dX4_readCommand_4 (by decide) (fun c1 => ?_) (fun c1 => ?_)
  · rw [if_pos c1] at hf
    refine g_iconst C0 (v := (0 : Int32)) dX4_readCommand_16 (by decide) ?_
    cases hf
    exact g_iret C0 rfl dX4_readCommand_17 rfl rfl
  · rw [if_neg c1] at hf
    refine g_aload_n C0 dX4_readCommand_7 rfl 0 rfl ?_
    refine g_get C0 hinX4 0 rfl rfl 6 (by decide) q_192 rfl dX4_readCommand_8 ?_
    refine g_bipush C0 (v := (60 : Int32)) dX4_readCommand_11 (by decide) ?_
    refine g_icmp_lt C0 (tgt := 18) dX4_readCommand_13 (by decide) (fun c2 => ?_) (fun c2 => ?_)
    · rw [if_pos c2] at hf
      refine g_aload_n C0 dX4_readCommand_18 rfl 0 rfl ?_
      obtain ⟨r3, er3, hf⟩ := hl_bd hf
      try dsimp only at hf
      refine g_callEVi C0 (hSt_ok adK adV) E0 (ws' := [(p0, .inr (4, [.ref p1, .ref p2, .ref p3, .ref p4, .int pl, .int r3.2, .int pn])), (p1, .inl (cC, 60, .inl pS)), (p2, .inl (cI, 60, .inl pV)), (p3, .inl (cI, 60, .inl pO)), (p4, .inl (cI, 60, .inl pW))]) (mX4_readVerb l D cC cI cO adK adV  p0 p1 p2 p3 p4 pl pp pn pS pV pO pW  r3 er3) hmX4_readVerb q_949 ⟨Nat.le_of_ble_eq_true rfl, Nat.le_of_ble_eq_true rfl⟩ ⟨Nat.le_of_ble_eq_true rfl, Nat.le_of_ble_eq_true rfl⟩ rfl rfl [0, 1, 2, 3, 4] rfl rfl rfl rfl rfl 0 rfl rfl rfl (Nat.le_of_ble_eq_true rfl) dX4_readCommand_19 ?_
      refine g_istore_n C0 (lv' := [(1, .int r3.1), (0, .ref p0)]) dX4_readCommand_22 rfl (by decide) rfl ?_
      refine g_aload_n C0 dX4_readCommand_23 rfl 1 rfl ?_
      refine g_get C0 hinX4 0 rfl rfl 1 (by decide) q_185 rfl dX4_readCommand_24 ?_
      refine g_aload_n C0 dX4_readCommand_27 rfl 1 rfl ?_
      refine g_get C0 hinX4 0 rfl rfl 6 (by decide) q_192 rfl dX4_readCommand_28 ?_
      refine g_iload_n C0 dX4_readCommand_31 rfl 0 rfl ?_
      obtain ⟨i4, hf⟩ := hl_ifS hf
      refine g_iast C0 (ws' := [(p0, .inr (4, [.ref p1, .ref p2, .ref p3, .ref p4, .int pl, .int r3.2, .int pn])), (p1, .inl (cC, 60, .inl pS)), (p2, .inl (cI, 60, .inl (upd pV (pn.toNatClampNeg) r3.1))), (p3, .inl (cI, 60, .inl pO)), (p4, .inl (cI, 60, .inl pW))]) 2 1 rfl rfl i4 rfl dX4_readCommand_32 rfl ?_
      refine g_aload_n C0 dX4_readCommand_33 rfl 1 rfl ?_
      refine g_get C0 hinX4 0 rfl rfl 2 (by decide) q_186 rfl dX4_readCommand_34 ?_
      refine g_aload_n C0 dX4_readCommand_37 rfl 1 rfl ?_
      refine g_get C0 hinX4 0 rfl rfl 6 (by decide) q_192 rfl dX4_readCommand_38 ?_
      refine g_iconst C0 (v := (-1 : Int32)) dX4_readCommand_41 (by decide) ?_
      obtain ⟨i5, hf⟩ := hl_ifS hf
      refine g_iast C0 (ws' := [(p0, .inr (4, [.ref p1, .ref p2, .ref p3, .ref p4, .int pl, .int r3.2, .int pn])), (p1, .inl (cC, 60, .inl pS)), (p2, .inl (cI, 60, .inl (upd pV (pn.toNatClampNeg) r3.1))), (p3, .inl (cI, 60, .inl (upd pO (pn.toNatClampNeg) (-1 : Int32)))), (p4, .inl (cI, 60, .inl pW))]) 3 1 rfl rfl i5 rfl dX4_readCommand_42 rfl ?_
      refine g_aload_n C0 dX4_readCommand_43 rfl 1 rfl ?_
      refine g_get C0 hinX4 0 rfl rfl 3 (by decide) q_187 rfl dX4_readCommand_44 ?_
      refine g_aload_n C0 dX4_readCommand_47 rfl 1 rfl ?_
      refine g_get C0 hinX4 0 rfl rfl 6 (by decide) q_192 rfl dX4_readCommand_48 ?_
      refine g_iconst C0 (v := (0 : Int32)) dX4_readCommand_51 (by decide) ?_
      obtain ⟨i6, hf⟩ := hl_ifS hf
      refine g_iast C0 (ws' := [(p0, .inr (4, [.ref p1, .ref p2, .ref p3, .ref p4, .int pl, .int r3.2, .int pn])), (p1, .inl (cC, 60, .inl pS)), (p2, .inl (cI, 60, .inl (upd pV (pn.toNatClampNeg) r3.1))), (p3, .inl (cI, 60, .inl (upd pO (pn.toNatClampNeg) (-1 : Int32)))), (p4, .inl (cI, 60, .inl (upd pW (pn.toNatClampNeg) (0 : Int32))))]) 4 1 rfl rfl i6 rfl dX4_readCommand_52 rfl ?_
      refine g_iload_n C0 dX4_readCommand_53 rfl 0 rfl ?_
      refine g_iconst C0 (v := (-1 : Int32)) dX4_readCommand_54 (by decide) ?_
      refine g_icmp_eq C0 (tgt := 70) dX4_readCommand_55 (by decide) (fun c7 => ?_) (fun c7 => ?_)
      · rw [if_pos c7] at hf
        refine g_iconst C0 (v := (0 : Int32)) dX4_readCommand_70 (by decide) ?_
        refine g_istore_n C0 (lv' := [(2, .int (0 : Int32)), (1, .int r3.1), (0, .ref p0)]) dX4_readCommand_71 rfl (by decide) rfl ?_
        refine g_aload_n C0 dX4_readCommand_72 rfl 2 rfl ?_
        refine g_dup C0 dX4_readCommand_73 rfl ?_
        refine g_get C0 hinX4 0 rfl rfl 6 (by decide) q_192 rfl dX4_readCommand_74 ?_
        refine g_iconst C0 (v := (1 : Int32)) dX4_readCommand_77 (by decide) ?_
        refine g_iadd C0 dX4_readCommand_78 ?_
        refine g_put C0 (ws' := [(p0, .inr (4, [.ref p1, .ref p2, .ref p3, .ref p4, .int pl, .int r3.2, .int (pn + (1 : Int32))])), (p1, .inl (cC, 60, .inl pS)), (p2, .inl (cI, 60, .inl (upd pV (pn.toNatClampNeg) r3.1))), (p3, .inl (cI, 60, .inl (upd pO (pn.toNatClampNeg) (-1 : Int32)))), (p4, .inl (cI, 60, .inl (upd pW (pn.toNatClampNeg) (0 : Int32))))]) hinX4 0 rfl rfl 6 (by decide) q_192 tyX4_ok nmX4 rfl rfl rfl (Nat.le_of_ble_eq_true rfl) rfl dX4_readCommand_79 ?_
        refine g_iload_n C0 dX4_readCommand_82 rfl 0 rfl ?_
        cases hf
        exact g_iret C0 rfl dX4_readCommand_83 rfl rfl
      · rw [if_neg c7] at hf
        refine g_aload_n C0 dX4_readCommand_58 rfl 1 rfl ?_
        refine g_iload_n C0 dX4_readCommand_59 rfl 0 rfl ?_
        obtain ⟨r8, er8, hf⟩ := hl_bd hf
        try dsimp only at hf
        refine g_callVi C0 (ws' := [(p0, .inr (4, [.ref p1, .ref p2, .ref p3, .ref p4, .int pl, .int r8.2.1, .int pn])), (p1, .inl (cC, 60, .inl pS)), (p2, .inl (cI, 60, .inl (upd pV (pn.toNatClampNeg) r3.1))), (p3, .inl (cI, 60, .inl r8.2.2.1)), (p4, .inl (cI, 60, .inl r8.2.2.2))]) (mX4_readOperands l D cC cI cO  p0 p1 p2 p3 p4 pl r3.2 pn pS (upd pV (pn.toNatClampNeg) r3.1) (upd pO (pn.toNatClampNeg) (-1 : Int32)) (upd pW (pn.toNatClampNeg) (0 : Int32)) r3.1 r8 er8) hmX4_readOperands q_1020 ⟨Nat.le_of_ble_eq_true rfl, Nat.le_of_ble_eq_true rfl⟩ ⟨Nat.le_of_ble_eq_true rfl, Nat.le_of_ble_eq_true rfl⟩ rfl rfl [0, 1, 2, 3, 4] rfl rfl rfl rfl rfl 0 rfl rfl rfl (Nat.le_of_ble_eq_true rfl) dX4_readCommand_60 ?_
        refine g_if_eq C0 (tgt := 70) dX4_readCommand_63 (by decide) (fun c9 => ?_) (fun c9 => ?_)
        · rw [if_pos c9] at hf
          refine g_iconst C0 (v := (0 : Int32)) dX4_readCommand_70 (by decide) ?_
          refine g_istore_n C0 (lv' := [(2, .int (0 : Int32)), (1, .int r3.1), (0, .ref p0)]) dX4_readCommand_71 rfl (by decide) rfl ?_
          refine g_aload_n C0 dX4_readCommand_72 rfl 2 rfl ?_
          refine g_dup C0 dX4_readCommand_73 rfl ?_
          refine g_get C0 hinX4 0 rfl rfl 6 (by decide) q_192 rfl dX4_readCommand_74 ?_
          refine g_iconst C0 (v := (1 : Int32)) dX4_readCommand_77 (by decide) ?_
          refine g_iadd C0 dX4_readCommand_78 ?_
          refine g_put C0 (ws' := [(p0, .inr (4, [.ref p1, .ref p2, .ref p3, .ref p4, .int pl, .int r8.2.1, .int (pn + (1 : Int32))])), (p1, .inl (cC, 60, .inl pS)), (p2, .inl (cI, 60, .inl (upd pV (pn.toNatClampNeg) r3.1))), (p3, .inl (cI, 60, .inl r8.2.2.1)), (p4, .inl (cI, 60, .inl r8.2.2.2))]) hinX4 0 rfl rfl 6 (by decide) q_192 tyX4_ok nmX4 rfl rfl rfl (Nat.le_of_ble_eq_true rfl) rfl dX4_readCommand_79 ?_
          refine g_iload_n C0 dX4_readCommand_82 rfl 0 rfl ?_
          cases hf
          exact g_iret C0 rfl dX4_readCommand_83 rfl rfl
        · rw [if_neg c9] at hf
          refine g_iconst C0 (v := (1 : Int32)) dX4_readCommand_66 (by decide) ?_
          refine g_goto C0 (tgt := 71) dX4_readCommand_67 (by decide) ?_
          refine g_istore_n C0 (lv' := [(2, .int (1 : Int32)), (1, .int r3.1), (0, .ref p0)]) dX4_readCommand_71 rfl (by decide) rfl ?_
          refine g_aload_n C0 dX4_readCommand_72 rfl 2 rfl ?_
          refine g_dup C0 dX4_readCommand_73 rfl ?_
          refine g_get C0 hinX4 0 rfl rfl 6 (by decide) q_192 rfl dX4_readCommand_74 ?_
          refine g_iconst C0 (v := (1 : Int32)) dX4_readCommand_77 (by decide) ?_
          refine g_iadd C0 dX4_readCommand_78 ?_
          refine g_put C0 (ws' := [(p0, .inr (4, [.ref p1, .ref p2, .ref p3, .ref p4, .int pl, .int r8.2.1, .int (pn + (1 : Int32))])), (p1, .inl (cC, 60, .inl pS)), (p2, .inl (cI, 60, .inl (upd pV (pn.toNatClampNeg) r3.1))), (p3, .inl (cI, 60, .inl r8.2.2.1)), (p4, .inl (cI, 60, .inl r8.2.2.2))]) hinX4 0 rfl rfl 6 (by decide) q_192 tyX4_ok nmX4 rfl rfl rfl (Nat.le_of_ble_eq_true rfl) rfl dX4_readCommand_79 ?_
          refine g_iload_n C0 dX4_readCommand_82 rfl 0 rfl ?_
          cases hf
          exact g_iret C0 rfl dX4_readCommand_83 rfl rfl
    · rw [if_neg c2] at hf
      refine g_iconst C0 (v := (0 : Int32)) dX4_readCommand_16 (by decide) ?_
      cases hf
      exact g_iret C0 rfl dX4_readCommand_17 rfl rfl
theorem mX4_readCommand (l : Launch) (D : va_G) (cC cI cO : ClassId) (adK adV : Nat → Nat)  (p0 p1 p2 p3 p4 : Nat) (pl : Int32) (pp : Int32) (pn : Int32) (pS : Nat → Int32) (pV : Nat → Int32) (pO : Nat → Int32) (pW : Nat → Int32)  (out : Int32 × Int32 × Int32 × (Nat → Int32) × (Nat → Int32) × (Nat → Int32)) (hf : fX4_readCommand pl pp pn pS pV pO pW = some out) : ∀ sz, Met l yX4_readCommand (ws_ yX4_readCommand cX4_readCommand 3 (some .boolean)) rmX4_readCommand (va_Pc [.ref p0] (hPreE (hSt adK adV) D (hTy cC cI cO) [(p0, .inr (4, [.ref p1, .ref p2, .ref p3, .ref p4, .int pl, .int pp, .int pn])), (p1, .inl (cC, 60, .inl pS)), (p2, .inl (cI, 60, .inl pV)), (p3, .inl (cI, 60, .inl pO)), (p4, .inl (cI, 60, .inl pW))] sz)) (hQi D [(p0, .inr (4, [.ref p1, .ref p2, .ref p3, .ref p4, .int pl, .int out.2.1, .int out.2.2.1])), (p1, .inl (cC, 60, .inl pS)), (p2, .inl (cI, 60, .inl out.2.2.2.1)), (p3, .inl (cI, 60, .inl out.2.2.2.2.1)), (p4, .inl (cI, 60, .inl out.2.2.2.2.2))] out.1 (va_A [(p0, .inr (4, [.ref p1, .ref p2, .ref p3, .ref p4, .int pl, .int pp, .int pn])), (p1, .inl (cC, 60, .inl pS)), (p2, .inl (cI, 60, .inl pV)), (p3, .inl (cI, 60, .inl pO)), (p4, .inl (cI, 60, .inl pW))] sz)) 0 0 (va_A [(p0, .inr (4, [.ref p1, .ref p2, .ref p3, .ref p4, .int pl, .int pp, .int pn])), (p1, .inl (cC, 60, .inl pS)), (p2, .inl (cI, 60, .inl pV)), (p3, .inl (cI, 60, .inl pO)), (p4, .inl (cI, 60, .inl pW))] sz) :=
  g_metE (Qf := fun A => hQi D [(p0, .inr (4, [.ref p1, .ref p2, .ref p3, .ref p4, .int pl, .int out.2.1, .int out.2.2.1])), (p1, .inl (cC, 60, .inl pS)), (p2, .inl (cI, 60, .inl out.2.2.2.1)), (p3, .inl (cI, 60, .inl out.2.2.2.2.1)), (p4, .inl (cI, 60, .inl out.2.2.2.2.2))] out.1 A) (by decide +kernel) (Nat.le_of_ble_eq_true rfl) rfl (fun C0 E0 => bX4_readCommand C0 E0 p0 p1 p2 p3 p4 out pl pp pn pS pV pO pW  hf)
abbrev rmX4_parse : Room := { frames := 7, cells := 0, slots := 0, locals := 228 }
theorem hmX4_parse : hMV yX4_parse cX4_parse 2 (some .boolean) 0 := ⟨q_944, q_69, q_942, q_943, by decide, by decide, by decide +kernel⟩
theorem dX4_parse_0 : decode cX4_parse 0 = .ok (.aload_n 0, 1) := by decide +kernel
theorem dX4_parse_1 : decode cX4_parse 1 = .ok (.iconst 0, 1) := by decide +kernel
theorem dX4_parse_2 : decode cX4_parse 2 = .ok (.putfield 33, 3) := by decide +kernel
theorem dX4_parse_5 : decode cX4_parse 5 = .ok (.aload_n 0, 1) := by decide +kernel
theorem dX4_parse_6 : decode cX4_parse 6 = .ok (.iconst 0, 1) := by decide +kernel
theorem dX4_parse_7 : decode cX4_parse 7 = .ok (.putfield 36, 3) := by decide +kernel
theorem dX4_parse_10 : decode cX4_parse 10 = .ok (.iconst 0, 1) := by decide +kernel
theorem dX4_parse_11 : decode cX4_parse 11 = .ok (.istore_n 1, 1) := by decide +kernel
theorem dX4_parse_12 : decode cX4_parse 12 = .ok (.iload_n 1, 1) := by decide +kernel
theorem dX4_parse_13 : decode cX4_parse 13 = .ok (.bipush 60, 2) := by decide +kernel
theorem dX4_parse_15 : decode cX4_parse 15 = .ok (.if_icmp .ge 42, 3) := by decide +kernel
theorem dX4_parse_18 : decode cX4_parse 18 = .ok (.aload_n 0, 1) := by decide +kernel
theorem dX4_parse_19 : decode cX4_parse 19 = .ok (.invokevirtual 39, 3) := by decide +kernel
theorem dX4_parse_22 : decode cX4_parse 22 = .ok (.ifCond .ne 5, 3) := by decide +kernel
theorem dX4_parse_25 : decode cX4_parse 25 = .ok (.iconst 0, 1) := by decide +kernel
theorem dX4_parse_26 : decode cX4_parse 26 = .ok (.ireturn, 1) := by decide +kernel
theorem dX4_parse_27 : decode cX4_parse 27 = .ok (.aload_n 0, 1) := by decide +kernel
theorem dX4_parse_28 : decode cX4_parse 28 = .ok (.getfield 33, 3) := by decide +kernel
theorem dX4_parse_31 : decode cX4_parse 31 = .ok (.aload_n 0, 1) := by decide +kernel
theorem dX4_parse_32 : decode cX4_parse 32 = .ok (.getfield 25, 3) := by decide +kernel
theorem dX4_parse_35 : decode cX4_parse 35 = .ok (.if_icmp .lt 5, 3) := by decide +kernel
theorem dX4_parse_38 : decode cX4_parse 38 = .ok (.iconst 1, 1) := by decide +kernel
theorem dX4_parse_39 : decode cX4_parse 39 = .ok (.ireturn, 1) := by decide +kernel
theorem dX4_parse_40 : decode cX4_parse 40 = .ok (.aload_n 0, 1) := by decide +kernel
theorem dX4_parse_41 : decode cX4_parse 41 = .ok (.bipush 59, 2) := by decide +kernel
theorem dX4_parse_43 : decode cX4_parse 43 = .ok (.invokevirtual 43, 3) := by decide +kernel
theorem dX4_parse_46 : decode cX4_parse 46 = .ok (.ifCond .ne 5, 3) := by decide +kernel
theorem dX4_parse_49 : decode cX4_parse 49 = .ok (.iconst 0, 1) := by decide +kernel
theorem dX4_parse_50 : decode cX4_parse 50 = .ok (.ireturn, 1) := by decide +kernel
theorem dX4_parse_51 : decode cX4_parse 51 = .ok (.iinc 1 1, 3) := by decide +kernel
theorem dX4_parse_54 : decode cX4_parse 54 = .ok (.goto (-42), 3) := by decide +kernel
theorem dX4_parse_57 : decode cX4_parse 57 = .ok (.iconst 0, 1) := by decide +kernel
theorem dX4_parse_58 : decode cX4_parse 58 = .ok (.ireturn, 1) := by decide +kernel
set_option maxHeartbeats 4000000 in
set_option maxRecDepth 100000 in
theorem bX4_parse_12 {p : Program} {l : Launch} {e : Env} {s : State} {m : MethodId} {args : Array Value} {below : List Frame} {meth : Method} {c : Code} {D : va_G} {cC cI cO : ClassId} {A : Nat → Prop} {adK adV : Nat → Nat} (C0 : gC RX4 cX4_parse 2 (some .boolean) p s m args meth c D (hTy cC cI cO) A) (E0 : hSt adK adV A s) (p0 p1 p2 p3 p4 : Nat) (out : Int32 × Int32 × Int32 × (Nat → Int32) × (Nat → Int32) × (Nat → Int32))    : ∀ (n : Nat) (pl : Int32) (pp : Int32) (pn : Int32) (pS : Nat → Int32) (pV : Nat → Int32) (pO : Nat → Int32) (pW : Nat → Int32) (v1 : Int32), fX4_parse_12 n pl pp pn pS pV pO pW v1 = some out → gG p l e rmX4_parse s m args below meth c D A 2 (MQ below (hQi D [(p0, .inr (4, [.ref p1, .ref p2, .ref p3, .ref p4, .int pl, .int out.2.1, .int out.2.2.1])), (p1, .inl (cC, 60, .inl pS)), (p2, .inl (cI, 60, .inl out.2.2.2.1)), (p3, .inl (cI, 60, .inl out.2.2.2.2.1)), (p4, .inl (cI, 60, .inl out.2.2.2.2.2))] out.1 A) args s 0 0 A) 0 0 12 [(0, .ref p0), (1, .int v1)] [] [(p0, .inr (4, [.ref p1, .ref p2, .ref p3, .ref p4, .int pl, .int pp, .int pn])), (p1, .inl (cC, 60, .inl pS)), (p2, .inl (cI, 60, .inl pV)), (p3, .inl (cI, 60, .inl pO)), (p4, .inl (cI, 60, .inl pW))] := by
  intro n
  induction n with
  | zero => intro pl pp pn pS pV pO pW v1 hf; rw [fX4_parse_12] at hf; cases hf
  | succ n ih =>
    intro pl pp pn pS pV pO pW v1 hf
    rw [fX4_parse_12] at hf
    refine g_iload_n C0 dX4_parse_12 rfl 1 rfl ?_
    refine g_bipush C0 (v := (60 : Int32)) dX4_parse_13 (by decide) ?_
    refine g_icmp_ge C0 (tgt := 57) dX4_parse_15 (by decide) (fun c1 => ?_) (fun c1 => ?_)
    · rw [if_pos c1] at hf
      refine g_iconst C0 (v := (0 : Int32)) dX4_parse_57 (by decide) ?_
      cases hf
      exact g_iret C0 rfl dX4_parse_58 rfl rfl
    · rw [if_neg c1] at hf
      refine g_aload_n C0 dX4_parse_18 rfl 0 rfl ?_
      obtain ⟨r2, er2, hf⟩ := hl_bd hf
      try dsimp only at hf
      refine g_callEVi C0 (hSt_ok adK adV) E0 (ws' := [(p0, .inr (4, [.ref p1, .ref p2, .ref p3, .ref p4, .int pl, .int r2.2.1, .int r2.2.2.1])), (p1, .inl (cC, 60, .inl pS)), (p2, .inl (cI, 60, .inl r2.2.2.2.1)), (p3, .inl (cI, 60, .inl r2.2.2.2.2.1)), (p4, .inl (cI, 60, .inl r2.2.2.2.2.2))]) (mX4_readCommand l D cC cI cO adK adV  p0 p1 p2 p3 p4 pl pp pn pS pV pO pW  r2 er2) hmX4_readCommand q_945 ⟨Nat.le_of_ble_eq_true rfl, Nat.le_of_ble_eq_true rfl⟩ ⟨Nat.le_of_ble_eq_true rfl, Nat.le_of_ble_eq_true rfl⟩ rfl rfl [0, 1, 2, 3, 4] rfl rfl rfl rfl rfl 0 rfl rfl rfl (Nat.le_of_ble_eq_true rfl) dX4_parse_19 ?_
      refine g_if_ne C0 (tgt := 27) dX4_parse_22 (by decide) (fun c3 => ?_) (fun c3 => ?_)
      · rw [if_neg c3] at hf
        refine g_aload_n C0 dX4_parse_27 rfl 0 rfl ?_
        refine g_get C0 hinX4 0 rfl rfl 5 (by decide) q_190 rfl dX4_parse_28 ?_
        refine g_aload_n C0 dX4_parse_31 rfl 0 rfl ?_
        refine g_get C0 hinX4 0 rfl rfl 4 (by decide) q_188 rfl dX4_parse_32 ?_
        refine g_icmp_lt C0 (tgt := 40) dX4_parse_35 (by decide) (fun c4 => ?_) (fun c4 => ?_)
        · rw [if_pos c4] at hf
          refine g_aload_n C0 dX4_parse_40 rfl 0 rfl ?_
          refine g_bipush C0 (v := (59 : Int32)) dX4_parse_41 (by decide) ?_
          obtain ⟨r5, er5, hf⟩ := hl_bd hf
          try dsimp only at hf
          refine g_callVi C0 (ws' := [(p0, .inr (4, [.ref p1, .ref p2, .ref p3, .ref p4, .int pl, .int r5.2, .int r2.2.2.1])), (p1, .inl (cC, 60, .inl pS)), (p2, .inl (cI, 60, .inl r2.2.2.2.1)), (p3, .inl (cI, 60, .inl r2.2.2.2.2.1)), (p4, .inl (cI, 60, .inl r2.2.2.2.2.2))]) (mX4_readSign l D cC cI cO  p0 p1 p2 p3 p4 pl r2.2.1 r2.2.2.1 pS r2.2.2.2.1 r2.2.2.2.2.1 r2.2.2.2.2.2 (59 : Int32) r5 er5) hmX4_readSign q_1035 ⟨Nat.le_of_ble_eq_true rfl, Nat.le_of_ble_eq_true rfl⟩ ⟨Nat.le_of_ble_eq_true rfl, Nat.le_of_ble_eq_true rfl⟩ rfl rfl [0, 1, 2, 3, 4] rfl rfl rfl rfl rfl 0 rfl rfl rfl (Nat.le_of_ble_eq_true rfl) dX4_parse_43 ?_
          refine g_if_ne C0 (tgt := 51) dX4_parse_46 (by decide) (fun c6 => ?_) (fun c6 => ?_)
          · rw [if_neg c6] at hf
            refine g_iinc C0 (lv' := [(1, .int (v1 + (1 : Int32))), (0, .ref p0)]) dX4_parse_51 1 rfl rfl (by decide) rfl ?_
            refine g_goto C0 (tgt := 12) dX4_parse_54 (by decide) ?_
            refine g_lv [1, 0] (lv' := [(0, .ref p0), (1, .int (v1 + (1 : Int32)))]) rfl ?_
            exact ih pl r5.2 r2.2.2.1 pS r2.2.2.2.1 r2.2.2.2.2.1 r2.2.2.2.2.2 (v1 + (1 : Int32)) hf
          · rw [if_pos c6] at hf
            refine g_iconst C0 (v := (0 : Int32)) dX4_parse_49 (by decide) ?_
            cases hf
            exact g_iret C0 rfl dX4_parse_50 rfl rfl
        · rw [if_neg c4] at hf
          refine g_iconst C0 (v := (1 : Int32)) dX4_parse_38 (by decide) ?_
          cases hf
          exact g_iret C0 rfl dX4_parse_39 rfl rfl
      · rw [if_pos c3] at hf
        refine g_iconst C0 (v := (0 : Int32)) dX4_parse_25 (by decide) ?_
        cases hf
        exact g_iret C0 rfl dX4_parse_26 rfl rfl
set_option maxHeartbeats 4000000 in
set_option maxRecDepth 100000 in
theorem bX4_parse {p : Program} {l : Launch} {e : Env} {s : State} {m : MethodId} {args : Array Value} {below : List Frame} {meth : Method} {c : Code} {D : va_G} {cC cI cO : ClassId} {A : Nat → Prop} {adK adV : Nat → Nat} (C0 : gC RX4 cX4_parse 2 (some .boolean) p s m args meth c D (hTy cC cI cO) A) (E0 : hSt adK adV A s) (p0 p1 p2 p3 p4 : Nat) (out : Int32 × Int32 × Int32 × (Nat → Int32) × (Nat → Int32) × (Nat → Int32)) (pl : Int32) (pp : Int32) (pn : Int32) (pS : Nat → Int32) (pV : Nat → Int32) (pO : Nat → Int32) (pW : Nat → Int32)  (hf : fX4_parse pl pp pn pS pV pO pW = some out) : gG p l e rmX4_parse s m args below meth c D A 2 (MQ below (hQi D [(p0, .inr (4, [.ref p1, .ref p2, .ref p3, .ref p4, .int pl, .int out.2.1, .int out.2.2.1])), (p1, .inl (cC, 60, .inl pS)), (p2, .inl (cI, 60, .inl out.2.2.2.1)), (p3, .inl (cI, 60, .inl out.2.2.2.2.1)), (p4, .inl (cI, 60, .inl out.2.2.2.2.2))] out.1 A) args s 0 0 A) 0 0 0 [(0, .ref p0)] [] [(p0, .inr (4, [.ref p1, .ref p2, .ref p3, .ref p4, .int pl, .int pp, .int pn])), (p1, .inl (cC, 60, .inl pS)), (p2, .inl (cI, 60, .inl pV)), (p3, .inl (cI, 60, .inl pO)), (p4, .inl (cI, 60, .inl pW))] := by
  unfold fX4_parse at hf
  refine g_aload_n C0 dX4_parse_0 rfl 0 rfl ?_
  refine g_iconst C0 (v := (0 : Int32)) dX4_parse_1 (by decide) ?_
  refine g_put C0 (ws' := [(p0, .inr (4, [.ref p1, .ref p2, .ref p3, .ref p4, .int pl, .int (0 : Int32), .int pn])), (p1, .inl (cC, 60, .inl pS)), (p2, .inl (cI, 60, .inl pV)), (p3, .inl (cI, 60, .inl pO)), (p4, .inl (cI, 60, .inl pW))]) hinX4 0 rfl rfl 5 (by decide) q_190 tyX4_ok nmX4 rfl rfl rfl (Nat.le_of_ble_eq_true rfl) rfl dX4_parse_2 ?_
  refine g_aload_n C0 dX4_parse_5 rfl 0 rfl ?_
  refine g_iconst C0 (v := (0 : Int32)) dX4_parse_6 (by decide) ?_
  refine g_put C0 (ws' := [(p0, .inr (4, [.ref p1, .ref p2, .ref p3, .ref p4, .int pl, .int (0 : Int32), .int (0 : Int32)])), (p1, .inl (cC, 60, .inl pS)), (p2, .inl (cI, 60, .inl pV)), (p3, .inl (cI, 60, .inl pO)), (p4, .inl (cI, 60, .inl pW))]) hinX4 0 rfl rfl 6 (by decide) q_192 tyX4_ok nmX4 rfl rfl rfl (Nat.le_of_ble_eq_true rfl) rfl dX4_parse_7 ?_
  refine g_iconst C0 (v := (0 : Int32)) dX4_parse_10 (by decide) ?_
  refine g_istore_n C0 (lv' := [(1, .int (0 : Int32)), (0, .ref p0)]) dX4_parse_11 rfl (by decide) rfl ?_
  refine g_lv [1, 0] (lv' := [(0, .ref p0), (1, .int (0 : Int32))]) rfl ?_
  exact bX4_parse_12 C0 E0 p0 p1 p2 p3 p4 out   1000 pl (0 : Int32) (0 : Int32) pS pV pO pW (0 : Int32) hf
theorem mX4_parse (l : Launch) (D : va_G) (cC cI cO : ClassId) (adK adV : Nat → Nat)  (p0 p1 p2 p3 p4 : Nat) (pl : Int32) (pp : Int32) (pn : Int32) (pS : Nat → Int32) (pV : Nat → Int32) (pO : Nat → Int32) (pW : Nat → Int32)  (out : Int32 × Int32 × Int32 × (Nat → Int32) × (Nat → Int32) × (Nat → Int32)) (hf : fX4_parse pl pp pn pS pV pO pW = some out) : ∀ sz, Met l yX4_parse (ws_ yX4_parse cX4_parse 2 (some .boolean)) rmX4_parse (va_Pc [.ref p0] (hPreE (hSt adK adV) D (hTy cC cI cO) [(p0, .inr (4, [.ref p1, .ref p2, .ref p3, .ref p4, .int pl, .int pp, .int pn])), (p1, .inl (cC, 60, .inl pS)), (p2, .inl (cI, 60, .inl pV)), (p3, .inl (cI, 60, .inl pO)), (p4, .inl (cI, 60, .inl pW))] sz)) (hQi D [(p0, .inr (4, [.ref p1, .ref p2, .ref p3, .ref p4, .int pl, .int out.2.1, .int out.2.2.1])), (p1, .inl (cC, 60, .inl pS)), (p2, .inl (cI, 60, .inl out.2.2.2.1)), (p3, .inl (cI, 60, .inl out.2.2.2.2.1)), (p4, .inl (cI, 60, .inl out.2.2.2.2.2))] out.1 (va_A [(p0, .inr (4, [.ref p1, .ref p2, .ref p3, .ref p4, .int pl, .int pp, .int pn])), (p1, .inl (cC, 60, .inl pS)), (p2, .inl (cI, 60, .inl pV)), (p3, .inl (cI, 60, .inl pO)), (p4, .inl (cI, 60, .inl pW))] sz)) 0 0 (va_A [(p0, .inr (4, [.ref p1, .ref p2, .ref p3, .ref p4, .int pl, .int pp, .int pn])), (p1, .inl (cC, 60, .inl pS)), (p2, .inl (cI, 60, .inl pV)), (p3, .inl (cI, 60, .inl pO)), (p4, .inl (cI, 60, .inl pW))] sz) :=
  g_metE (Qf := fun A => hQi D [(p0, .inr (4, [.ref p1, .ref p2, .ref p3, .ref p4, .int pl, .int out.2.1, .int out.2.2.1])), (p1, .inl (cC, 60, .inl pS)), (p2, .inl (cI, 60, .inl out.2.2.2.1)), (p3, .inl (cI, 60, .inl out.2.2.2.2.1)), (p4, .inl (cI, 60, .inl out.2.2.2.2.2))] out.1 A) (by decide +kernel) (Nat.le_of_ble_eq_true rfl) rfl (fun C0 E0 => bX4_parse C0 E0 p0 p1 p2 p3 p4 out pl pp pn pS pV pO pW  hf)
abbrev rmX6_run : Room := { frames := 8, cells := 1, slots := 6, locals := 267 }
theorem hmX6_run : hMV yX6_run cX6_run 3 (some .int) 0 := ⟨q_940, q_65, q_938, q_939, by decide, by decide, by decide +kernel⟩
theorem dX6_run_0 : decode cX6_run 0 = .ok (.aload_n 0, 1) := by decide +kernel
theorem dX6_run_1 : decode cX6_run 1 = .ok (.getfield 35, 3) := by decide +kernel
theorem dX6_run_4 : decode cX6_run 4 = .ok (.invokevirtual 281, 3) := by decide +kernel
theorem dX6_run_7 : decode cX6_run 7 = .ok (.istore_n 1, 1) := by decide +kernel
theorem dX6_run_8 : decode cX6_run 8 = .ok (.aload_n 0, 1) := by decide +kernel
theorem dX6_run_9 : decode cX6_run 9 = .ok (.getfield 35, 3) := by decide +kernel
theorem dX6_run_12 : decode cX6_run 12 = .ok (.iconst 0, 1) := by decide +kernel
theorem dX6_run_13 : decode cX6_run 13 = .ok (.putfield 277, 3) := by decide +kernel
theorem dX6_run_16 : decode cX6_run 16 = .ok (.iload_n 1, 1) := by decide +kernel
theorem dX6_run_17 : decode cX6_run 17 = .ok (.ifCond .ne 25, 3) := by decide +kernel
theorem dX6_run_20 : decode cX6_run 20 = .ok (.aload_n 0, 1) := by decide +kernel
theorem dX6_run_21 : decode cX6_run 21 = .ok (.aload_n 0, 1) := by decide +kernel
theorem dX6_run_22 : decode cX6_run 22 = .ok (.getfield 35, 3) := by decide +kernel
theorem dX6_run_25 : decode cX6_run 25 = .ok (.getfield 284, 3) := by decide +kernel
theorem dX6_run_28 : decode cX6_run 28 = .ok (.putfield 50, 3) := by decide +kernel
theorem dX6_run_31 : decode cX6_run 31 = .ok (.new 64, 3) := by decide +kernel
theorem dX6_run_34 : decode cX6_run 34 = .ok (.dup, 1) := by decide +kernel
theorem dX6_run_35 : decode cX6_run 35 = .ok (.ldc_w 287, 3) := by decide +kernel
theorem dX6_run_38 : decode cX6_run 38 = .ok (.invokespecial 68, 3) := by decide +kernel
theorem dX6_run_41 : decode cX6_run 41 = .ok (.athrow, 1) := by decide +kernel
theorem dX6_run_42 : decode cX6_run 42 = .ok (.aload_n 0, 1) := by decide +kernel
theorem dX6_run_43 : decode cX6_run 43 = .ok (.getfield 19, 3) := by decide +kernel
theorem dX6_run_46 : decode cX6_run 46 = .ok (.aload_n 0, 1) := by decide +kernel
theorem dX6_run_47 : decode cX6_run 47 = .ok (.getfield 10, 3) := by decide +kernel
theorem dX6_run_50 : decode cX6_run 50 = .ok (.invokevirtual 289, 3) := by decide +kernel
theorem dX6_run_53 : decode cX6_run 53 = .ok (.iconst 0, 1) := by decide +kernel
theorem dX6_run_54 : decode cX6_run 54 = .ok (.istore_n 2, 1) := by decide +kernel
theorem dX6_run_55 : decode cX6_run 55 = .ok (.iload_n 2, 1) := by decide +kernel
theorem dX6_run_56 : decode cX6_run 56 = .ok (.aload_n 0, 1) := by decide +kernel
theorem dX6_run_57 : decode cX6_run 57 = .ok (.getfield 35, 3) := by decide +kernel
theorem dX6_run_60 : decode cX6_run 60 = .ok (.getfield 292, 3) := by decide +kernel
theorem dX6_run_63 : decode cX6_run 63 = .ok (.if_icmp .ge 17, 3) := by decide +kernel
theorem dX6_run_66 : decode cX6_run 66 = .ok (.aload_n 0, 1) := by decide +kernel
theorem dX6_run_67 : decode cX6_run 67 = .ok (.iload_n 2, 1) := by decide +kernel
theorem dX6_run_68 : decode cX6_run 68 = .ok (.invokevirtual 295, 3) := by decide +kernel
theorem dX6_run_71 : decode cX6_run 71 = .ok (.ifCond .eq 9, 3) := by decide +kernel
theorem dX6_run_74 : decode cX6_run 74 = .ok (.iinc 2 1, 3) := by decide +kernel
theorem dX6_run_77 : decode cX6_run 77 = .ok (.goto (-22), 3) := by decide +kernel
theorem dX6_run_80 : decode cX6_run 80 = .ok (.iload_n 2, 1) := by decide +kernel
theorem dX6_run_81 : decode cX6_run 81 = .ok (.aload_n 0, 1) := by decide +kernel
theorem dX6_run_82 : decode cX6_run 82 = .ok (.getfield 35, 3) := by decide +kernel
theorem dX6_run_85 : decode cX6_run 85 = .ok (.getfield 292, 3) := by decide +kernel
theorem dX6_run_88 : decode cX6_run 88 = .ok (.if_icmp .ge 30, 3) := by decide +kernel
theorem dX6_run_91 : decode cX6_run 91 = .ok (.aload_n 0, 1) := by decide +kernel
theorem dX6_run_92 : decode cX6_run 92 = .ok (.getfield 10, 3) := by decide +kernel
theorem dX6_run_95 : decode cX6_run 95 = .ok (.aload_n 0, 1) := by decide +kernel
theorem dX6_run_96 : decode cX6_run 96 = .ok (.getfield 19, 3) := by decide +kernel
theorem dX6_run_99 : decode cX6_run 99 = .ok (.invokevirtual 289, 3) := by decide +kernel
theorem dX6_run_102 : decode cX6_run 102 = .ok (.aload_n 0, 1) := by decide +kernel
theorem dX6_run_103 : decode cX6_run 103 = .ok (.iload_n 2, 1) := by decide +kernel
theorem dX6_run_104 : decode cX6_run 104 = .ok (.putfield 54, 3) := by decide +kernel
theorem dX6_run_107 : decode cX6_run 107 = .ok (.new 298, 3) := by decide +kernel
theorem dX6_run_110 : decode cX6_run 110 = .ok (.dup, 1) := by decide +kernel
theorem dX6_run_111 : decode cX6_run 111 = .ok (.ldc_w 300, 3) := by decide +kernel
theorem dX6_run_114 : decode cX6_run 114 = .ok (.invokespecial 302, 3) := by decide +kernel
theorem dX6_run_117 : decode cX6_run 117 = .ok (.athrow, 1) := by decide +kernel
theorem dX6_run_118 : decode cX6_run 118 = .ok (.aload_n 0, 1) := by decide +kernel
theorem dX6_run_119 : decode cX6_run 119 = .ok (.getfield 28, 3) := by decide +kernel
theorem dX6_run_122 : decode cX6_run 122 = .ok (.aload_n 0, 1) := by decide +kernel
theorem dX6_run_123 : decode cX6_run 123 = .ok (.getfield 19, 3) := by decide +kernel
theorem dX6_run_126 : decode cX6_run 126 = .ok (.invokevirtual 84, 3) := by decide +kernel
theorem dX6_run_129 : decode cX6_run 129 = .ok (.iload_n 2, 1) := by decide +kernel
theorem dX6_run_130 : decode cX6_run 130 = .ok (.ireturn, 1) := by decide +kernel
set_option maxHeartbeats 4000000 in
set_option maxRecDepth 100000 in
theorem bX6_run_80 {p : Program} {l : Launch} {e : Env} {s : State} {m : MethodId} {args : Array Value} {below : List Frame} {meth : Method} {c : Code} {D : va_G} {cC cI cO : ClassId} {A : Nat → Prop} {adK adV : Nat → Nat} (C0 : gC RX6 cX6_run 3 (some .int) p s m args meth c D (hTy cC cI cO) A) (E0 : hSt adK adV A s) (Z0 : hZ A s) (hl0 : l.stackTraces = false) (T0 : ∀ x ∈ c.exceptionTable.toList, False) (L0 h0 h1 h2 h3 h4 e0 e1 e2 e3 e4 b0 b1 b2 b3 b4 w0 w1 w2 w3 w4 q0 q1 p0 p1 p2 p3 p4 l0 l1 : Nat) (hb : Nat → Nat → Nat) (out : (Int32 ⊕ Nat) × Int32 × Int32 × Int32 × Int32 × Int32 × Int32 × Int32 × Int32 × Int32 × Int32 × (Nat → Int32) × (Nat → Int32) × (Nat → Int32) × (Nat → Int32) × Int32 × Int32 × Int32 × Int32 × Int32 × Int32 × Int32 × Int32 × (Nat → Int32) × (Nat → Int32) × Int32 × Int32 × Int32 × Int32 × Int32 × (Nat → Int32) × (Nat → Int32) × (Nat → Int32) × (Nat → hTT)) (isv : Int32) (ecp : Int32) (ekd : Int32) (esd : Int32) (elm : Int32) (efu : Int32) (etb : Int32) (erb : Int32) (egr : Int32) (eK : Nat → Int32) (eV : Nat → Int32) (eO : Nat → Int32) (eW : Nat → Int32) (bO : Nat → Int32) (bW : Nat → Int32) (wcp : Int32) (wkd : Int32) (wsd : Int32) (wlm : Int32) (wfu : Int32) (wtb : Int32) (wrb : Int32) (wgr : Int32) (wK : Nat → Int32) (wV : Nat → Int32) (wO : Nat → Int32) (wW : Nat → Int32) (ln : Int32) (lS : Nat → Int32)   : ∀ (rpo : Int32) (rco : Int32) (tcp : Int32) (tkd : Int32) (tsd : Int32) (tlm : Int32) (tfu : Int32) (ttb : Int32) (trb : Int32) (tgr : Int32) (tK : Nat → Int32) (tV : Nat → Int32) (tO : Nat → Int32) (tW : Nat → Int32) (bcp : Int32) (bkd : Int32) (bsd : Int32) (blm : Int32) (bfu : Int32) (btb : Int32) (brb : Int32) (bgr : Int32) (bK : Nat → Int32) (bV : Nat → Int32) (hnw : Int32) (hct : Int32) (pl : Int32) (pp : Int32) (pn : Int32) (pS : Nat → Int32) (pV : Nat → Int32) (pO : Nat → Int32) (pW : Nat → Int32) (hp : Nat → hTT) (v2 : Int32), fX6_run_80 rpo rco tcp tkd tsd tlm tfu ttb trb tgr tK tV tO tW bcp bkd bsd blm bfu btb brb bgr bK bV hnw hct pl pp pn pS pV pO pW hp v2 = some out → gG p l e rmX6_run s m args below meth c D A 3 (vx_MQ below (hXi D (labW cC cI cO L0 h0 h1 h2 h3 h4 e0 e1 e2 e3 e4 b0 b1 b2 b3 b4 w0 w1 w2 w3 w4 q0 q1 p0 p1 p2 p3 p4 l0 l1 hb isv out.2.1 out.2.2.1 out.2.2.2.1 out.2.2.2.2.1 out.2.2.2.2.2.1 out.2.2.2.2.2.2.1 out.2.2.2.2.2.2.2.1 out.2.2.2.2.2.2.2.2.1 out.2.2.2.2.2.2.2.2.2.1 out.2.2.2.2.2.2.2.2.2.2.1 out.2.2.2.2.2.2.2.2.2.2.2.1 out.2.2.2.2.2.2.2.2.2.2.2.2.1 out.2.2.2.2.2.2.2.2.2.2.2.2.2.1 out.2.2.2.2.2.2.2.2.2.2.2.2.2.2.1 ecp ekd esd elm efu etb erb egr eK eV eO eW out.2.2.2.2.2.2.2.2.2.2.2.2.2.2.2.1 out.2.2.2.2.2.2.2.2.2.2.2.2.2.2.2.2.1 out.2.2.2.2.2.2.2.2.2.2.2.2.2.2.2.2.2.1 out.2.2.2.2.2.2.2.2.2.2.2.2.2.2.2.2.2.2.1 out.2.2.2.2.2.2.2.2.2.2.2.2.2.2.2.2.2.2.2.1 out.2.2.2.2.2.2.2.2.2.2.2.2.2.2.2.2.2.2.2.2.1 out.2.2.2.2.2.2.2.2.2.2.2.2.2.2.2.2.2.2.2.2.2.1 out.2.2.2.2.2.2.2.2.2.2.2.2.2.2.2.2.2.2.2.2.2.2.1 out.2.2.2.2.2.2.2.2.2.2.2.2.2.2.2.2.2.2.2.2.2.2.2.1 out.2.2.2.2.2.2.2.2.2.2.2.2.2.2.2.2.2.2.2.2.2.2.2.2.1 bO bW wcp wkd wsd wlm wfu wtb wrb wgr wK wV wO wW out.2.2.2.2.2.2.2.2.2.2.2.2.2.2.2.2.2.2.2.2.2.2.2.2.2.1 out.2.2.2.2.2.2.2.2.2.2.2.2.2.2.2.2.2.2.2.2.2.2.2.2.2.2.1 out.2.2.2.2.2.2.2.2.2.2.2.2.2.2.2.2.2.2.2.2.2.2.2.2.2.2.2.1 out.2.2.2.2.2.2.2.2.2.2.2.2.2.2.2.2.2.2.2.2.2.2.2.2.2.2.2.2.1 out.2.2.2.2.2.2.2.2.2.2.2.2.2.2.2.2.2.2.2.2.2.2.2.2.2.2.2.2.2.1 pS out.2.2.2.2.2.2.2.2.2.2.2.2.2.2.2.2.2.2.2.2.2.2.2.2.2.2.2.2.2.2.1 out.2.2.2.2.2.2.2.2.2.2.2.2.2.2.2.2.2.2.2.2.2.2.2.2.2.2.2.2.2.2.2.1 out.2.2.2.2.2.2.2.2.2.2.2.2.2.2.2.2.2.2.2.2.2.2.2.2.2.2.2.2.2.2.2.2.1 ln lS out.2.2.2.2.2.2.2.2.2.2.2.2.2.2.2.2.2.2.2.2.2.2.2.2.2.2.2.2.2.2.2.2.2) out.1 A) (hXX D (labW cC cI cO L0 h0 h1 h2 h3 h4 e0 e1 e2 e3 e4 b0 b1 b2 b3 b4 w0 w1 w2 w3 w4 q0 q1 p0 p1 p2 p3 p4 l0 l1 hb isv out.2.1 out.2.2.1 out.2.2.2.1 out.2.2.2.2.1 out.2.2.2.2.2.1 out.2.2.2.2.2.2.1 out.2.2.2.2.2.2.2.1 out.2.2.2.2.2.2.2.2.1 out.2.2.2.2.2.2.2.2.2.1 out.2.2.2.2.2.2.2.2.2.2.1 out.2.2.2.2.2.2.2.2.2.2.2.1 out.2.2.2.2.2.2.2.2.2.2.2.2.1 out.2.2.2.2.2.2.2.2.2.2.2.2.2.1 out.2.2.2.2.2.2.2.2.2.2.2.2.2.2.1 ecp ekd esd elm efu etb erb egr eK eV eO eW out.2.2.2.2.2.2.2.2.2.2.2.2.2.2.2.1 out.2.2.2.2.2.2.2.2.2.2.2.2.2.2.2.2.1 out.2.2.2.2.2.2.2.2.2.2.2.2.2.2.2.2.2.1 out.2.2.2.2.2.2.2.2.2.2.2.2.2.2.2.2.2.2.1 out.2.2.2.2.2.2.2.2.2.2.2.2.2.2.2.2.2.2.2.1 out.2.2.2.2.2.2.2.2.2.2.2.2.2.2.2.2.2.2.2.2.1 out.2.2.2.2.2.2.2.2.2.2.2.2.2.2.2.2.2.2.2.2.2.1 out.2.2.2.2.2.2.2.2.2.2.2.2.2.2.2.2.2.2.2.2.2.2.1 out.2.2.2.2.2.2.2.2.2.2.2.2.2.2.2.2.2.2.2.2.2.2.2.1 out.2.2.2.2.2.2.2.2.2.2.2.2.2.2.2.2.2.2.2.2.2.2.2.2.1 bO bW wcp wkd wsd wlm wfu wtb wrb wgr wK wV wO wW out.2.2.2.2.2.2.2.2.2.2.2.2.2.2.2.2.2.2.2.2.2.2.2.2.2.1 out.2.2.2.2.2.2.2.2.2.2.2.2.2.2.2.2.2.2.2.2.2.2.2.2.2.2.1 out.2.2.2.2.2.2.2.2.2.2.2.2.2.2.2.2.2.2.2.2.2.2.2.2.2.2.2.1 out.2.2.2.2.2.2.2.2.2.2.2.2.2.2.2.2.2.2.2.2.2.2.2.2.2.2.2.2.1 out.2.2.2.2.2.2.2.2.2.2.2.2.2.2.2.2.2.2.2.2.2.2.2.2.2.2.2.2.2.1 pS out.2.2.2.2.2.2.2.2.2.2.2.2.2.2.2.2.2.2.2.2.2.2.2.2.2.2.2.2.2.2.1 out.2.2.2.2.2.2.2.2.2.2.2.2.2.2.2.2.2.2.2.2.2.2.2.2.2.2.2.2.2.2.2.1 out.2.2.2.2.2.2.2.2.2.2.2.2.2.2.2.2.2.2.2.2.2.2.2.2.2.2.2.2.2.2.2.2.1 ln lS out.2.2.2.2.2.2.2.2.2.2.2.2.2.2.2.2.2.2.2.2.2.2.2.2.2.2.2.2.2.2.2.2.2) out.1 A) args s 1 6 A) 0 0 80 [(0, .ref L0), (2, .int v2)] [] (labW cC cI cO L0 h0 h1 h2 h3 h4 e0 e1 e2 e3 e4 b0 b1 b2 b3 b4 w0 w1 w2 w3 w4 q0 q1 p0 p1 p2 p3 p4 l0 l1 hb isv rpo rco tcp tkd tsd tlm tfu ttb trb tgr tK tV tO tW ecp ekd esd elm efu etb erb egr eK eV eO eW bcp bkd bsd blm bfu btb brb bgr bK bV bO bW wcp wkd wsd wlm wfu wtb wrb wgr wK wV wO wW hnw hct pl pp pn pS pV pO pW ln lS hp) := by
  intro rpo rco tcp tkd tsd tlm tfu ttb trb tgr tK tV tO tW bcp bkd bsd blm bfu btb brb bgr bK bV hnw hct pl pp pn pS pV pO pW hp v2 hf
  unfold fX6_run_80 at hf
  refine g_iload_n C0 dX6_run_80 rfl 1 rfl ?_
  refine g_aload_n C0 dX6_run_81 rfl 0 rfl ?_
  refine g_get C0 hinX6 0 rfl rfl 5 (by decide) q_229 rfl dX6_run_82 ?_
  refine g_getN C0 hinX4 23 rfl rfl 6 (by decide) q_193 rfl dX6_run_85 ?_
  refine g_icmp_ge C0 (tgt := 118) dX6_run_88 (by decide) (fun c7 => ?_) (fun c7 => ?_)
  · rw [if_pos c7] at hf
    refine g_aload_n C0 dX6_run_118 rfl 0 rfl ?_
    refine g_get C0 hinX6 0 rfl rfl 4 (by decide) q_228 rfl dX6_run_119 ?_
    refine g_aload_n C0 dX6_run_122 rfl 0 rfl ?_
    refine g_get C0 hinX6 0 rfl rfl 2 (by decide) q_226 rfl dX6_run_123 ?_
    obtain ⟨r8, er8, hf⟩ := hl_bd hf
    try dsimp only at hf
    refine g_callVvP C0 (st := []) (ws' := (labW cC cI cO L0 h0 h1 h2 h3 h4 e0 e1 e2 e3 e4 b0 b1 b2 b3 b4 w0 w1 w2 w3 w4 q0 q1 p0 p1 p2 p3 p4 l0 l1 hb isv rpo rco tcp tkd tsd tlm tfu ttb trb tgr tK tV tO tW ecp ekd esd elm efu etb erb egr eK eV eO eW bcp bkd bsd blm bfu btb brb bgr bK bV bO bW wcp wkd wsd wlm wfu wtb wrb wgr wK wV wO wW r8.1 r8.2.1 pl pp pn pS pV pO pW ln lS r8.2.2)) (mX2_record l D cC cI cO  q0 q1 b0 b1 b2 b3 b4 hb hnw hct bcp bkd bsd blm bfu btb brb bgr bK bV bO bW hp  r8 er8) hmX2_record q_259 ⟨Nat.le_of_ble_eq_true rfl, Nat.le_of_ble_eq_true rfl⟩ ⟨Nat.le_of_ble_eq_true rfl, Nat.le_of_ble_eq_true rfl⟩ rfl rfl rfl rfl rfl rfl [21, 22, 11, 12, 13, 14, 15] rfl rfl rfl (pastW_fst _ _ _ _) rfl rfl 0 rfl rfl rfl (Nat.le_of_ble_eq_true rfl) dX6_run_126 ?_
    refine g_iload_n C0 dX6_run_129 rfl 1 rfl ?_
    cases hf
    exact g_iretX C0 rfl dX6_run_130 rfl rfl
  · rw [if_neg c7] at hf
    refine g_aload_n C0 dX6_run_91 rfl 0 rfl ?_
    refine g_get C0 hinX6 0 rfl rfl 0 (by decide) q_224 rfl dX6_run_92 ?_
    refine g_aload_n C0 dX6_run_95 rfl 0 rfl ?_
    refine g_get C0 hinX6 0 rfl rfl 2 (by decide) q_226 rfl dX6_run_96 ?_
    obtain ⟨r9, er9, hf⟩ := hl_bd hf
    try dsimp only at hf
    refine g_callVv C0 (ws' := (labW cC cI cO L0 h0 h1 h2 h3 h4 e0 e1 e2 e3 e4 b0 b1 b2 b3 b4 w0 w1 w2 w3 w4 q0 q1 p0 p1 p2 p3 p4 l0 l1 hb isv rpo rco r9.1 r9.2.1 r9.2.2.1 r9.2.2.2.1 r9.2.2.2.2.1 r9.2.2.2.2.2.1 r9.2.2.2.2.2.2.1 r9.2.2.2.2.2.2.2.1 r9.2.2.2.2.2.2.2.2.1 r9.2.2.2.2.2.2.2.2.2 tO tW ecp ekd esd elm efu etb erb egr eK eV eO eW bcp bkd bsd blm bfu btb brb bgr bK bV bO bW wcp wkd wsd wlm wfu wtb wrb wgr wK wV wO wW hnw hct pl pp pn pS pV pO pW ln lS hp)) (mX5_copyFrom l D cC cI cO  h0 h1 h2 h3 h4 b0 b1 b2 b3 b4 tcp tkd tsd tlm tfu ttb trb tgr tK tV tO tW bcp bkd bsd blm bfu btb brb bgr bK bV bO bW  r9 er9) hmX5_copyFrom q_470 ⟨Nat.le_of_ble_eq_true rfl, Nat.le_of_ble_eq_true rfl⟩ ⟨Nat.le_of_ble_eq_true rfl, Nat.le_of_ble_eq_true rfl⟩ rfl rfl [1, 2, 3, 4, 5, 11, 12, 13, 14, 15] rfl rfl rfl rfl rfl 0 rfl rfl rfl (Nat.le_of_ble_eq_true rfl) dX6_run_99 ?_
    refine g_aload_n C0 dX6_run_102 rfl 0 rfl ?_
    refine g_iload_n C0 dX6_run_103 rfl 1 rfl ?_
    refine g_put C0 (ws' := (labW cC cI cO L0 h0 h1 h2 h3 h4 e0 e1 e2 e3 e4 b0 b1 b2 b3 b4 w0 w1 w2 w3 w4 q0 q1 p0 p1 p2 p3 p4 l0 l1 hb isv rpo v2 r9.1 r9.2.1 r9.2.2.1 r9.2.2.2.1 r9.2.2.2.2.1 r9.2.2.2.2.2.1 r9.2.2.2.2.2.2.1 r9.2.2.2.2.2.2.2.1 r9.2.2.2.2.2.2.2.2.1 r9.2.2.2.2.2.2.2.2.2 tO tW ecp ekd esd elm efu etb erb egr eK eV eO eW bcp bkd bsd blm bfu btb brb bgr bK bV bO bW wcp wkd wsd wlm wfu wtb wrb wgr wK wV wO wW hnw hct pl pp pn pS pV pO pW ln lS hp)) hinX6 0 rfl rfl 9 (by decide) q_233 tyX6_ok nmX6 rfl rfl rfl (Nat.le_of_ble_eq_true rfl) rfl dX6_run_104 ?_
    cases hf
    exact g_throwW (text := "a command failed") C0 Z0 hl0 T0 tw_6 (by decide +kernel) dX6_run_107 dX6_run_110 dX6_run_111 dX6_run_114 dX6_run_117 (Nat.le_of_ble_eq_true rfl) (Nat.le_of_ble_eq_true rfl) (Nat.le_of_ble_eq_true rfl) (Nat.le_of_ble_eq_true rfl) rfl rfl rfl
set_option maxHeartbeats 4000000 in
set_option maxRecDepth 100000 in
theorem bX6_run_55 {p : Program} {l : Launch} {e : Env} {s : State} {m : MethodId} {args : Array Value} {below : List Frame} {meth : Method} {c : Code} {D : va_G} {cC cI cO : ClassId} {A : Nat → Prop} {adK adV : Nat → Nat} (C0 : gC RX6 cX6_run 3 (some .int) p s m args meth c D (hTy cC cI cO) A) (E0 : hSt adK adV A s) (Z0 : hZ A s) (hl0 : l.stackTraces = false) (T0 : ∀ x ∈ c.exceptionTable.toList, False) (L0 h0 h1 h2 h3 h4 e0 e1 e2 e3 e4 b0 b1 b2 b3 b4 w0 w1 w2 w3 w4 q0 q1 p0 p1 p2 p3 p4 l0 l1 : Nat) (hb : Nat → Nat → Nat) (out : (Int32 ⊕ Nat) × Int32 × Int32 × Int32 × Int32 × Int32 × Int32 × Int32 × Int32 × Int32 × Int32 × (Nat → Int32) × (Nat → Int32) × (Nat → Int32) × (Nat → Int32) × Int32 × Int32 × Int32 × Int32 × Int32 × Int32 × Int32 × Int32 × (Nat → Int32) × (Nat → Int32) × Int32 × Int32 × Int32 × Int32 × Int32 × (Nat → Int32) × (Nat → Int32) × (Nat → Int32) × (Nat → hTT)) (isv : Int32) (ecp : Int32) (ekd : Int32) (esd : Int32) (elm : Int32) (efu : Int32) (etb : Int32) (erb : Int32) (egr : Int32) (eK : Nat → Int32) (eV : Nat → Int32) (eO : Nat → Int32) (eW : Nat → Int32) (bO : Nat → Int32) (bW : Nat → Int32) (wcp : Int32) (wkd : Int32) (wsd : Int32) (wlm : Int32) (wfu : Int32) (wtb : Int32) (wrb : Int32) (wgr : Int32) (wK : Nat → Int32) (wV : Nat → Int32) (wO : Nat → Int32) (wW : Nat → Int32) (ln : Int32) (lS : Nat → Int32)   : ∀ (n : Nat) (rpo : Int32) (rco : Int32) (tcp : Int32) (tkd : Int32) (tsd : Int32) (tlm : Int32) (tfu : Int32) (ttb : Int32) (trb : Int32) (tgr : Int32) (tK : Nat → Int32) (tV : Nat → Int32) (tO : Nat → Int32) (tW : Nat → Int32) (bcp : Int32) (bkd : Int32) (bsd : Int32) (blm : Int32) (bfu : Int32) (btb : Int32) (brb : Int32) (bgr : Int32) (bK : Nat → Int32) (bV : Nat → Int32) (hnw : Int32) (hct : Int32) (pl : Int32) (pp : Int32) (pn : Int32) (pS : Nat → Int32) (pV : Nat → Int32) (pO : Nat → Int32) (pW : Nat → Int32) (hp : Nat → hTT) (v2 : Int32), fX6_run_55 n rpo rco tcp tkd tsd tlm tfu ttb trb tgr tK tV tO tW bcp bkd bsd blm bfu btb brb bgr bK bV hnw hct pl pp pn pS pV pO pW hp v2 = some out → gG p l e rmX6_run s m args below meth c D A 3 (vx_MQ below (hXi D (labW cC cI cO L0 h0 h1 h2 h3 h4 e0 e1 e2 e3 e4 b0 b1 b2 b3 b4 w0 w1 w2 w3 w4 q0 q1 p0 p1 p2 p3 p4 l0 l1 hb isv out.2.1 out.2.2.1 out.2.2.2.1 out.2.2.2.2.1 out.2.2.2.2.2.1 out.2.2.2.2.2.2.1 out.2.2.2.2.2.2.2.1 out.2.2.2.2.2.2.2.2.1 out.2.2.2.2.2.2.2.2.2.1 out.2.2.2.2.2.2.2.2.2.2.1 out.2.2.2.2.2.2.2.2.2.2.2.1 out.2.2.2.2.2.2.2.2.2.2.2.2.1 out.2.2.2.2.2.2.2.2.2.2.2.2.2.1 out.2.2.2.2.2.2.2.2.2.2.2.2.2.2.1 ecp ekd esd elm efu etb erb egr eK eV eO eW out.2.2.2.2.2.2.2.2.2.2.2.2.2.2.2.1 out.2.2.2.2.2.2.2.2.2.2.2.2.2.2.2.2.1 out.2.2.2.2.2.2.2.2.2.2.2.2.2.2.2.2.2.1 out.2.2.2.2.2.2.2.2.2.2.2.2.2.2.2.2.2.2.1 out.2.2.2.2.2.2.2.2.2.2.2.2.2.2.2.2.2.2.2.1 out.2.2.2.2.2.2.2.2.2.2.2.2.2.2.2.2.2.2.2.2.1 out.2.2.2.2.2.2.2.2.2.2.2.2.2.2.2.2.2.2.2.2.2.1 out.2.2.2.2.2.2.2.2.2.2.2.2.2.2.2.2.2.2.2.2.2.2.1 out.2.2.2.2.2.2.2.2.2.2.2.2.2.2.2.2.2.2.2.2.2.2.2.1 out.2.2.2.2.2.2.2.2.2.2.2.2.2.2.2.2.2.2.2.2.2.2.2.2.1 bO bW wcp wkd wsd wlm wfu wtb wrb wgr wK wV wO wW out.2.2.2.2.2.2.2.2.2.2.2.2.2.2.2.2.2.2.2.2.2.2.2.2.2.1 out.2.2.2.2.2.2.2.2.2.2.2.2.2.2.2.2.2.2.2.2.2.2.2.2.2.2.1 out.2.2.2.2.2.2.2.2.2.2.2.2.2.2.2.2.2.2.2.2.2.2.2.2.2.2.2.1 out.2.2.2.2.2.2.2.2.2.2.2.2.2.2.2.2.2.2.2.2.2.2.2.2.2.2.2.2.1 out.2.2.2.2.2.2.2.2.2.2.2.2.2.2.2.2.2.2.2.2.2.2.2.2.2.2.2.2.2.1 pS out.2.2.2.2.2.2.2.2.2.2.2.2.2.2.2.2.2.2.2.2.2.2.2.2.2.2.2.2.2.2.1 out.2.2.2.2.2.2.2.2.2.2.2.2.2.2.2.2.2.2.2.2.2.2.2.2.2.2.2.2.2.2.2.1 out.2.2.2.2.2.2.2.2.2.2.2.2.2.2.2.2.2.2.2.2.2.2.2.2.2.2.2.2.2.2.2.2.1 ln lS out.2.2.2.2.2.2.2.2.2.2.2.2.2.2.2.2.2.2.2.2.2.2.2.2.2.2.2.2.2.2.2.2.2) out.1 A) (hXX D (labW cC cI cO L0 h0 h1 h2 h3 h4 e0 e1 e2 e3 e4 b0 b1 b2 b3 b4 w0 w1 w2 w3 w4 q0 q1 p0 p1 p2 p3 p4 l0 l1 hb isv out.2.1 out.2.2.1 out.2.2.2.1 out.2.2.2.2.1 out.2.2.2.2.2.1 out.2.2.2.2.2.2.1 out.2.2.2.2.2.2.2.1 out.2.2.2.2.2.2.2.2.1 out.2.2.2.2.2.2.2.2.2.1 out.2.2.2.2.2.2.2.2.2.2.1 out.2.2.2.2.2.2.2.2.2.2.2.1 out.2.2.2.2.2.2.2.2.2.2.2.2.1 out.2.2.2.2.2.2.2.2.2.2.2.2.2.1 out.2.2.2.2.2.2.2.2.2.2.2.2.2.2.1 ecp ekd esd elm efu etb erb egr eK eV eO eW out.2.2.2.2.2.2.2.2.2.2.2.2.2.2.2.1 out.2.2.2.2.2.2.2.2.2.2.2.2.2.2.2.2.1 out.2.2.2.2.2.2.2.2.2.2.2.2.2.2.2.2.2.1 out.2.2.2.2.2.2.2.2.2.2.2.2.2.2.2.2.2.2.1 out.2.2.2.2.2.2.2.2.2.2.2.2.2.2.2.2.2.2.2.1 out.2.2.2.2.2.2.2.2.2.2.2.2.2.2.2.2.2.2.2.2.1 out.2.2.2.2.2.2.2.2.2.2.2.2.2.2.2.2.2.2.2.2.2.1 out.2.2.2.2.2.2.2.2.2.2.2.2.2.2.2.2.2.2.2.2.2.2.1 out.2.2.2.2.2.2.2.2.2.2.2.2.2.2.2.2.2.2.2.2.2.2.2.1 out.2.2.2.2.2.2.2.2.2.2.2.2.2.2.2.2.2.2.2.2.2.2.2.2.1 bO bW wcp wkd wsd wlm wfu wtb wrb wgr wK wV wO wW out.2.2.2.2.2.2.2.2.2.2.2.2.2.2.2.2.2.2.2.2.2.2.2.2.2.1 out.2.2.2.2.2.2.2.2.2.2.2.2.2.2.2.2.2.2.2.2.2.2.2.2.2.2.1 out.2.2.2.2.2.2.2.2.2.2.2.2.2.2.2.2.2.2.2.2.2.2.2.2.2.2.2.1 out.2.2.2.2.2.2.2.2.2.2.2.2.2.2.2.2.2.2.2.2.2.2.2.2.2.2.2.2.1 out.2.2.2.2.2.2.2.2.2.2.2.2.2.2.2.2.2.2.2.2.2.2.2.2.2.2.2.2.2.1 pS out.2.2.2.2.2.2.2.2.2.2.2.2.2.2.2.2.2.2.2.2.2.2.2.2.2.2.2.2.2.2.1 out.2.2.2.2.2.2.2.2.2.2.2.2.2.2.2.2.2.2.2.2.2.2.2.2.2.2.2.2.2.2.2.1 out.2.2.2.2.2.2.2.2.2.2.2.2.2.2.2.2.2.2.2.2.2.2.2.2.2.2.2.2.2.2.2.2.1 ln lS out.2.2.2.2.2.2.2.2.2.2.2.2.2.2.2.2.2.2.2.2.2.2.2.2.2.2.2.2.2.2.2.2.2) out.1 A) args s 1 6 A) 0 0 55 [(0, .ref L0), (2, .int v2)] [] (labW cC cI cO L0 h0 h1 h2 h3 h4 e0 e1 e2 e3 e4 b0 b1 b2 b3 b4 w0 w1 w2 w3 w4 q0 q1 p0 p1 p2 p3 p4 l0 l1 hb isv rpo rco tcp tkd tsd tlm tfu ttb trb tgr tK tV tO tW ecp ekd esd elm efu etb erb egr eK eV eO eW bcp bkd bsd blm bfu btb brb bgr bK bV bO bW wcp wkd wsd wlm wfu wtb wrb wgr wK wV wO wW hnw hct pl pp pn pS pV pO pW ln lS hp) := by
  intro n
  induction n with
  | zero => intro rpo rco tcp tkd tsd tlm tfu ttb trb tgr tK tV tO tW bcp bkd bsd blm bfu btb brb bgr bK bV hnw hct pl pp pn pS pV pO pW hp v2 hf; rw [fX6_run_55] at hf; cases hf
  | succ n ih =>
    intro rpo rco tcp tkd tsd tlm tfu ttb trb tgr tK tV tO tW bcp bkd bsd blm bfu btb brb bgr bK bV hnw hct pl pp pn pS pV pO pW hp v2 hf
    rw [fX6_run_55] at hf
    refine g_iload_n C0 dX6_run_55 rfl 1 rfl ?_
    refine g_aload_n C0 dX6_run_56 rfl 0 rfl ?_
    refine g_get C0 hinX6 0 rfl rfl 5 (by decide) q_229 rfl dX6_run_57 ?_
    refine g_getN C0 hinX4 23 rfl rfl 6 (by decide) q_193 rfl dX6_run_60 ?_
    refine g_icmp_ge C0 (tgt := 80) dX6_run_63 (by decide) (fun c4 => ?_) (fun c4 => ?_)
    · rw [if_pos c4] at hf
      refine g_lv [0, 1] (lv' := [(0, .ref L0), (2, .int v2)]) rfl ?_
      exact bX6_run_80 C0 E0 Z0 hl0 T0 L0 h0 h1 h2 h3 h4 e0 e1 e2 e3 e4 b0 b1 b2 b3 b4 w0 w1 w2 w3 w4 q0 q1 p0 p1 p2 p3 p4 l0 l1 hb out isv ecp ekd esd elm efu etb erb egr eK eV eO eW bO bW wcp wkd wsd wlm wfu wtb wrb wgr wK wV wO wW ln lS  rpo rco tcp tkd tsd tlm tfu ttb trb tgr tK tV tO tW bcp bkd bsd blm bfu btb brb bgr bK bV hnw hct pl pp pn pS pV pO pW hp v2 hf
    · rw [if_neg c4] at hf
      refine g_aload_n C0 dX6_run_66 rfl 0 rfl ?_
      refine g_iload_n C0 dX6_run_67 rfl 1 rfl ?_
      obtain ⟨r5, er5, hf⟩ := hl_bd hf
      try dsimp only at hf
      refine g_callViW C0 (st := []) (w1 := (labW cC cI cO L0 h0 h1 h2 h3 h4 e0 e1 e2 e3 e4 b0 b1 b2 b3 b4 w0 w1 w2 w3 w4 q0 q1 p0 p1 p2 p3 p4 l0 l1 hb isv rpo rco r5.2.1 r5.2.2.1 r5.2.2.2.1 r5.2.2.2.2.1 r5.2.2.2.2.2.1 r5.2.2.2.2.2.2.1 r5.2.2.2.2.2.2.2.1 r5.2.2.2.2.2.2.2.2.1 r5.2.2.2.2.2.2.2.2.2.1 r5.2.2.2.2.2.2.2.2.2.2.1 r5.2.2.2.2.2.2.2.2.2.2.2.1 r5.2.2.2.2.2.2.2.2.2.2.2.2 ecp ekd esd elm efu etb erb egr eK eV eO eW bcp bkd bsd blm bfu btb brb bgr bK bV bO bW wcp wkd wsd wlm wfu wtb wrb wgr wK wV wO wW hnw hct pl pp pn pS pV pO pW ln lS hp)) (mX6_execute l D cC cI cO  L0 h0 h1 h2 h3 h4 e0 e1 e2 e3 e4 b0 b1 b2 b3 b4 w0 w1 w2 w3 w4 q0 q1 p0 p1 p2 p3 p4 l0 l1 hb isv rpo rco tcp tkd tsd tlm tfu ttb trb tgr tK tV tO tW ecp ekd esd elm efu etb erb egr eK eV eO eW bcp bkd bsd blm bfu btb brb bgr bK bV bO bW wcp wkd wsd wlm wfu wtb wrb wgr wK wV wO wW hnw hct pl pp pn pS pV pO pW ln lS hp v2 r5 er5) hmX6_execute q_1051 ⟨Nat.le_of_ble_eq_true rfl, Nat.le_of_ble_eq_true rfl⟩ ⟨Nat.le_of_ble_eq_true rfl, Nat.le_of_ble_eq_true rfl⟩ rfl rfl rfl rfl 0 rfl rfl rfl (Nat.le_of_ble_eq_true rfl) dX6_run_68 ?_
      refine g_if_eq C0 (tgt := 80) dX6_run_71 (by decide) (fun c6 => ?_) (fun c6 => ?_)
      · rw [if_pos c6] at hf
        refine g_lv [0, 1] (lv' := [(0, .ref L0), (2, .int v2)]) rfl ?_
        exact bX6_run_80 C0 E0 Z0 hl0 T0 L0 h0 h1 h2 h3 h4 e0 e1 e2 e3 e4 b0 b1 b2 b3 b4 w0 w1 w2 w3 w4 q0 q1 p0 p1 p2 p3 p4 l0 l1 hb out isv ecp ekd esd elm efu etb erb egr eK eV eO eW bO bW wcp wkd wsd wlm wfu wtb wrb wgr wK wV wO wW ln lS  rpo rco r5.2.1 r5.2.2.1 r5.2.2.2.1 r5.2.2.2.2.1 r5.2.2.2.2.2.1 r5.2.2.2.2.2.2.1 r5.2.2.2.2.2.2.2.1 r5.2.2.2.2.2.2.2.2.1 r5.2.2.2.2.2.2.2.2.2.1 r5.2.2.2.2.2.2.2.2.2.2.1 r5.2.2.2.2.2.2.2.2.2.2.2.1 r5.2.2.2.2.2.2.2.2.2.2.2.2 bcp bkd bsd blm bfu btb brb bgr bK bV hnw hct pl pp pn pS pV pO pW hp v2 hf
      · rw [if_neg c6] at hf
        refine g_iinc C0 (lv' := [(2, .int (v2 + (1 : Int32))), (0, .ref L0)]) dX6_run_74 1 rfl rfl (by decide) rfl ?_
        refine g_goto C0 (tgt := 55) dX6_run_77 (by decide) ?_
        refine g_lv [1, 0] (lv' := [(0, .ref L0), (2, .int (v2 + (1 : Int32)))]) rfl ?_
        exact ih rpo rco r5.2.1 r5.2.2.1 r5.2.2.2.1 r5.2.2.2.2.1 r5.2.2.2.2.2.1 r5.2.2.2.2.2.2.1 r5.2.2.2.2.2.2.2.1 r5.2.2.2.2.2.2.2.2.1 r5.2.2.2.2.2.2.2.2.2.1 r5.2.2.2.2.2.2.2.2.2.2.1 r5.2.2.2.2.2.2.2.2.2.2.2.1 r5.2.2.2.2.2.2.2.2.2.2.2.2 bcp bkd bsd blm bfu btb brb bgr bK bV hnw hct pl pp pn pS pV pO pW hp (v2 + (1 : Int32)) hf
set_option maxHeartbeats 4000000 in
set_option maxRecDepth 100000 in
theorem bX6_run {p : Program} {l : Launch} {e : Env} {s : State} {m : MethodId} {args : Array Value} {below : List Frame} {meth : Method} {c : Code} {D : va_G} {cC cI cO : ClassId} {A : Nat → Prop} {adK adV : Nat → Nat} (C0 : gC RX6 cX6_run 3 (some .int) p s m args meth c D (hTy cC cI cO) A) (E0 : hSt adK adV A s) (Z0 : hZ A s) (hl0 : l.stackTraces = false) (T0 : ∀ x ∈ c.exceptionTable.toList, False) (L0 h0 h1 h2 h3 h4 e0 e1 e2 e3 e4 b0 b1 b2 b3 b4 w0 w1 w2 w3 w4 q0 q1 p0 p1 p2 p3 p4 l0 l1 : Nat) (hb : Nat → Nat → Nat) (out : (Int32 ⊕ Nat) × Int32 × Int32 × Int32 × Int32 × Int32 × Int32 × Int32 × Int32 × Int32 × Int32 × (Nat → Int32) × (Nat → Int32) × (Nat → Int32) × (Nat → Int32) × Int32 × Int32 × Int32 × Int32 × Int32 × Int32 × Int32 × Int32 × (Nat → Int32) × (Nat → Int32) × Int32 × Int32 × Int32 × Int32 × Int32 × (Nat → Int32) × (Nat → Int32) × (Nat → Int32) × (Nat → hTT)) (isv : Int32) (rpo : Int32) (rco : Int32) (tcp : Int32) (tkd : Int32) (tsd : Int32) (tlm : Int32) (tfu : Int32) (ttb : Int32) (trb : Int32) (tgr : Int32) (tK : Nat → Int32) (tV : Nat → Int32) (tO : Nat → Int32) (tW : Nat → Int32) (ecp : Int32) (ekd : Int32) (esd : Int32) (elm : Int32) (efu : Int32) (etb : Int32) (erb : Int32) (egr : Int32) (eK : Nat → Int32) (eV : Nat → Int32) (eO : Nat → Int32) (eW : Nat → Int32) (bcp : Int32) (bkd : Int32) (bsd : Int32) (blm : Int32) (bfu : Int32) (btb : Int32) (brb : Int32) (bgr : Int32) (bK : Nat → Int32) (bV : Nat → Int32) (bO : Nat → Int32) (bW : Nat → Int32) (wcp : Int32) (wkd : Int32) (wsd : Int32) (wlm : Int32) (wfu : Int32) (wtb : Int32) (wrb : Int32) (wgr : Int32) (wK : Nat → Int32) (wV : Nat → Int32) (wO : Nat → Int32) (wW : Nat → Int32) (hnw : Int32) (hct : Int32) (pl : Int32) (pp : Int32) (pn : Int32) (pS : Nat → Int32) (pV : Nat → Int32) (pO : Nat → Int32) (pW : Nat → Int32) (ln : Int32) (lS : Nat → Int32) (hp : Nat → hTT)  (hf : fX6_run rpo rco tcp tkd tsd tlm tfu ttb trb tgr tK tV tO tW bcp bkd bsd blm bfu btb brb bgr bK bV hnw hct pl pp pn pS pV pO pW hp = some out) : gG p l e rmX6_run s m args below meth c D A 3 (vx_MQ below (hXi D (labW cC cI cO L0 h0 h1 h2 h3 h4 e0 e1 e2 e3 e4 b0 b1 b2 b3 b4 w0 w1 w2 w3 w4 q0 q1 p0 p1 p2 p3 p4 l0 l1 hb isv out.2.1 out.2.2.1 out.2.2.2.1 out.2.2.2.2.1 out.2.2.2.2.2.1 out.2.2.2.2.2.2.1 out.2.2.2.2.2.2.2.1 out.2.2.2.2.2.2.2.2.1 out.2.2.2.2.2.2.2.2.2.1 out.2.2.2.2.2.2.2.2.2.2.1 out.2.2.2.2.2.2.2.2.2.2.2.1 out.2.2.2.2.2.2.2.2.2.2.2.2.1 out.2.2.2.2.2.2.2.2.2.2.2.2.2.1 out.2.2.2.2.2.2.2.2.2.2.2.2.2.2.1 ecp ekd esd elm efu etb erb egr eK eV eO eW out.2.2.2.2.2.2.2.2.2.2.2.2.2.2.2.1 out.2.2.2.2.2.2.2.2.2.2.2.2.2.2.2.2.1 out.2.2.2.2.2.2.2.2.2.2.2.2.2.2.2.2.2.1 out.2.2.2.2.2.2.2.2.2.2.2.2.2.2.2.2.2.2.1 out.2.2.2.2.2.2.2.2.2.2.2.2.2.2.2.2.2.2.2.1 out.2.2.2.2.2.2.2.2.2.2.2.2.2.2.2.2.2.2.2.2.1 out.2.2.2.2.2.2.2.2.2.2.2.2.2.2.2.2.2.2.2.2.2.1 out.2.2.2.2.2.2.2.2.2.2.2.2.2.2.2.2.2.2.2.2.2.2.1 out.2.2.2.2.2.2.2.2.2.2.2.2.2.2.2.2.2.2.2.2.2.2.2.1 out.2.2.2.2.2.2.2.2.2.2.2.2.2.2.2.2.2.2.2.2.2.2.2.2.1 bO bW wcp wkd wsd wlm wfu wtb wrb wgr wK wV wO wW out.2.2.2.2.2.2.2.2.2.2.2.2.2.2.2.2.2.2.2.2.2.2.2.2.2.1 out.2.2.2.2.2.2.2.2.2.2.2.2.2.2.2.2.2.2.2.2.2.2.2.2.2.2.1 out.2.2.2.2.2.2.2.2.2.2.2.2.2.2.2.2.2.2.2.2.2.2.2.2.2.2.2.1 out.2.2.2.2.2.2.2.2.2.2.2.2.2.2.2.2.2.2.2.2.2.2.2.2.2.2.2.2.1 out.2.2.2.2.2.2.2.2.2.2.2.2.2.2.2.2.2.2.2.2.2.2.2.2.2.2.2.2.2.1 pS out.2.2.2.2.2.2.2.2.2.2.2.2.2.2.2.2.2.2.2.2.2.2.2.2.2.2.2.2.2.2.1 out.2.2.2.2.2.2.2.2.2.2.2.2.2.2.2.2.2.2.2.2.2.2.2.2.2.2.2.2.2.2.2.1 out.2.2.2.2.2.2.2.2.2.2.2.2.2.2.2.2.2.2.2.2.2.2.2.2.2.2.2.2.2.2.2.2.1 ln lS out.2.2.2.2.2.2.2.2.2.2.2.2.2.2.2.2.2.2.2.2.2.2.2.2.2.2.2.2.2.2.2.2.2) out.1 A) (hXX D (labW cC cI cO L0 h0 h1 h2 h3 h4 e0 e1 e2 e3 e4 b0 b1 b2 b3 b4 w0 w1 w2 w3 w4 q0 q1 p0 p1 p2 p3 p4 l0 l1 hb isv out.2.1 out.2.2.1 out.2.2.2.1 out.2.2.2.2.1 out.2.2.2.2.2.1 out.2.2.2.2.2.2.1 out.2.2.2.2.2.2.2.1 out.2.2.2.2.2.2.2.2.1 out.2.2.2.2.2.2.2.2.2.1 out.2.2.2.2.2.2.2.2.2.2.1 out.2.2.2.2.2.2.2.2.2.2.2.1 out.2.2.2.2.2.2.2.2.2.2.2.2.1 out.2.2.2.2.2.2.2.2.2.2.2.2.2.1 out.2.2.2.2.2.2.2.2.2.2.2.2.2.2.1 ecp ekd esd elm efu etb erb egr eK eV eO eW out.2.2.2.2.2.2.2.2.2.2.2.2.2.2.2.1 out.2.2.2.2.2.2.2.2.2.2.2.2.2.2.2.2.1 out.2.2.2.2.2.2.2.2.2.2.2.2.2.2.2.2.2.1 out.2.2.2.2.2.2.2.2.2.2.2.2.2.2.2.2.2.2.1 out.2.2.2.2.2.2.2.2.2.2.2.2.2.2.2.2.2.2.2.1 out.2.2.2.2.2.2.2.2.2.2.2.2.2.2.2.2.2.2.2.2.1 out.2.2.2.2.2.2.2.2.2.2.2.2.2.2.2.2.2.2.2.2.2.1 out.2.2.2.2.2.2.2.2.2.2.2.2.2.2.2.2.2.2.2.2.2.2.1 out.2.2.2.2.2.2.2.2.2.2.2.2.2.2.2.2.2.2.2.2.2.2.2.1 out.2.2.2.2.2.2.2.2.2.2.2.2.2.2.2.2.2.2.2.2.2.2.2.2.1 bO bW wcp wkd wsd wlm wfu wtb wrb wgr wK wV wO wW out.2.2.2.2.2.2.2.2.2.2.2.2.2.2.2.2.2.2.2.2.2.2.2.2.2.1 out.2.2.2.2.2.2.2.2.2.2.2.2.2.2.2.2.2.2.2.2.2.2.2.2.2.2.1 out.2.2.2.2.2.2.2.2.2.2.2.2.2.2.2.2.2.2.2.2.2.2.2.2.2.2.2.1 out.2.2.2.2.2.2.2.2.2.2.2.2.2.2.2.2.2.2.2.2.2.2.2.2.2.2.2.2.1 out.2.2.2.2.2.2.2.2.2.2.2.2.2.2.2.2.2.2.2.2.2.2.2.2.2.2.2.2.2.1 pS out.2.2.2.2.2.2.2.2.2.2.2.2.2.2.2.2.2.2.2.2.2.2.2.2.2.2.2.2.2.2.1 out.2.2.2.2.2.2.2.2.2.2.2.2.2.2.2.2.2.2.2.2.2.2.2.2.2.2.2.2.2.2.2.1 out.2.2.2.2.2.2.2.2.2.2.2.2.2.2.2.2.2.2.2.2.2.2.2.2.2.2.2.2.2.2.2.2.1 ln lS out.2.2.2.2.2.2.2.2.2.2.2.2.2.2.2.2.2.2.2.2.2.2.2.2.2.2.2.2.2.2.2.2.2) out.1 A) args s 1 6 A) 0 0 0 [(0, .ref L0)] [] (labW cC cI cO L0 h0 h1 h2 h3 h4 e0 e1 e2 e3 e4 b0 b1 b2 b3 b4 w0 w1 w2 w3 w4 q0 q1 p0 p1 p2 p3 p4 l0 l1 hb isv rpo rco tcp tkd tsd tlm tfu ttb trb tgr tK tV tO tW ecp ekd esd elm efu etb erb egr eK eV eO eW bcp bkd bsd blm bfu btb brb bgr bK bV bO bW wcp wkd wsd wlm wfu wtb wrb wgr wK wV wO wW hnw hct pl pp pn pS pV pO pW ln lS hp) := by
  unfold fX6_run at hf
  refine g_aload_n C0 dX6_run_0 rfl 0 rfl ?_
  refine g_get C0 hinX6 0 rfl rfl 5 (by decide) q_229 rfl dX6_run_1 ?_
  obtain ⟨r1, er1, hf⟩ := hl_bd hf
  try dsimp only at hf
  refine g_callEVi C0 (hSt_ok adK adV) E0 (ws' := (labW cC cI cO L0 h0 h1 h2 h3 h4 e0 e1 e2 e3 e4 b0 b1 b2 b3 b4 w0 w1 w2 w3 w4 q0 q1 p0 p1 p2 p3 p4 l0 l1 hb isv rpo rco tcp tkd tsd tlm tfu ttb trb tgr tK tV tO tW ecp ekd esd elm efu etb erb egr eK eV eO eW bcp bkd bsd blm bfu btb brb bgr bK bV bO bW wcp wkd wsd wlm wfu wtb wrb wgr wK wV wO wW hnw hct pl r1.2.1 r1.2.2.1 pS r1.2.2.2.1 r1.2.2.2.2.1 r1.2.2.2.2.2 ln lS hp)) (mX4_parse l D cC cI cO adK adV  p0 p1 p2 p3 p4 pl pp pn pS pV pO pW  r1 er1) hmX4_parse q_941 ⟨Nat.le_of_ble_eq_true rfl, Nat.le_of_ble_eq_true rfl⟩ ⟨Nat.le_of_ble_eq_true rfl, Nat.le_of_ble_eq_true rfl⟩ rfl rfl [23, 24, 25, 26, 27] rfl rfl rfl rfl rfl 0 rfl rfl rfl (Nat.le_of_ble_eq_true rfl) dX6_run_4 ?_
  refine g_istore_n C0 (lv' := [(1, .int r1.1), (0, .ref L0)]) dX6_run_7 rfl (by decide) rfl ?_
  refine g_aload_n C0 dX6_run_8 rfl 1 rfl ?_
  refine g_get C0 hinX6 0 rfl rfl 5 (by decide) q_229 rfl dX6_run_9 ?_
  refine g_iconst C0 (v := (0 : Int32)) dX6_run_12 (by decide) ?_
  refine g_putN C0 (ws' := (labW cC cI cO L0 h0 h1 h2 h3 h4 e0 e1 e2 e3 e4 b0 b1 b2 b3 b4 w0 w1 w2 w3 w4 q0 q1 p0 p1 p2 p3 p4 l0 l1 hb isv rpo rco tcp tkd tsd tlm tfu ttb trb tgr tK tV tO tW ecp ekd esd elm efu etb erb egr eK eV eO eW bcp bkd bsd blm bfu btb brb bgr bK bV bO bW wcp wkd wsd wlm wfu wtb wrb wgr wK wV wO wW hnw hct (0 : Int32) r1.2.1 r1.2.2.1 pS r1.2.2.2.1 r1.2.2.2.2.1 r1.2.2.2.2.2 ln lS hp)) hinX4 23 rfl rfl 4 (by decide) q_189 tyX4_ok nmX4 rfl rfl rfl (Nat.le_of_ble_eq_true rfl) rfl dX6_run_13 ?_
  refine g_iload_n C0 dX6_run_16 rfl 0 rfl ?_
  refine g_if_ne C0 (tgt := 42) dX6_run_17 (by decide) (fun c2 => ?_) (fun c2 => ?_)
  · rw [if_neg c2] at hf
    refine g_aload_n C0 dX6_run_42 rfl 1 rfl ?_
    refine g_get C0 hinX6 0 rfl rfl 2 (by decide) q_226 rfl dX6_run_43 ?_
    refine g_aload_n C0 dX6_run_46 rfl 1 rfl ?_
    refine g_get C0 hinX6 0 rfl rfl 0 (by decide) q_224 rfl dX6_run_47 ?_
    obtain ⟨r3, er3, hf⟩ := hl_bd hf
    try dsimp only at hf
    refine g_callVv C0 (ws' := (labW cC cI cO L0 h0 h1 h2 h3 h4 e0 e1 e2 e3 e4 b0 b1 b2 b3 b4 w0 w1 w2 w3 w4 q0 q1 p0 p1 p2 p3 p4 l0 l1 hb isv rpo rco tcp tkd tsd tlm tfu ttb trb tgr tK tV tO tW ecp ekd esd elm efu etb erb egr eK eV eO eW r3.1 r3.2.1 r3.2.2.1 r3.2.2.2.1 r3.2.2.2.2.1 r3.2.2.2.2.2.1 r3.2.2.2.2.2.2.1 r3.2.2.2.2.2.2.2.1 r3.2.2.2.2.2.2.2.2.1 r3.2.2.2.2.2.2.2.2.2 bO bW wcp wkd wsd wlm wfu wtb wrb wgr wK wV wO wW hnw hct (0 : Int32) r1.2.1 r1.2.2.1 pS r1.2.2.2.1 r1.2.2.2.2.1 r1.2.2.2.2.2 ln lS hp)) (mX5_copyFrom l D cC cI cO  b0 b1 b2 b3 b4 h0 h1 h2 h3 h4 bcp bkd bsd blm bfu btb brb bgr bK bV bO bW tcp tkd tsd tlm tfu ttb trb tgr tK tV tO tW  r3 er3) hmX5_copyFrom q_470 ⟨Nat.le_of_ble_eq_true rfl, Nat.le_of_ble_eq_true rfl⟩ ⟨Nat.le_of_ble_eq_true rfl, Nat.le_of_ble_eq_true rfl⟩ rfl rfl [11, 12, 13, 14, 15, 1, 2, 3, 4, 5] rfl rfl rfl rfl rfl 0 rfl rfl rfl (Nat.le_of_ble_eq_true rfl) dX6_run_50 ?_
    refine g_iconst C0 (v := (0 : Int32)) dX6_run_53 (by decide) ?_
    refine g_istore_n C0 (lv' := [(2, .int (0 : Int32)), (1, .int r1.1), (0, .ref L0)]) dX6_run_54 rfl (by decide) rfl ?_
    refine g_lv [2, 0] (lv' := [(0, .ref L0), (2, .int (0 : Int32))]) rfl ?_
    exact bX6_run_55 C0 E0 Z0 hl0 T0 L0 h0 h1 h2 h3 h4 e0 e1 e2 e3 e4 b0 b1 b2 b3 b4 w0 w1 w2 w3 w4 q0 q1 p0 p1 p2 p3 p4 l0 l1 hb out isv ecp ekd esd elm efu etb erb egr eK eV eO eW bO bW wcp wkd wsd wlm wfu wtb wrb wgr wK wV wO wW ln lS  1000 rpo rco tcp tkd tsd tlm tfu ttb trb tgr tK tV tO tW r3.1 r3.2.1 r3.2.2.1 r3.2.2.2.1 r3.2.2.2.2.1 r3.2.2.2.2.2.1 r3.2.2.2.2.2.2.1 r3.2.2.2.2.2.2.2.1 r3.2.2.2.2.2.2.2.2.1 r3.2.2.2.2.2.2.2.2.2 hnw hct (0 : Int32) r1.2.1 r1.2.2.1 pS r1.2.2.2.1 r1.2.2.2.2.1 r1.2.2.2.2.2 hp (0 : Int32) hf
  · rw [if_pos c2] at hf
    refine g_aload_n C0 dX6_run_20 rfl 1 rfl ?_
    refine g_aload_n C0 dX6_run_21 rfl 1 rfl ?_
    refine g_get C0 hinX6 0 rfl rfl 5 (by decide) q_229 rfl dX6_run_22 ?_
    refine g_getN C0 hinX4 23 rfl rfl 5 (by decide) q_191 rfl dX6_run_25 ?_
    refine g_put C0 (ws' := (labW cC cI cO L0 h0 h1 h2 h3 h4 e0 e1 e2 e3 e4 b0 b1 b2 b3 b4 w0 w1 w2 w3 w4 q0 q1 p0 p1 p2 p3 p4 l0 l1 hb isv r1.2.1 rco tcp tkd tsd tlm tfu ttb trb tgr tK tV tO tW ecp ekd esd elm efu etb erb egr eK eV eO eW bcp bkd bsd blm bfu btb brb bgr bK bV bO bW wcp wkd wsd wlm wfu wtb wrb wgr wK wV wO wW hnw hct (0 : Int32) r1.2.1 r1.2.2.1 pS r1.2.2.2.1 r1.2.2.2.2.1 r1.2.2.2.2.2 ln lS hp)) hinX6 0 rfl rfl 8 (by decide) q_232 tyX6_ok nmX6 rfl rfl rfl (Nat.le_of_ble_eq_true rfl) rfl dX6_run_28 ?_
    cases hf
    exact g_throwW (text := "the text is not a program") C0 Z0 hl0 T0 tw_1 (by decide +kernel) dX6_run_31 dX6_run_34 dX6_run_35 dX6_run_38 dX6_run_41 (Nat.le_of_ble_eq_true rfl) (Nat.le_of_ble_eq_true rfl) (Nat.le_of_ble_eq_true rfl) (Nat.le_of_ble_eq_true rfl) rfl rfl rfl
theorem mX6_run (l : Launch) (hl0 : l.stackTraces = false) (D : va_G) (cC cI cO : ClassId) (adK adV : Nat → Nat) (L0 h0 h1 h2 h3 h4 e0 e1 e2 e3 e4 b0 b1 b2 b3 b4 w0 w1 w2 w3 w4 q0 q1 p0 p1 p2 p3 p4 l0 l1 : Nat) (hb : Nat → Nat → Nat) (isv : Int32) (rpo : Int32) (rco : Int32) (tcp : Int32) (tkd : Int32) (tsd : Int32) (tlm : Int32) (tfu : Int32) (ttb : Int32) (trb : Int32) (tgr : Int32) (tK : Nat → Int32) (tV : Nat → Int32) (tO : Nat → Int32) (tW : Nat → Int32) (ecp : Int32) (ekd : Int32) (esd : Int32) (elm : Int32) (efu : Int32) (etb : Int32) (erb : Int32) (egr : Int32) (eK : Nat → Int32) (eV : Nat → Int32) (eO : Nat → Int32) (eW : Nat → Int32) (bcp : Int32) (bkd : Int32) (bsd : Int32) (blm : Int32) (bfu : Int32) (btb : Int32) (brb : Int32) (bgr : Int32) (bK : Nat → Int32) (bV : Nat → Int32) (bO : Nat → Int32) (bW : Nat → Int32) (wcp : Int32) (wkd : Int32) (wsd : Int32) (wlm : Int32) (wfu : Int32) (wtb : Int32) (wrb : Int32) (wgr : Int32) (wK : Nat → Int32) (wV : Nat → Int32) (wO : Nat → Int32) (wW : Nat → Int32) (hnw : Int32) (hct : Int32) (pl : Int32) (pp : Int32) (pn : Int32) (pS : Nat → Int32) (pV : Nat → Int32) (pO : Nat → Int32) (pW : Nat → Int32) (ln : Int32) (lS : Nat → Int32) (hp : Nat → hTT)  (out : (Int32 ⊕ Nat) × Int32 × Int32 × Int32 × Int32 × Int32 × Int32 × Int32 × Int32 × Int32 × Int32 × (Nat → Int32) × (Nat → Int32) × (Nat → Int32) × (Nat → Int32) × Int32 × Int32 × Int32 × Int32 × Int32 × Int32 × Int32 × Int32 × (Nat → Int32) × (Nat → Int32) × Int32 × Int32 × Int32 × Int32 × Int32 × (Nat → Int32) × (Nat → Int32) × (Nat → Int32) × (Nat → hTT)) (hf : fX6_run rpo rco tcp tkd tsd tlm tfu ttb trb tgr tK tV tO tW bcp bkd bsd blm bfu btb brb bgr bK bV hnw hct pl pp pn pS pV pO pW hp = some out) : ∀ sz, vx_Met l yX6_run (ws_ yX6_run cX6_run 3 (some .int)) rmX6_run (va_Pc [.ref L0] (hPreXE adK adV D (hTy cC cI cO) (labW cC cI cO L0 h0 h1 h2 h3 h4 e0 e1 e2 e3 e4 b0 b1 b2 b3 b4 w0 w1 w2 w3 w4 q0 q1 p0 p1 p2 p3 p4 l0 l1 hb isv rpo rco tcp tkd tsd tlm tfu ttb trb tgr tK tV tO tW ecp ekd esd elm efu etb erb egr eK eV eO eW bcp bkd bsd blm bfu btb brb bgr bK bV bO bW wcp wkd wsd wlm wfu wtb wrb wgr wK wV wO wW hnw hct pl pp pn pS pV pO pW ln lS hp) sz)) (hXi D (labW cC cI cO L0 h0 h1 h2 h3 h4 e0 e1 e2 e3 e4 b0 b1 b2 b3 b4 w0 w1 w2 w3 w4 q0 q1 p0 p1 p2 p3 p4 l0 l1 hb isv out.2.1 out.2.2.1 out.2.2.2.1 out.2.2.2.2.1 out.2.2.2.2.2.1 out.2.2.2.2.2.2.1 out.2.2.2.2.2.2.2.1 out.2.2.2.2.2.2.2.2.1 out.2.2.2.2.2.2.2.2.2.1 out.2.2.2.2.2.2.2.2.2.2.1 out.2.2.2.2.2.2.2.2.2.2.2.1 out.2.2.2.2.2.2.2.2.2.2.2.2.1 out.2.2.2.2.2.2.2.2.2.2.2.2.2.1 out.2.2.2.2.2.2.2.2.2.2.2.2.2.2.1 ecp ekd esd elm efu etb erb egr eK eV eO eW out.2.2.2.2.2.2.2.2.2.2.2.2.2.2.2.1 out.2.2.2.2.2.2.2.2.2.2.2.2.2.2.2.2.1 out.2.2.2.2.2.2.2.2.2.2.2.2.2.2.2.2.2.1 out.2.2.2.2.2.2.2.2.2.2.2.2.2.2.2.2.2.2.1 out.2.2.2.2.2.2.2.2.2.2.2.2.2.2.2.2.2.2.2.1 out.2.2.2.2.2.2.2.2.2.2.2.2.2.2.2.2.2.2.2.2.1 out.2.2.2.2.2.2.2.2.2.2.2.2.2.2.2.2.2.2.2.2.2.1 out.2.2.2.2.2.2.2.2.2.2.2.2.2.2.2.2.2.2.2.2.2.2.1 out.2.2.2.2.2.2.2.2.2.2.2.2.2.2.2.2.2.2.2.2.2.2.2.1 out.2.2.2.2.2.2.2.2.2.2.2.2.2.2.2.2.2.2.2.2.2.2.2.2.1 bO bW wcp wkd wsd wlm wfu wtb wrb wgr wK wV wO wW out.2.2.2.2.2.2.2.2.2.2.2.2.2.2.2.2.2.2.2.2.2.2.2.2.2.1 out.2.2.2.2.2.2.2.2.2.2.2.2.2.2.2.2.2.2.2.2.2.2.2.2.2.2.1 out.2.2.2.2.2.2.2.2.2.2.2.2.2.2.2.2.2.2.2.2.2.2.2.2.2.2.2.1 out.2.2.2.2.2.2.2.2.2.2.2.2.2.2.2.2.2.2.2.2.2.2.2.2.2.2.2.2.1 out.2.2.2.2.2.2.2.2.2.2.2.2.2.2.2.2.2.2.2.2.2.2.2.2.2.2.2.2.2.1 pS out.2.2.2.2.2.2.2.2.2.2.2.2.2.2.2.2.2.2.2.2.2.2.2.2.2.2.2.2.2.2.1 out.2.2.2.2.2.2.2.2.2.2.2.2.2.2.2.2.2.2.2.2.2.2.2.2.2.2.2.2.2.2.2.1 out.2.2.2.2.2.2.2.2.2.2.2.2.2.2.2.2.2.2.2.2.2.2.2.2.2.2.2.2.2.2.2.2.1 ln lS out.2.2.2.2.2.2.2.2.2.2.2.2.2.2.2.2.2.2.2.2.2.2.2.2.2.2.2.2.2.2.2.2.2) out.1 (va_A (labW cC cI cO L0 h0 h1 h2 h3 h4 e0 e1 e2 e3 e4 b0 b1 b2 b3 b4 w0 w1 w2 w3 w4 q0 q1 p0 p1 p2 p3 p4 l0 l1 hb isv rpo rco tcp tkd tsd tlm tfu ttb trb tgr tK tV tO tW ecp ekd esd elm efu etb erb egr eK eV eO eW bcp bkd bsd blm bfu btb brb bgr bK bV bO bW wcp wkd wsd wlm wfu wtb wrb wgr wK wV wO wW hnw hct pl pp pn pS pV pO pW ln lS hp) sz)) (hXX D (labW cC cI cO L0 h0 h1 h2 h3 h4 e0 e1 e2 e3 e4 b0 b1 b2 b3 b4 w0 w1 w2 w3 w4 q0 q1 p0 p1 p2 p3 p4 l0 l1 hb isv out.2.1 out.2.2.1 out.2.2.2.1 out.2.2.2.2.1 out.2.2.2.2.2.1 out.2.2.2.2.2.2.1 out.2.2.2.2.2.2.2.1 out.2.2.2.2.2.2.2.2.1 out.2.2.2.2.2.2.2.2.2.1 out.2.2.2.2.2.2.2.2.2.2.1 out.2.2.2.2.2.2.2.2.2.2.2.1 out.2.2.2.2.2.2.2.2.2.2.2.2.1 out.2.2.2.2.2.2.2.2.2.2.2.2.2.1 out.2.2.2.2.2.2.2.2.2.2.2.2.2.2.1 ecp ekd esd elm efu etb erb egr eK eV eO eW out.2.2.2.2.2.2.2.2.2.2.2.2.2.2.2.1 out.2.2.2.2.2.2.2.2.2.2.2.2.2.2.2.2.1 out.2.2.2.2.2.2.2.2.2.2.2.2.2.2.2.2.2.1 out.2.2.2.2.2.2.2.2.2.2.2.2.2.2.2.2.2.2.1 out.2.2.2.2.2.2.2.2.2.2.2.2.2.2.2.2.2.2.2.1 out.2.2.2.2.2.2.2.2.2.2.2.2.2.2.2.2.2.2.2.2.1 out.2.2.2.2.2.2.2.2.2.2.2.2.2.2.2.2.2.2.2.2.2.1 out.2.2.2.2.2.2.2.2.2.2.2.2.2.2.2.2.2.2.2.2.2.2.1 out.2.2.2.2.2.2.2.2.2.2.2.2.2.2.2.2.2.2.2.2.2.2.2.1 out.2.2.2.2.2.2.2.2.2.2.2.2.2.2.2.2.2.2.2.2.2.2.2.2.1 bO bW wcp wkd wsd wlm wfu wtb wrb wgr wK wV wO wW out.2.2.2.2.2.2.2.2.2.2.2.2.2.2.2.2.2.2.2.2.2.2.2.2.2.1 out.2.2.2.2.2.2.2.2.2.2.2.2.2.2.2.2.2.2.2.2.2.2.2.2.2.2.1 out.2.2.2.2.2.2.2.2.2.2.2.2.2.2.2.2.2.2.2.2.2.2.2.2.2.2.2.1 out.2.2.2.2.2.2.2.2.2.2.2.2.2.2.2.2.2.2.2.2.2.2.2.2.2.2.2.2.1 out.2.2.2.2.2.2.2.2.2.2.2.2.2.2.2.2.2.2.2.2.2.2.2.2.2.2.2.2.2.1 pS out.2.2.2.2.2.2.2.2.2.2.2.2.2.2.2.2.2.2.2.2.2.2.2.2.2.2.2.2.2.2.1 out.2.2.2.2.2.2.2.2.2.2.2.2.2.2.2.2.2.2.2.2.2.2.2.2.2.2.2.2.2.2.2.1 out.2.2.2.2.2.2.2.2.2.2.2.2.2.2.2.2.2.2.2.2.2.2.2.2.2.2.2.2.2.2.2.2.1 ln lS out.2.2.2.2.2.2.2.2.2.2.2.2.2.2.2.2.2.2.2.2.2.2.2.2.2.2.2.2.2.2.2.2.2) out.1 (va_A (labW cC cI cO L0 h0 h1 h2 h3 h4 e0 e1 e2 e3 e4 b0 b1 b2 b3 b4 w0 w1 w2 w3 w4 q0 q1 p0 p1 p2 p3 p4 l0 l1 hb isv rpo rco tcp tkd tsd tlm tfu ttb trb tgr tK tV tO tW ecp ekd esd elm efu etb erb egr eK eV eO eW bcp bkd bsd blm bfu btb brb bgr bK bV bO bW wcp wkd wsd wlm wfu wtb wrb wgr wK wV wO wW hnw hct pl pp pn pS pV pO pW ln lS hp) sz)) 1 6 (va_A (labW cC cI cO L0 h0 h1 h2 h3 h4 e0 e1 e2 e3 e4 b0 b1 b2 b3 b4 w0 w1 w2 w3 w4 q0 q1 p0 p1 p2 p3 p4 l0 l1 hb isv rpo rco tcp tkd tsd tlm tfu ttb trb tgr tK tV tO tW ecp ekd esd elm efu etb erb egr eK eV eO eW bcp bkd bsd blm bfu btb brb bgr bK bV bO bW wcp wkd wsd wlm wfu wtb wrb wgr wK wV wO wW hnw hct pl pp pn pS pV pO pW ln lS hp) sz) :=
  g_metXE (Qf := fun A => hXi D (labW cC cI cO L0 h0 h1 h2 h3 h4 e0 e1 e2 e3 e4 b0 b1 b2 b3 b4 w0 w1 w2 w3 w4 q0 q1 p0 p1 p2 p3 p4 l0 l1 hb isv out.2.1 out.2.2.1 out.2.2.2.1 out.2.2.2.2.1 out.2.2.2.2.2.1 out.2.2.2.2.2.2.1 out.2.2.2.2.2.2.2.1 out.2.2.2.2.2.2.2.2.1 out.2.2.2.2.2.2.2.2.2.1 out.2.2.2.2.2.2.2.2.2.2.1 out.2.2.2.2.2.2.2.2.2.2.2.1 out.2.2.2.2.2.2.2.2.2.2.2.2.1 out.2.2.2.2.2.2.2.2.2.2.2.2.2.1 out.2.2.2.2.2.2.2.2.2.2.2.2.2.2.1 ecp ekd esd elm efu etb erb egr eK eV eO eW out.2.2.2.2.2.2.2.2.2.2.2.2.2.2.2.1 out.2.2.2.2.2.2.2.2.2.2.2.2.2.2.2.2.1 out.2.2.2.2.2.2.2.2.2.2.2.2.2.2.2.2.2.1 out.2.2.2.2.2.2.2.2.2.2.2.2.2.2.2.2.2.2.1 out.2.2.2.2.2.2.2.2.2.2.2.2.2.2.2.2.2.2.2.1 out.2.2.2.2.2.2.2.2.2.2.2.2.2.2.2.2.2.2.2.2.1 out.2.2.2.2.2.2.2.2.2.2.2.2.2.2.2.2.2.2.2.2.2.1 out.2.2.2.2.2.2.2.2.2.2.2.2.2.2.2.2.2.2.2.2.2.2.1 out.2.2.2.2.2.2.2.2.2.2.2.2.2.2.2.2.2.2.2.2.2.2.2.1 out.2.2.2.2.2.2.2.2.2.2.2.2.2.2.2.2.2.2.2.2.2.2.2.2.1 bO bW wcp wkd wsd wlm wfu wtb wrb wgr wK wV wO wW out.2.2.2.2.2.2.2.2.2.2.2.2.2.2.2.2.2.2.2.2.2.2.2.2.2.1 out.2.2.2.2.2.2.2.2.2.2.2.2.2.2.2.2.2.2.2.2.2.2.2.2.2.2.1 out.2.2.2.2.2.2.2.2.2.2.2.2.2.2.2.2.2.2.2.2.2.2.2.2.2.2.2.1 out.2.2.2.2.2.2.2.2.2.2.2.2.2.2.2.2.2.2.2.2.2.2.2.2.2.2.2.2.1 out.2.2.2.2.2.2.2.2.2.2.2.2.2.2.2.2.2.2.2.2.2.2.2.2.2.2.2.2.2.1 pS out.2.2.2.2.2.2.2.2.2.2.2.2.2.2.2.2.2.2.2.2.2.2.2.2.2.2.2.2.2.2.1 out.2.2.2.2.2.2.2.2.2.2.2.2.2.2.2.2.2.2.2.2.2.2.2.2.2.2.2.2.2.2.2.1 out.2.2.2.2.2.2.2.2.2.2.2.2.2.2.2.2.2.2.2.2.2.2.2.2.2.2.2.2.2.2.2.2.1 ln lS out.2.2.2.2.2.2.2.2.2.2.2.2.2.2.2.2.2.2.2.2.2.2.2.2.2.2.2.2.2.2.2.2.2) out.1 A) (Xf := fun A => hXX D (labW cC cI cO L0 h0 h1 h2 h3 h4 e0 e1 e2 e3 e4 b0 b1 b2 b3 b4 w0 w1 w2 w3 w4 q0 q1 p0 p1 p2 p3 p4 l0 l1 hb isv out.2.1 out.2.2.1 out.2.2.2.1 out.2.2.2.2.1 out.2.2.2.2.2.1 out.2.2.2.2.2.2.1 out.2.2.2.2.2.2.2.1 out.2.2.2.2.2.2.2.2.1 out.2.2.2.2.2.2.2.2.2.1 out.2.2.2.2.2.2.2.2.2.2.1 out.2.2.2.2.2.2.2.2.2.2.2.1 out.2.2.2.2.2.2.2.2.2.2.2.2.1 out.2.2.2.2.2.2.2.2.2.2.2.2.2.1 out.2.2.2.2.2.2.2.2.2.2.2.2.2.2.1 ecp ekd esd elm efu etb erb egr eK eV eO eW out.2.2.2.2.2.2.2.2.2.2.2.2.2.2.2.1 out.2.2.2.2.2.2.2.2.2.2.2.2.2.2.2.2.1 out.2.2.2.2.2.2.2.2.2.2.2.2.2.2.2.2.2.1 out.2.2.2.2.2.2.2.2.2.2.2.2.2.2.2.2.2.2.1 out.2.2.2.2.2.2.2.2.2.2.2.2.2.2.2.2.2.2.2.1 out.2.2.2.2.2.2.2.2.2.2.2.2.2.2.2.2.2.2.2.2.1 out.2.2.2.2.2.2.2.2.2.2.2.2.2.2.2.2.2.2.2.2.2.1 out.2.2.2.2.2.2.2.2.2.2.2.2.2.2.2.2.2.2.2.2.2.2.1 out.2.2.2.2.2.2.2.2.2.2.2.2.2.2.2.2.2.2.2.2.2.2.2.1 out.2.2.2.2.2.2.2.2.2.2.2.2.2.2.2.2.2.2.2.2.2.2.2.2.1 bO bW wcp wkd wsd wlm wfu wtb wrb wgr wK wV wO wW out.2.2.2.2.2.2.2.2.2.2.2.2.2.2.2.2.2.2.2.2.2.2.2.2.2.1 out.2.2.2.2.2.2.2.2.2.2.2.2.2.2.2.2.2.2.2.2.2.2.2.2.2.2.1 out.2.2.2.2.2.2.2.2.2.2.2.2.2.2.2.2.2.2.2.2.2.2.2.2.2.2.2.1 out.2.2.2.2.2.2.2.2.2.2.2.2.2.2.2.2.2.2.2.2.2.2.2.2.2.2.2.2.1 out.2.2.2.2.2.2.2.2.2.2.2.2.2.2.2.2.2.2.2.2.2.2.2.2.2.2.2.2.2.1 pS out.2.2.2.2.2.2.2.2.2.2.2.2.2.2.2.2.2.2.2.2.2.2.2.2.2.2.2.2.2.2.1 out.2.2.2.2.2.2.2.2.2.2.2.2.2.2.2.2.2.2.2.2.2.2.2.2.2.2.2.2.2.2.2.1 out.2.2.2.2.2.2.2.2.2.2.2.2.2.2.2.2.2.2.2.2.2.2.2.2.2.2.2.2.2.2.2.2.1 ln lS out.2.2.2.2.2.2.2.2.2.2.2.2.2.2.2.2.2.2.2.2.2.2.2.2.2.2.2.2.2.2.2.2.2) out.1 A) (by decide +kernel) (Nat.le_of_ble_eq_true rfl) rfl (fun C0 E0 Z0 T0 => bX6_run C0 E0 Z0 hl0 T0 L0 h0 h1 h2 h3 h4 e0 e1 e2 e3 e4 b0 b1 b2 b3 b4 w0 w1 w2 w3 w4 q0 q1 p0 p1 p2 p3 p4 l0 l1 hb out isv rpo rco tcp tkd tsd tlm tfu ttb trb tgr tK tV tO tW ecp ekd esd elm efu etb erb egr eK eV eO eW bcp bkd bsd blm bfu btb brb bgr bK bV bO bW wcp wkd wsd wlm wfu wtb wrb wgr wK wV wO wW hnw hct pl pp pn pS pV pO pW ln lS hp  hf)
